def f_X10_wide_7 (y0 : Nat) (t0 : Nat) (x1 : Int32) (n c q : Nat) (K N : Nat → Nat) (G : zG) (V : zI) (L : zL) : Option (Int32 × zS) :=
  (G y0 2).bind fun v1 => (G y0 2).bind fun v2 => (G y0 5).bind fun v3 => (f_X6_open N G v2 v3 V L).bind fun r4 => (f_X2_seekWide N G t0 v1 r4 V L).bind fun r5 => (f_X2_tell N G t0 x1 r5.1 r5.2).bind fun r6 => some (r6, n, c, q, K, N, G, r5.1, r5.2)
def f_X10_wide_3 (y0 : Nat) (t0 : Nat) (x1 : Int32) (n c q : Nat) (K N : Nat → Nat) (G : zG) (V : zI) (L : zL) : Option (Int32 × zS) :=
  (f_X2_init t0 n K N G V L).bind fun r1 => f_X10_wide_7 y0 t0 x1 r1.1 (c + r1.2.1) (q + r1.2.2.1) r1.2.2.2.1 r1.2.2.2.2.1 r1.2.2.2.2.2.1 r1.2.2.2.2.2.2.1 r1.2.2.2.2.2.2.2
def g_X10_wide (y0 : Nat) (x1 : Int32) (n c q : Nat) (K N : Nat → Nat) (G : zG) (V : zI) (L : zL) : Option (Int32 × zS) :=
  f_X10_wide_3 y0 n x1 (n + 1) (c + 1) (q + 8) (kU K n 2) N (kU G n zn0) (kU V n (fun _ => 0)) (kU L n (fun _ => 0))
def f_X10_wide (y0 : Nat) (x1 : Int32) (n : Nat) (K N : Nat → Nat) (G : zG) (V : zI) (L : zL) : Option (Int32 × zS) := g_X10_wide y0 x1 n 0 0 K N G V L
set_option maxHeartbeats 4000000 in
set_option maxRecDepth 100000 in
theorem m_X10_wide_7 (y0 : Nat) (t0 : Nat) (x1 : Int32) (n c q : Nat) (K N : Nat → Nat) (G : zG) (V : zI) (L : zL) {r' : Int32 × zS} (hf : f_X10_wide_7 y0 t0 x1 n c q K N G V L = some r') : c ≤ r'.2.2.1 ∧ q ≤ r'.2.2.2.1 := by
  unfold f_X10_wide_7 at hf
  obtain ⟨v1, hG1, hf⟩ := z_bind hf
  obtain ⟨v2, hG2, hf⟩ := z_bind hf
  obtain ⟨v3, hG3, hf⟩ := z_bind hf
  obtain ⟨r4, hc4, hf⟩ := z_bind hf
  obtain ⟨r5, hc5, hf⟩ := z_bind hf
  obtain ⟨r6, hc6, hf⟩ := z_bind hf
  cases hf
  exact ⟨Nat.le_refl _, Nat.le_refl _⟩

set_option maxHeartbeats 4000000 in
set_option maxRecDepth 100000 in
theorem m_X10_wide_3 (y0 : Nat) (t0 : Nat) (x1 : Int32) (n c q : Nat) (K N : Nat → Nat) (G : zG) (V : zI) (L : zL) {r' : Int32 × zS} (hf : f_X10_wide_3 y0 t0 x1 n c q K N G V L = some r') : c ≤ r'.2.2.1 ∧ q ≤ r'.2.2.2.1 := by
  unfold f_X10_wide_3 at hf
  obtain ⟨r1, hc1, hf⟩ := z_bind hf
  have hm := m_X10_wide_7 y0 t0 x1 r1.1 (c + r1.2.1) (q + r1.2.2.1) r1.2.2.2.1 r1.2.2.2.2.1 r1.2.2.2.2.2.1 r1.2.2.2.2.2.2.1 r1.2.2.2.2.2.2.2 hf
  exact ⟨by omega, by omega⟩

set_option maxHeartbeats 4000000 in
set_option maxRecDepth 100000 in
theorem w_X10_wide_7 {M : zM} {D : va_G} {cy : Nat → ClassId} {ad0 K0 : Nat → Nat} {n0 : Nat} {r' : Int32 × zS} (Z : RZAi M D cy ad0 n0 K0 .int r'.1 r'.2) (hC : M.2.2.2.1.cells = r'.2.2.1 ∧ M.2.2.2.1.slots = r'.2.2.2.1) (y0 : Nat) (t0 : Nat) (x1 : Int32) (n c q : Nat) (K N : Nat → Nat) (G : zG) (V : zI) (L : zL) (ad : Nat → Nat) (ls : Array Slot) (X : RXA M D cy ad n c q K N G cX10_wide 3 RX10 15 375) (ha : ∀ w, w < n0 → ad w = ad0 w) (hn0 : n0 ≤ n) (hk0 : ∀ w, w < n0 → K w = K0 w) (hy0 : y0 < n ∧ K y0 = 8) (ht0 : t0 < n ∧ K t0 = 2) (hl : lv_has ls 3 [(0, .ref (ad y0)), (1, .int x1)]) (hf : f_X10_wide_7 y0 t0 x1 n c q K N G V L = some r') : RG (zMb M c q) (zC D cy ad n K N G) V L 7 ls [.ref (ad t0)] := by
  unfold f_X10_wide_7 at hf
  refine c_astore_n (lv' := [(2, .ref (ad t0)), (0, .ref (ad y0)), (1, .int x1)]) X.1 dX10_wide_7 rfl hl (by decide) rfl (fun ls hl => ?_)
  refine z_aload_n X.1.1 dX10_wide_8 rfl (lv_at hl 0 rfl) ?_
  refine z_aload_n X.1.1 dX10_wide_9 rfl (lv_at hl 1 rfl) ?_
  obtain ⟨v1, hG1, hf⟩ := z_bind hf
  have hv1 := X.1.2.2.get hy0 (k := 2) (c := 7) rfl hG1
  refine c_geta X.1 hy0 cf_X10_20 hG1 dX10_wide_10 ?_
  refine z_aload_n X.1.1 dX10_wide_13 rfl (lv_at hl 1 rfl) ?_
  obtain ⟨v2, hG2, hf⟩ := z_bind hf
  have hv2 := X.1.2.2.get hy0 (k := 2) (c := 7) rfl hG2
  refine c_geta X.1 hy0 cf_X10_20 hG2 dX10_wide_14 ?_
  refine z_aload_n X.1.1 dX10_wide_17 rfl (lv_at hl 1 rfl) ?_
  obtain ⟨v3, hG3, hf⟩ := z_bind hf
  have hv3 := X.1.2.2.get hy0 (k := 5) (c := 5) rfl hG3
  refine c_geta X.1 hy0 cf_X10_33 hG3 dX10_wide_18 ?_
  obtain ⟨r4, hc4, hf⟩ := z_bind hf
  refine c_callSl [.ref (ad v2), .ref (ad v3)] X.1 hl.1 (c_X6_open D cy ad X.1.2.2 hv2 hv3 hc4) cm_X10_207 cw_X6_open rfl cq_X6_open ⟨by decide, by decide⟩ (Nat.le_of_ble_eq_true rfl) rfl dX10_wide_21 ?_
  obtain ⟨r5, hc5, hf⟩ := z_bind hf
  refine c_callVv [.ref (ad v1), .long r4] X.1 hl.1 (c_X2_seekWide D cy ad X.1.2.2 ht0 hv1 hc5) ht0 ⟨by decide, rfl⟩ cm_X10_220 cw_X2_seekWide rfl cq_X2_seekWide ⟨by decide, by decide⟩ (Nat.le_of_ble_eq_true rfl) rfl dX10_wide_24 ?_
  refine z_aload_n X.1.1 dX10_wide_27 rfl (lv_at hl 0 rfl) ?_
  refine z_iload_n X.1.1 dX10_wide_28 rfl (lv_at hl 2 rfl) ?_
  obtain ⟨r6, hc6, hf⟩ := z_bind hf
  refine c_callVi [.int x1] X.1 hl.1 (c_X2_tell D cy ad X.1.2.2 ht0 hc6) ht0 ⟨by decide, rfl⟩ cm_X10_224 cw_X2_tell rfl cq_X2_tell ⟨by decide, by decide⟩ (Nat.le_of_ble_eq_true rfl) rfl dX10_wide_29 ?_
  exact a_iret X Z ha hn0 hk0 hf rfl dX10_wide_32

set_option maxHeartbeats 4000000 in
set_option maxRecDepth 100000 in
theorem w_X10_wide_3 {M : zM} {D : va_G} {cy : Nat → ClassId} {ad0 K0 : Nat → Nat} {n0 : Nat} {r' : Int32 × zS} (Z : RZAi M D cy ad0 n0 K0 .int r'.1 r'.2) (hC : M.2.2.2.1.cells = r'.2.2.1 ∧ M.2.2.2.1.slots = r'.2.2.2.1) (y0 : Nat) (t0 : Nat) (x1 : Int32) (n c q : Nat) (K N : Nat → Nat) (G : zG) (V : zI) (L : zL) (ad : Nat → Nat) (ls : Array Slot) (X : RXA M D cy ad n c q K N G cX10_wide 3 RX10 15 375) (ha : ∀ w, w < n0 → ad w = ad0 w) (hn0 : n0 ≤ n) (hk0 : ∀ w, w < n0 → K w = K0 w) (hy0 : y0 < n ∧ K y0 = 8) (ht0 : t0 < n ∧ K t0 = 2) (hl : lv_has ls 3 [(0, .ref (ad y0)), (1, .int x1)]) (hf : f_X10_wide_3 y0 t0 x1 n c q K N G V L = some r') : RG (zMb M c q) (zC D cy ad n K N G) V L 3 ls [.ref (ad t0)] := by
  unfold f_X10_wide_3 at hf
  refine z_dup X.1.1 dX10_wide_3 rfl ?_
  obtain ⟨r1, hc1, hf⟩ := z_bind hf
  have hm := m_X10_wide_7 y0 t0 x1 r1.1 (c + r1.2.1) (q + r1.2.2.1) r1.2.2.2.1 r1.2.2.2.2.1 r1.2.2.2.2.2.1 r1.2.2.2.2.2.2.1 r1.2.2.2.2.2.2.2 hf
  refine a_callIv [] X hl.1 (c_X2_init D cy ad X.1.2.2 ht0 hc1) ht0 ⟨by decide, rfl⟩ cm_X10_219 cx_X2_init rfl cq_X2_init ⟨by decide, by decide⟩ (Nat.le_of_ble_eq_true rfl) rfl ⟨by rw [hC.1]; exact hm.1, by rw [hC.2]; exact hm.2⟩ dX10_wide_4 (fun ad' hag hnn hKg X => ?_)
  rw [← hag y0 hy0.1] at hl
  rw [← hag t0 ht0.1]
  exact w_X10_wide_7 Z hC y0 t0 x1 r1.1 (c + r1.2.1) (q + r1.2.2.1) r1.2.2.2.1 r1.2.2.2.2.1 r1.2.2.2.2.2.1 r1.2.2.2.2.2.2.1 r1.2.2.2.2.2.2.2 ad' ls X (zag_up ha hn0 hag) (by omega) (zag_up hk0 hn0 hKg) (zh_ext hy0 hnn hKg) (zh_ext ht0 hnn hKg) (lv_sub hl [0, 1] rfl) hf

set_option maxHeartbeats 4000000 in
set_option maxRecDepth 100000 in
theorem w_X10_wide {M : zM} {D : va_G} {cy : Nat → ClassId} {ad0 K0 : Nat → Nat} {n0 : Nat} {r' : Int32 × zS} (Z : RZAi M D cy ad0 n0 K0 .int r'.1 r'.2) (hC : M.2.2.2.1.cells = r'.2.2.1 ∧ M.2.2.2.1.slots = r'.2.2.2.1) (y0 : Nat) (x1 : Int32) (n c q : Nat) (K N : Nat → Nat) (G : zG) (V : zI) (L : zL) (ad : Nat → Nat) (ls : Array Slot) (X : RXA M D cy ad n c q K N G cX10_wide 3 RX10 15 375) (ha : ∀ w, w < n0 → ad w = ad0 w) (hn0 : n0 ≤ n) (hk0 : ∀ w, w < n0 → K w = K0 w) (hy0 : y0 < n ∧ K y0 = 8) (hl : lv_has ls 3 [(0, .ref (ad y0)), (1, .int x1)]) (hf : g_X10_wide y0 x1 n c q K N G V L = some r') : RG (zMb M c q) (zC D cy ad n K N G) V L 0 ls [] := by
  unfold g_X10_wide at hf
  have hm := m_X10_wide_3 y0 n x1 (n + 1) (c + 1) (q + 8) (kU K n 2) N (kU G n zn0) (kU V n (fun _ => 0)) (kU L n (fun _ => 0)) hf
  refine a_new (ci := 2) X ci_X2 cg_X2.1 dv_X2 cn_X10_217 ⟨by rw [hC.1]; exact hm.1, by rw [hC.2]; exact hm.2⟩ dX10_wide_0 (fun ad' hag X => ?_)
  rw [← hag y0 hy0.1] at hl
  exact w_X10_wide_3 Z hC y0 n x1 (n + 1) (c + 1) (q + 8) (kU K n 2) N (kU G n zn0) (kU V n (fun _ => 0)) (kU L n (fun _ => 0)) ad' ls X (zag_up ha hn0 hag) (by omega) (zag_up hk0 hn0 (fun w h => kU_ne (by omega))) (zh_up hy0) zh_new (lv_sub hl [0, 1] rfl) hf

theorem c_X10_wide (D : va_G) (cy : Nat → ClassId) (ad : Nat → Nat) {n : Nat} {K N : Nat → Nat} {G : zG} (hWF : zWF n K G) {y0 : Nat} {x1 : Int32} {V : zI} {L : zL} (hy0 : y0 < n ∧ K y0 = 8) {r' : Int32 × zS} (hf : f_X10_wide y0 x1 n K N G V L = some r') : RAi D cy ad n K N G yX10_wide cX10_wide 3 .int 15 375 [.ref (ad y0), .int x1] V L r'.1 r'.2 :=
  RAi.of (by decide) hWF (Nat.le_of_ble_eq_true rfl) (fun M X Z hC hnm ls hl => w_X10_wide Z hC y0 x1 n 0 0 K N G V L ad ls X (fun _ _ => rfl) (Nat.le_refl _) (fun _ _ => rfl) hy0 hl hf)
def f_X10_cut_21 (y0 : Nat) (t0 : Nat) (x1 : Int32) (x2 : Int32) (x3 : Int32) (n c q : Nat) (K N : Nat → Nat) (G : zG) (V : zI) (L : zL) : Option (Int32 × zS) :=
  (G y0 2).bind fun v1 => (G y0 5).bind fun v2 => (f_X6_open N G v1 v2 V L).bind fun r3 => (f_X2_seekCut N G t0 x1 x2 r3 V L).bind fun r4 => (f_X2_tell N G t0 x3 r4.1 r4.2).bind fun r5 => some (r5, n, c, q, K, N, G, r4.1, r4.2)
def f_X10_cut_17 (y0 : Nat) (t0 : Nat) (x1 : Int32) (x2 : Int32) (x3 : Int32) (n c q : Nat) (K N : Nat → Nat) (G : zG) (V : zI) (L : zL) : Option (Int32 × zS) :=
  (f_X2_init t0 n K N G V L).bind fun r1 => f_X10_cut_21 y0 t0 x1 x2 x3 r1.1 (c + r1.2.1) (q + r1.2.2.1) r1.2.2.2.1 r1.2.2.2.2.1 r1.2.2.2.2.2.1 r1.2.2.2.2.2.2.1 r1.2.2.2.2.2.2.2
def g_X10_cut (y0 : Nat) (x1 : Int32) (x2 : Int32) (x3 : Int32) (n c q : Nat) (K N : Nat → Nat) (G : zG) (V : zI) (L : zL) : Option (Int32 × zS) :=
  (G y0 2).bind fun v1 => (f_X9_isPair N G v1 x1 x2 V L).bind fun r2 => (if r2 = 0 then some ((-1), n, c, q, K, N, G, V, L) else f_X10_cut_17 y0 n x1 x2 x3 (n + 1) (c + 1) (q + 8) (kU K n 2) N (kU G n zn0) (kU V n (fun _ => 0)) (kU L n (fun _ => 0)))
def f_X10_cut (y0 : Nat) (x1 : Int32) (x2 : Int32) (x3 : Int32) (n : Nat) (K N : Nat → Nat) (G : zG) (V : zI) (L : zL) : Option (Int32 × zS) := g_X10_cut y0 x1 x2 x3 n 0 0 K N G V L
set_option maxHeartbeats 4000000 in
set_option maxRecDepth 100000 in
theorem m_X10_cut_21 (y0 : Nat) (t0 : Nat) (x1 : Int32) (x2 : Int32) (x3 : Int32) (n c q : Nat) (K N : Nat → Nat) (G : zG) (V : zI) (L : zL) {r' : Int32 × zS} (hf : f_X10_cut_21 y0 t0 x1 x2 x3 n c q K N G V L = some r') : c ≤ r'.2.2.1 ∧ q ≤ r'.2.2.2.1 := by
  unfold f_X10_cut_21 at hf
  obtain ⟨v1, hG1, hf⟩ := z_bind hf
  obtain ⟨v2, hG2, hf⟩ := z_bind hf
  obtain ⟨r3, hc3, hf⟩ := z_bind hf
  obtain ⟨r4, hc4, hf⟩ := z_bind hf
  obtain ⟨r5, hc5, hf⟩ := z_bind hf
  cases hf
  exact ⟨Nat.le_refl _, Nat.le_refl _⟩

set_option maxHeartbeats 4000000 in
set_option maxRecDepth 100000 in
theorem m_X10_cut_17 (y0 : Nat) (t0 : Nat) (x1 : Int32) (x2 : Int32) (x3 : Int32) (n c q : Nat) (K N : Nat → Nat) (G : zG) (V : zI) (L : zL) {r' : Int32 × zS} (hf : f_X10_cut_17 y0 t0 x1 x2 x3 n c q K N G V L = some r') : c ≤ r'.2.2.1 ∧ q ≤ r'.2.2.2.1 := by
  unfold f_X10_cut_17 at hf
  obtain ⟨r1, hc1, hf⟩ := z_bind hf
  have hm := m_X10_cut_21 y0 t0 x1 x2 x3 r1.1 (c + r1.2.1) (q + r1.2.2.1) r1.2.2.2.1 r1.2.2.2.2.1 r1.2.2.2.2.2.1 r1.2.2.2.2.2.2.1 r1.2.2.2.2.2.2.2 hf
  exact ⟨by omega, by omega⟩

set_option maxHeartbeats 4000000 in
set_option maxRecDepth 100000 in
theorem w_X10_cut_21 {M : zM} {D : va_G} {cy : Nat → ClassId} {ad0 K0 : Nat → Nat} {n0 : Nat} {r' : Int32 × zS} (Z : RZAi M D cy ad0 n0 K0 .int r'.1 r'.2) (hC : M.2.2.2.1.cells = r'.2.2.1 ∧ M.2.2.2.1.slots = r'.2.2.2.1) (y0 : Nat) (t0 : Nat) (x1 : Int32) (x2 : Int32) (x3 : Int32) (n c q : Nat) (K N : Nat → Nat) (G : zG) (V : zI) (L : zL) (ad : Nat → Nat) (ls : Array Slot) (X : RXA M D cy ad n c q K N G cX10_cut 5 RX10 15 376) (ha : ∀ w, w < n0 → ad w = ad0 w) (hn0 : n0 ≤ n) (hk0 : ∀ w, w < n0 → K w = K0 w) (hy0 : y0 < n ∧ K y0 = 8) (ht0 : t0 < n ∧ K t0 = 2) (hl : lv_has ls 5 [(0, .ref (ad y0)), (1, .int x1), (2, .int x2), (3, .int x3)]) (hf : f_X10_cut_21 y0 t0 x1 x2 x3 n c q K N G V L = some r') : RG (zMb M c q) (zC D cy ad n K N G) V L 21 ls [.ref (ad t0)] := by
  unfold f_X10_cut_21 at hf
  refine c_astore (lv' := [(4, .ref (ad t0)), (0, .ref (ad y0)), (1, .int x1), (2, .int x2), (3, .int x3)]) X.1 dX10_cut_21 hl (by decide) rfl (fun ls hl => ?_)
  refine z_aload X.1.1 dX10_cut_23 (lv_at hl 0 rfl) ?_
  refine z_iload_n X.1.1 dX10_cut_25 rfl (lv_at hl 2 rfl) ?_
  refine z_iload_n X.1.1 dX10_cut_26 rfl (lv_at hl 3 rfl) ?_
  refine z_aload_n X.1.1 dX10_cut_27 rfl (lv_at hl 1 rfl) ?_
  obtain ⟨v1, hG1, hf⟩ := z_bind hf
  have hv1 := X.1.2.2.get hy0 (k := 2) (c := 7) rfl hG1
  refine c_geta X.1 hy0 cf_X10_20 hG1 dX10_cut_28 ?_
  refine z_aload_n X.1.1 dX10_cut_31 rfl (lv_at hl 1 rfl) ?_
  obtain ⟨v2, hG2, hf⟩ := z_bind hf
  have hv2 := X.1.2.2.get hy0 (k := 5) (c := 5) rfl hG2
  refine c_geta X.1 hy0 cf_X10_33 hG2 dX10_cut_32 ?_
  obtain ⟨r3, hc3, hf⟩ := z_bind hf
  refine c_callSl [.ref (ad v1), .ref (ad v2)] X.1 hl.1 (c_X6_open D cy ad X.1.2.2 hv1 hv2 hc3) cm_X10_207 cw_X6_open rfl cq_X6_open ⟨by decide, by decide⟩ (Nat.le_of_ble_eq_true rfl) rfl dX10_cut_35 ?_
  obtain ⟨r4, hc4, hf⟩ := z_bind hf
  refine c_callVv [.int x1, .int x2, .long r3] X.1 hl.1 (c_X2_seekCut D cy ad X.1.2.2 ht0 hc4) ht0 ⟨by decide, rfl⟩ cm_X10_227 cw_X2_seekCut rfl cq_X2_seekCut ⟨by decide, by decide⟩ (Nat.le_of_ble_eq_true rfl) rfl dX10_cut_38 ?_
  refine z_aload X.1.1 dX10_cut_41 (lv_at hl 0 rfl) ?_
  refine z_iload_n X.1.1 dX10_cut_43 rfl (lv_at hl 4 rfl) ?_
  obtain ⟨r5, hc5, hf⟩ := z_bind hf
  refine c_callVi [.int x3] X.1 hl.1 (c_X2_tell D cy ad X.1.2.2 ht0 hc5) ht0 ⟨by decide, rfl⟩ cm_X10_224 cw_X2_tell rfl cq_X2_tell ⟨by decide, by decide⟩ (Nat.le_of_ble_eq_true rfl) rfl dX10_cut_44 ?_
  exact a_iret X Z ha hn0 hk0 hf rfl dX10_cut_47

set_option maxHeartbeats 4000000 in
set_option maxRecDepth 100000 in
theorem w_X10_cut_17 {M : zM} {D : va_G} {cy : Nat → ClassId} {ad0 K0 : Nat → Nat} {n0 : Nat} {r' : Int32 × zS} (Z : RZAi M D cy ad0 n0 K0 .int r'.1 r'.2) (hC : M.2.2.2.1.cells = r'.2.2.1 ∧ M.2.2.2.1.slots = r'.2.2.2.1) (y0 : Nat) (t0 : Nat) (x1 : Int32) (x2 : Int32) (x3 : Int32) (n c q : Nat) (K N : Nat → Nat) (G : zG) (V : zI) (L : zL) (ad : Nat → Nat) (ls : Array Slot) (X : RXA M D cy ad n c q K N G cX10_cut 5 RX10 15 376) (ha : ∀ w, w < n0 → ad w = ad0 w) (hn0 : n0 ≤ n) (hk0 : ∀ w, w < n0 → K w = K0 w) (hy0 : y0 < n ∧ K y0 = 8) (ht0 : t0 < n ∧ K t0 = 2) (hl : lv_has ls 5 [(0, .ref (ad y0)), (1, .int x1), (2, .int x2), (3, .int x3)]) (hf : f_X10_cut_17 y0 t0 x1 x2 x3 n c q K N G V L = some r') : RG (zMb M c q) (zC D cy ad n K N G) V L 17 ls [.ref (ad t0)] := by
  unfold f_X10_cut_17 at hf
  refine z_dup X.1.1 dX10_cut_17 rfl ?_
  obtain ⟨r1, hc1, hf⟩ := z_bind hf
  have hm := m_X10_cut_21 y0 t0 x1 x2 x3 r1.1 (c + r1.2.1) (q + r1.2.2.1) r1.2.2.2.1 r1.2.2.2.2.1 r1.2.2.2.2.2.1 r1.2.2.2.2.2.2.1 r1.2.2.2.2.2.2.2 hf
  refine a_callIv [] X hl.1 (c_X2_init D cy ad X.1.2.2 ht0 hc1) ht0 ⟨by decide, rfl⟩ cm_X10_219 cx_X2_init rfl cq_X2_init ⟨by decide, by decide⟩ (Nat.le_of_ble_eq_true rfl) rfl ⟨by rw [hC.1]; exact hm.1, by rw [hC.2]; exact hm.2⟩ dX10_cut_18 (fun ad' hag hnn hKg X => ?_)
  rw [← hag y0 hy0.1] at hl
  rw [← hag t0 ht0.1]
  exact w_X10_cut_21 Z hC y0 t0 x1 x2 x3 r1.1 (c + r1.2.1) (q + r1.2.2.1) r1.2.2.2.1 r1.2.2.2.2.1 r1.2.2.2.2.2.1 r1.2.2.2.2.2.2.1 r1.2.2.2.2.2.2.2 ad' ls X (zag_up ha hn0 hag) (by omega) (zag_up hk0 hn0 hKg) (zh_ext hy0 hnn hKg) (zh_ext ht0 hnn hKg) (lv_sub hl [0, 1, 2, 3] rfl) hf

set_option maxHeartbeats 4000000 in
set_option maxRecDepth 100000 in
theorem w_X10_cut {M : zM} {D : va_G} {cy : Nat → ClassId} {ad0 K0 : Nat → Nat} {n0 : Nat} {r' : Int32 × zS} (Z : RZAi M D cy ad0 n0 K0 .int r'.1 r'.2) (hC : M.2.2.2.1.cells = r'.2.2.1 ∧ M.2.2.2.1.slots = r'.2.2.2.1) (y0 : Nat) (x1 : Int32) (x2 : Int32) (x3 : Int32) (n c q : Nat) (K N : Nat → Nat) (G : zG) (V : zI) (L : zL) (ad : Nat → Nat) (ls : Array Slot) (X : RXA M D cy ad n c q K N G cX10_cut 5 RX10 15 376) (ha : ∀ w, w < n0 → ad w = ad0 w) (hn0 : n0 ≤ n) (hk0 : ∀ w, w < n0 → K w = K0 w) (hy0 : y0 < n ∧ K y0 = 8) (hl : lv_has ls 5 [(0, .ref (ad y0)), (1, .int x1), (2, .int x2), (3, .int x3)]) (hf : g_X10_cut y0 x1 x2 x3 n c q K N G V L = some r') : RG (zMb M c q) (zC D cy ad n K N G) V L 0 ls [] := by
  unfold g_X10_cut at hf
  refine z_aload_n X.1.1 dX10_cut_0 rfl (lv_at hl 0 rfl) ?_
  obtain ⟨v1, hG1, hf⟩ := z_bind hf
  have hv1 := X.1.2.2.get hy0 (k := 2) (c := 7) rfl hG1
  refine c_geta X.1 hy0 cf_X10_20 hG1 dX10_cut_1 ?_
  refine z_iload_n X.1.1 dX10_cut_4 rfl (lv_at hl 1 rfl) ?_
  refine z_iload_n X.1.1 dX10_cut_5 rfl (lv_at hl 2 rfl) ?_
  obtain ⟨r2, hc2, hf⟩ := z_bind hf
  refine c_callVi [.int x1, .int x2] X.1 hl.1 (c_X9_isPair D cy ad X.1.2.2 hv1 hc2) hv1 ⟨by decide, rfl⟩ cm_X10_162 cw_X9_isPair rfl cq_X9_isPair ⟨by decide, by decide⟩ (Nat.le_of_ble_eq_true rfl) rfl dX10_cut_6 ?_
  refine z_if_ne (tgt := 14) X.1.1 dX10_cut_9 (by decide) (fun c_ => ?_) (fun c_ => ?_)
  · have hf := (if_neg c_).symm.trans hf
    have hm := m_X10_cut_17 y0 n x1 x2 x3 (n + 1) (c + 1) (q + 8) (kU K n 2) N (kU G n zn0) (kU V n (fun _ => 0)) (kU L n (fun _ => 0)) hf
    refine a_new (ci := 2) X ci_X2 cg_X2.1 dv_X2 cn_X10_217 ⟨by rw [hC.1]; exact hm.1, by rw [hC.2]; exact hm.2⟩ dX10_cut_14 (fun ad' hag X => ?_)
    rw [← hag y0 hy0.1] at hl
    exact w_X10_cut_17 Z hC y0 n x1 x2 x3 (n + 1) (c + 1) (q + 8) (kU K n 2) N (kU G n zn0) (kU V n (fun _ => 0)) (kU L n (fun _ => 0)) ad' ls X (zag_up ha hn0 hag) (by omega) (zag_up hk0 hn0 (fun w h => kU_ne (by omega))) (zh_up hy0) zh_new (lv_sub hl [0, 1, 2, 3] rfl) hf
  · have hf := (if_pos c_).symm.trans hf
    refine z_iconst (v := -1) X.1.1 dX10_cut_12 (by decide) ?_
    exact a_iret X Z ha hn0 hk0 hf rfl dX10_cut_13

theorem c_X10_cut (D : va_G) (cy : Nat → ClassId) (ad : Nat → Nat) {n : Nat} {K N : Nat → Nat} {G : zG} (hWF : zWF n K G) {y0 : Nat} {x1 : Int32} {x2 : Int32} {x3 : Int32} {V : zI} {L : zL} (hy0 : y0 < n ∧ K y0 = 8) {r' : Int32 × zS} (hf : f_X10_cut y0 x1 x2 x3 n K N G V L = some r') : RAi D cy ad n K N G yX10_cut cX10_cut 5 .int 15 376 [.ref (ad y0), .int x1, .int x2, .int x3] V L r'.1 r'.2 :=
  RAi.of (by decide) hWF (Nat.le_of_ble_eq_true rfl) (fun M X Z hC hnm ls hl => w_X10_cut Z hC y0 x1 x2 x3 n 0 0 K N G V L ad ls X (fun _ _ => rfl) (Nat.le_refl _) (fun _ _ => rfl) hy0 hl hf)
def f_X10_swap_18 (y0 : Nat) (t0 : Nat) (x1 : Int32) (n c q : Nat) (K N : Nat → Nat) (G : zG) (V : zI) (L : zL) : Option (Int32 × zS) :=
  (G y0 2).bind fun v1 => (G y0 5).bind fun v2 => (G y0 7).bind fun v3 => (f_X0_weigh N G t0 v1 v2 v3 V L).bind fun r4 => (G y0 2).bind fun v5 => (f_X0_seekBest N G t0 (r4.1 v5 0) r4.1 r4.2).bind fun r6 => (G t0 4).bind fun v7 => if inB (4 : Int32) (N v7) then (if (r6.1 v7 (4 : Int32).toNatClampNeg) ≤ 0 then some ((-1), n, c, q, K, N, G, r6.1, r6.2) else (G t0 4).bind fun v9 => if inB x1 (N v9) then some (r6.1 v9 x1.toNatClampNeg, n, c, q, K, N, G, r6.1, r6.2) else none) else none
def f_X10_swap_14 (y0 : Nat) (t0 : Nat) (x1 : Int32) (n c q : Nat) (K N : Nat → Nat) (G : zG) (V : zI) (L : zL) : Option (Int32 × zS) :=
  (f_X0_init t0 n K N G V L).bind fun r1 => f_X10_swap_18 y0 t0 x1 r1.1 (c + r1.2.1) (q + r1.2.2.1) r1.2.2.2.1 r1.2.2.2.2.1 r1.2.2.2.2.2.1 r1.2.2.2.2.2.2.1 r1.2.2.2.2.2.2.2
def g_X10_swap (y0 : Nat) (x1 : Int32) (n c q : Nat) (K N : Nat → Nat) (G : zG) (V : zI) (L : zL) : Option (Int32 × zS) :=
  (if x1 < 0 then some ((-1), n, c, q, K, N, G, V, L) else (if x1 < 5 then f_X10_swap_14 y0 n x1 (n + 1) (c + 1) (q + 6) (kU K n 0) N (kU G n zn0) (kU V n (fun _ => 0)) (kU L n (fun _ => 0)) else some ((-1), n, c, q, K, N, G, V, L)))
def f_X10_swap (y0 : Nat) (x1 : Int32) (n : Nat) (K N : Nat → Nat) (G : zG) (V : zI) (L : zL) : Option (Int32 × zS) := g_X10_swap y0 x1 n 0 0 K N G V L
set_option maxHeartbeats 4000000 in
set_option maxRecDepth 100000 in
theorem m_X10_swap_18 (y0 : Nat) (t0 : Nat) (x1 : Int32) (n c q : Nat) (K N : Nat → Nat) (G : zG) (V : zI) (L : zL) {r' : Int32 × zS} (hf : f_X10_swap_18 y0 t0 x1 n c q K N G V L = some r') : c ≤ r'.2.2.1 ∧ q ≤ r'.2.2.2.1 := by
  unfold f_X10_swap_18 at hf
  obtain ⟨v1, hG1, hf⟩ := z_bind hf
  obtain ⟨v2, hG2, hf⟩ := z_bind hf
  obtain ⟨v3, hG3, hf⟩ := z_bind hf
  obtain ⟨r4, hc4, hf⟩ := z_bind hf
  obtain ⟨v5, hG5, hf⟩ := z_bind hf
  obtain ⟨r6, hc6, hf⟩ := z_bind hf
  obtain ⟨v7, hG7, hf⟩ := z_bind hf
  obtain ⟨hb8, hf⟩ := z_ite hf
  rcases z_iteE hf with hf | hf
  ·
    cases hf
    exact ⟨Nat.le_refl _, Nat.le_refl _⟩
  ·
    obtain ⟨v9, hG9, hf⟩ := z_bind hf
    obtain ⟨hb10, hf⟩ := z_ite hf
    cases hf
    exact ⟨Nat.le_refl _, Nat.le_refl _⟩

set_option maxHeartbeats 4000000 in
set_option maxRecDepth 100000 in
theorem m_X10_swap_14 (y0 : Nat) (t0 : Nat) (x1 : Int32) (n c q : Nat) (K N : Nat → Nat) (G : zG) (V : zI) (L : zL) {r' : Int32 × zS} (hf : f_X10_swap_14 y0 t0 x1 n c q K N G V L = some r') : c ≤ r'.2.2.1 ∧ q ≤ r'.2.2.2.1 := by
  unfold f_X10_swap_14 at hf
  obtain ⟨r1, hc1, hf⟩ := z_bind hf
  have hm := m_X10_swap_18 y0 t0 x1 r1.1 (c + r1.2.1) (q + r1.2.2.1) r1.2.2.2.1 r1.2.2.2.2.1 r1.2.2.2.2.2.1 r1.2.2.2.2.2.2.1 r1.2.2.2.2.2.2.2 hf
  exact ⟨by omega, by omega⟩

set_option maxHeartbeats 4000000 in
set_option maxRecDepth 100000 in
theorem w_X10_swap_18 {M : zM} {D : va_G} {cy : Nat → ClassId} {ad0 K0 : Nat → Nat} {n0 : Nat} {r' : Int32 × zS} (Z : RZAi M D cy ad0 n0 K0 .int r'.1 r'.2) (hC : M.2.2.2.1.cells = r'.2.2.1 ∧ M.2.2.2.1.slots = r'.2.2.2.1) (y0 : Nat) (t0 : Nat) (x1 : Int32) (n c q : Nat) (K N : Nat → Nat) (G : zG) (V : zI) (L : zL) (ad : Nat → Nat) (ls : Array Slot) (X : RXA M D cy ad n c q K N G cX10_swap 3 RX10 6 148) (ha : ∀ w, w < n0 → ad w = ad0 w) (hn0 : n0 ≤ n) (hk0 : ∀ w, w < n0 → K w = K0 w) (hy0 : y0 < n ∧ K y0 = 8) (ht0 : t0 < n ∧ K t0 = 0) (hl : lv_has ls 3 [(0, .ref (ad y0)), (1, .int x1)]) (hf : f_X10_swap_18 y0 t0 x1 n c q K N G V L = some r') : RG (zMb M c q) (zC D cy ad n K N G) V L 18 ls [.ref (ad t0)] := by
  unfold f_X10_swap_18 at hf
  refine c_astore_n (lv' := [(2, .ref (ad t0)), (0, .ref (ad y0)), (1, .int x1)]) X.1 dX10_swap_18 rfl hl (by decide) rfl (fun ls hl => ?_)
  refine z_aload_n X.1.1 dX10_swap_19 rfl (lv_at hl 0 rfl) ?_
  refine z_aload_n X.1.1 dX10_swap_20 rfl (lv_at hl 1 rfl) ?_
  obtain ⟨v1, hG1, hf⟩ := z_bind hf
  have hv1 := X.1.2.2.get hy0 (k := 2) (c := 7) rfl hG1
  refine c_geta X.1 hy0 cf_X10_20 hG1 dX10_swap_21 ?_
  refine z_aload_n X.1.1 dX10_swap_24 rfl (lv_at hl 1 rfl) ?_
  obtain ⟨v2, hG2, hf⟩ := z_bind hf
  have hv2 := X.1.2.2.get hy0 (k := 5) (c := 5) rfl hG2
  refine c_geta X.1 hy0 cf_X10_33 hG2 dX10_swap_25 ?_
  refine z_aload_n X.1.1 dX10_swap_28 rfl (lv_at hl 1 rfl) ?_
  obtain ⟨v3, hG3, hf⟩ := z_bind hf
  have hv3 := X.1.2.2.get hy0 (k := 7) (c := 3) rfl hG3
  refine c_geta X.1 hy0 cf_X10_43 hG3 dX10_swap_29 ?_
  obtain ⟨r4, hc4, hf⟩ := z_bind hf
  refine c_callVv [.ref (ad v1), .ref (ad v2), .ref (ad v3)] X.1 hl.1 (c_X0_weigh D cy ad X.1.2.2 ht0 hv1 hv2 hv3 hc4) ht0 ⟨by decide, rfl⟩ cm_X10_238 cw_X0_weigh rfl cq_X0_weigh ⟨by decide, by decide⟩ (Nat.le_of_ble_eq_true rfl) rfl dX10_swap_32 ?_
  refine z_aload_n X.1.1 dX10_swap_35 rfl (lv_at hl 0 rfl) ?_
  refine z_aload_n X.1.1 dX10_swap_36 rfl (lv_at hl 1 rfl) ?_
  obtain ⟨v5, hG5, hf⟩ := z_bind hf
  have hv5 := X.1.2.2.get hy0 (k := 2) (c := 7) rfl hG5
  refine c_geta X.1 hy0 cf_X10_20 hG5 dX10_swap_37 ?_
  refine c_geti X.1 hv5 cf_X10_118 dX10_swap_40 ?_
  obtain ⟨r6, hc6, hf⟩ := z_bind hf
  refine c_callVv [.int (r4.1 v5 0)] X.1 hl.1 (c_X0_seekBest D cy ad X.1.2.2 ht0 hc6) ht0 ⟨by decide, rfl⟩ cm_X10_242 cw_X0_seekBest rfl cq_X0_seekBest ⟨by decide, by decide⟩ (Nat.le_of_ble_eq_true rfl) rfl dX10_swap_43 ?_
  refine z_aload_n X.1.1 dX10_swap_46 rfl (lv_at hl 0 rfl) ?_
  obtain ⟨v7, hG7, hf⟩ := z_bind hf
  have hv7 := X.1.2.2.get ht0 (k := 4) (c := 100) rfl hG7
  refine c_geta X.1 ht0 cf_X10_245 hG7 dX10_swap_47 ?_
  refine z_iconst (v := 4) X.1.1 dX10_swap_50 (by decide) ?_
  obtain ⟨hb8, hf⟩ := z_ite hf
  refine c_iald X.1 hv7 hb8 dX10_swap_51 ?_
  refine z_if_le (tgt := 64) X.1.1 dX10_swap_52 (by decide) (fun c_ => ?_) (fun c_ => ?_)
  · have hf := (if_pos c_).symm.trans hf
    refine z_iconst (v := -1) X.1.1 dX10_swap_64 (by decide) ?_
    exact a_iret X Z ha hn0 hk0 hf rfl dX10_swap_65
  · have hf := (if_neg c_).symm.trans hf
    refine z_aload_n X.1.1 dX10_swap_55 rfl (lv_at hl 0 rfl) ?_
    obtain ⟨v9, hG9, hf⟩ := z_bind hf
    have hv9 := X.1.2.2.get ht0 (k := 4) (c := 100) rfl hG9
    refine c_geta X.1 ht0 cf_X10_245 hG9 dX10_swap_56 ?_
    refine z_iload_n X.1.1 dX10_swap_59 rfl (lv_at hl 2 rfl) ?_
    obtain ⟨hb10, hf⟩ := z_ite hf
    refine c_iald X.1 hv9 hb10 dX10_swap_60 ?_
    refine z_goto (tgt := 65) X.1.1 dX10_swap_61 (by decide) ?_
    exact a_iret X Z ha hn0 hk0 hf rfl dX10_swap_65

set_option maxHeartbeats 4000000 in
set_option maxRecDepth 100000 in
theorem w_X10_swap_14 {M : zM} {D : va_G} {cy : Nat → ClassId} {ad0 K0 : Nat → Nat} {n0 : Nat} {r' : Int32 × zS} (Z : RZAi M D cy ad0 n0 K0 .int r'.1 r'.2) (hC : M.2.2.2.1.cells = r'.2.2.1 ∧ M.2.2.2.1.slots = r'.2.2.2.1) (y0 : Nat) (t0 : Nat) (x1 : Int32) (n c q : Nat) (K N : Nat → Nat) (G : zG) (V : zI) (L : zL) (ad : Nat → Nat) (ls : Array Slot) (X : RXA M D cy ad n c q K N G cX10_swap 3 RX10 6 148) (ha : ∀ w, w < n0 → ad w = ad0 w) (hn0 : n0 ≤ n) (hk0 : ∀ w, w < n0 → K w = K0 w) (hy0 : y0 < n ∧ K y0 = 8) (ht0 : t0 < n ∧ K t0 = 0) (hl : lv_has ls 3 [(0, .ref (ad y0)), (1, .int x1)]) (hf : f_X10_swap_14 y0 t0 x1 n c q K N G V L = some r') : RG (zMb M c q) (zC D cy ad n K N G) V L 14 ls [.ref (ad t0)] := by
  unfold f_X10_swap_14 at hf
  refine z_dup X.1.1 dX10_swap_14 rfl ?_
  obtain ⟨r1, hc1, hf⟩ := z_bind hf
  have hm := m_X10_swap_18 y0 t0 x1 r1.1 (c + r1.2.1) (q + r1.2.2.1) r1.2.2.2.1 r1.2.2.2.2.1 r1.2.2.2.2.2.1 r1.2.2.2.2.2.2.1 r1.2.2.2.2.2.2.2 hf
  refine a_callIv [] X hl.1 (c_X0_init D cy ad X.1.2.2 ht0 hc1) ht0 ⟨by decide, rfl⟩ cm_X10_237 cx_X0_init rfl cq_X0_init ⟨by decide, by decide⟩ (Nat.le_of_ble_eq_true rfl) rfl ⟨by rw [hC.1]; exact hm.1, by rw [hC.2]; exact hm.2⟩ dX10_swap_15 (fun ad' hag hnn hKg X => ?_)
  rw [← hag y0 hy0.1] at hl
  rw [← hag t0 ht0.1]
  exact w_X10_swap_18 Z hC y0 t0 x1 r1.1 (c + r1.2.1) (q + r1.2.2.1) r1.2.2.2.1 r1.2.2.2.2.1 r1.2.2.2.2.2.1 r1.2.2.2.2.2.2.1 r1.2.2.2.2.2.2.2 ad' ls X (zag_up ha hn0 hag) (by omega) (zag_up hk0 hn0 hKg) (zh_ext hy0 hnn hKg) (zh_ext ht0 hnn hKg) (lv_sub hl [0, 1] rfl) hf

set_option maxHeartbeats 4000000 in
set_option maxRecDepth 100000 in
theorem w_X10_swap {M : zM} {D : va_G} {cy : Nat → ClassId} {ad0 K0 : Nat → Nat} {n0 : Nat} {r' : Int32 × zS} (Z : RZAi M D cy ad0 n0 K0 .int r'.1 r'.2) (hC : M.2.2.2.1.cells = r'.2.2.1 ∧ M.2.2.2.1.slots = r'.2.2.2.1) (y0 : Nat) (x1 : Int32) (n c q : Nat) (K N : Nat → Nat) (G : zG) (V : zI) (L : zL) (ad : Nat → Nat) (ls : Array Slot) (X : RXA M D cy ad n c q K N G cX10_swap 3 RX10 6 148) (ha : ∀ w, w < n0 → ad w = ad0 w) (hn0 : n0 ≤ n) (hk0 : ∀ w, w < n0 → K w = K0 w) (hy0 : y0 < n ∧ K y0 = 8) (hl : lv_has ls 3 [(0, .ref (ad y0)), (1, .int x1)]) (hf : g_X10_swap y0 x1 n c q K N G V L = some r') : RG (zMb M c q) (zC D cy ad n K N G) V L 0 ls [] := by
  unfold g_X10_swap at hf
  refine z_iload_n X.1.1 dX10_swap_0 rfl (lv_at hl 1 rfl) ?_
  refine z_if_lt (tgt := 9) X.1.1 dX10_swap_1 (by decide) (fun c_ => ?_) (fun c_ => ?_)
  · have hf := (if_pos c_).symm.trans hf
    refine z_iconst (v := -1) X.1.1 dX10_swap_9 (by decide) ?_
    exact a_iret X Z ha hn0 hk0 hf rfl dX10_swap_10
  · have hf := (if_neg c_).symm.trans hf
    refine z_iload_n X.1.1 dX10_swap_4 rfl (lv_at hl 1 rfl) ?_
    refine z_iconst (v := 5) X.1.1 dX10_swap_5 (by decide) ?_
    refine z_icmp_lt (tgt := 11) X.1.1 dX10_swap_6 (by decide) (fun c_ => ?_) (fun c_ => ?_)
    · have hf := (if_pos c_).symm.trans hf
      have hm := m_X10_swap_14 y0 n x1 (n + 1) (c + 1) (q + 6) (kU K n 0) N (kU G n zn0) (kU V n (fun _ => 0)) (kU L n (fun _ => 0)) hf
      refine a_new (ci := 0) X ci_X0 cg_X0.1 dv_X0 cn_X10_235 ⟨by rw [hC.1]; exact hm.1, by rw [hC.2]; exact hm.2⟩ dX10_swap_11 (fun ad' hag X => ?_)
      rw [← hag y0 hy0.1] at hl
      exact w_X10_swap_14 Z hC y0 n x1 (n + 1) (c + 1) (q + 6) (kU K n 0) N (kU G n zn0) (kU V n (fun _ => 0)) (kU L n (fun _ => 0)) ad' ls X (zag_up ha hn0 hag) (by omega) (zag_up hk0 hn0 (fun w h => kU_ne (by omega))) (zh_up hy0) zh_new (lv_sub hl [0, 1] rfl) hf
    · have hf := (if_neg c_).symm.trans hf
      refine z_iconst (v := -1) X.1.1 dX10_swap_9 (by decide) ?_
      exact a_iret X Z ha hn0 hk0 hf rfl dX10_swap_10

theorem c_X10_swap (D : va_G) (cy : Nat → ClassId) (ad : Nat → Nat) {n : Nat} {K N : Nat → Nat} {G : zG} (hWF : zWF n K G) {y0 : Nat} {x1 : Int32} {V : zI} {L : zL} (hy0 : y0 < n ∧ K y0 = 8) {r' : Int32 × zS} (hf : f_X10_swap y0 x1 n K N G V L = some r') : RAi D cy ad n K N G yX10_swap cX10_swap 3 .int 6 148 [.ref (ad y0), .int x1] V L r'.1 r'.2 :=
  RAi.of (by decide) hWF (Nat.le_of_ble_eq_true rfl) (fun M X Z hC hnm ls hl => w_X10_swap Z hC y0 x1 n 0 0 K N G V L ad ls X (fun _ _ => rfl) (Nat.le_refl _) (fun _ _ => rfl) hy0 hl hf)
def f_X10_ring_34 (y3 : Nat) (x2 : Int32) (s0 : Int32) (n c q : Nat) (K N : Nat → Nat) (G : zG) (V : zI) (L : zL) : Option (Int32 × zS) :=
  (if x2 = (-1) then (if s0 ≤ 0 then some ((-1), n, c, q, K, N, G, V, L) else some (s0, n, c, q, K, N, G, V, L)) else (if x2 < 0 then some ((-1), n, c, q, K, N, G, V, L) else (if s0 ≤ x2 then some ((-1), n, c, q, K, N, G, V, L) else (if (Int32.ofNat (N y3)) ≤ x2 then some ((-1), n, c, q, K, N, G, V, L) else if inB x2 (N y3) then some (V y3 x2.toNatClampNeg, n, c, q, K, N, G, V, L) else none))))
def f_X10_ring_17 (y0 : Nat) (t0 : Nat) (x1 : Int32) (x2 : Int32) (n c q : Nat) (K N : Nat → Nat) (G : zG) (V : zI) (L : zL) : Option (Int32 × zS) :=
  (G y0 2).bind fun v1 => (G y0 5).bind fun v2 => (f_X6_open N G v1 v2 V L).bind fun r3 => (f_X6_shortestRing t0 r3 x1 n K N G V L).bind fun r4 => f_X10_ring_34 t0 x2 r4.1 r4.2.1 (c + r4.2.2.1) (q + r4.2.2.2.1) r4.2.2.2.2.1 r4.2.2.2.2.2.1 r4.2.2.2.2.2.2.1 r4.2.2.2.2.2.2.2.1 r4.2.2.2.2.2.2.2.2
def g_X10_ring (y0 : Nat) (x1 : Int32) (x2 : Int32) (n c q : Nat) (K N : Nat → Nat) (G : zG) (V : zI) (L : zL) : Option (Int32 × zS) :=
  (G y0 2).bind fun v1 => (f_X9_isTown N G v1 x1 V L).bind fun r2 => (if r2 = 0 then some ((-1), n, c, q, K, N, G, V, L) else if (¬ (6 : Int32) < 0 ∧ (6 : Int32).toNatClampNeg ≤ 100000) then f_X10_ring_17 y0 n x1 x2 (n + 1) (c + 1) (q + (6 : Int32).toNatClampNeg) (kU K n 100) (kU N n (6 : Int32).toNatClampNeg) (kU G n zn0) (kU V n (fun _ => 0)) (kU L n (fun _ => 0)) else none)
def f_X10_ring (y0 : Nat) (x1 : Int32) (x2 : Int32) (n : Nat) (K N : Nat → Nat) (G : zG) (V : zI) (L : zL) : Option (Int32 × zS) := g_X10_ring y0 x1 x2 n 0 0 K N G V L
set_option maxHeartbeats 4000000 in
set_option maxRecDepth 100000 in
theorem m_X10_ring_34 (y3 : Nat) (x2 : Int32) (s0 : Int32) (n c q : Nat) (K N : Nat → Nat) (G : zG) (V : zI) (L : zL) {r' : Int32 × zS} (hf : f_X10_ring_34 y3 x2 s0 n c q K N G V L = some r') : c ≤ r'.2.2.1 ∧ q ≤ r'.2.2.2.1 := by
  unfold f_X10_ring_34 at hf
  rcases z_iteE hf with hf | hf
  ·
    rcases z_iteE hf with hf | hf
    ·
      cases hf
      exact ⟨Nat.le_refl _, Nat.le_refl _⟩
    ·
      cases hf
      exact ⟨Nat.le_refl _, Nat.le_refl _⟩
  ·
    rcases z_iteE hf with hf | hf
    ·
      cases hf
      exact ⟨Nat.le_refl _, Nat.le_refl _⟩
    ·
      rcases z_iteE hf with hf | hf
      ·
        cases hf
        exact ⟨Nat.le_refl _, Nat.le_refl _⟩
      ·
        rcases z_iteE hf with hf | hf
        ·
          cases hf
          exact ⟨Nat.le_refl _, Nat.le_refl _⟩
        ·
          obtain ⟨hb1, hf⟩ := z_ite hf
          cases hf
          exact ⟨Nat.le_refl _, Nat.le_refl _⟩

set_option maxHeartbeats 4000000 in
set_option maxRecDepth 100000 in
theorem m_X10_ring_17 (y0 : Nat) (t0 : Nat) (x1 : Int32) (x2 : Int32) (n c q : Nat) (K N : Nat → Nat) (G : zG) (V : zI) (L : zL) {r' : Int32 × zS} (hf : f_X10_ring_17 y0 t0 x1 x2 n c q K N G V L = some r') : c ≤ r'.2.2.1 ∧ q ≤ r'.2.2.2.1 := by
  unfold f_X10_ring_17 at hf
  obtain ⟨v1, hG1, hf⟩ := z_bind hf
  obtain ⟨v2, hG2, hf⟩ := z_bind hf
  obtain ⟨r3, hc3, hf⟩ := z_bind hf
  obtain ⟨r4, hc4, hf⟩ := z_bind hf
  have hm := m_X10_ring_34 t0 x2 r4.1 r4.2.1 (c + r4.2.2.1) (q + r4.2.2.2.1) r4.2.2.2.2.1 r4.2.2.2.2.2.1 r4.2.2.2.2.2.2.1 r4.2.2.2.2.2.2.2.1 r4.2.2.2.2.2.2.2.2 hf
  exact ⟨by omega, by omega⟩

set_option maxHeartbeats 4000000 in
set_option maxRecDepth 100000 in
theorem w_X10_ring_34 {M : zM} {D : va_G} {cy : Nat → ClassId} {ad0 K0 : Nat → Nat} {n0 : Nat} {r' : Int32 × zS} (Z : RZAi M D cy ad0 n0 K0 .int r'.1 r'.2) (hC : M.2.2.2.1.cells = r'.2.2.1 ∧ M.2.2.2.1.slots = r'.2.2.2.1) (y3 : Nat) (x2 : Int32) (s0 : Int32) (n c q : Nat) (K N : Nat → Nat) (G : zG) (V : zI) (L : zL) (ad : Nat → Nat) (ls : Array Slot) (X : RXA M D cy ad n c q K N G cX10_ring 5 RX10 4 102) (ha : ∀ w, w < n0 → ad w = ad0 w) (hn0 : n0 ≤ n) (hk0 : ∀ w, w < n0 → K w = K0 w) (hy3 : y3 < n ∧ K y3 = 100) (hl : lv_has ls 5 [(2, .int x2), (3, .ref (ad y3))]) (hf : f_X10_ring_34 y3 x2 s0 n c q K N G V L = some r') : RG (zMb M c q) (zC D cy ad n K N G) V L 34 ls [.int s0] := by
  unfold f_X10_ring_34 at hf
  refine z_istore (lv' := [(4, .int s0), (2, .int x2), (3, .ref (ad y3))]) X.1.1 dX10_ring_34 hl (by decide) rfl (fun ls hl => ?_)
  refine z_iload_n X.1.1 dX10_ring_36 rfl (lv_at hl 1 rfl) ?_
  refine z_iconst (v := -1) X.1.1 dX10_ring_37 (by decide) ?_
  refine z_icmp_ne (tgt := 53) X.1.1 dX10_ring_38 (by decide) (fun c_ => ?_) (fun c_ => ?_)
  · have hf := (if_neg c_).symm.trans hf
    refine z_iload_n X.1.1 dX10_ring_53 rfl (lv_at hl 1 rfl) ?_
    refine z_if_lt (tgt := 75) X.1.1 dX10_ring_54 (by decide) (fun c_ => ?_) (fun c_ => ?_)
    · have hf := (if_pos c_).symm.trans hf
      refine z_iconst (v := -1) X.1.1 dX10_ring_75 (by decide) ?_
      exact a_iret X Z ha hn0 hk0 hf rfl dX10_ring_76
    · have hf := (if_neg c_).symm.trans hf
      refine z_iload_n X.1.1 dX10_ring_57 rfl (lv_at hl 1 rfl) ?_
      refine z_iload X.1.1 dX10_ring_58 (lv_at hl 0 rfl) ?_
      refine z_icmp_ge (tgt := 75) X.1.1 dX10_ring_60 (by decide) (fun c_ => ?_) (fun c_ => ?_)
      · have hf := (if_pos c_).symm.trans hf
        refine z_iconst (v := -1) X.1.1 dX10_ring_75 (by decide) ?_
        exact a_iret X Z ha hn0 hk0 hf rfl dX10_ring_76
      · have hf := (if_neg c_).symm.trans hf
        refine z_iload_n X.1.1 dX10_ring_63 rfl (lv_at hl 1 rfl) ?_
        refine z_aload_n X.1.1 dX10_ring_64 rfl (lv_at hl 2 rfl) ?_
        refine c_alen100 X.1 hy3 dX10_ring_65 ?_
        refine z_icmp_ge (tgt := 75) X.1.1 dX10_ring_66 (by decide) (fun c_ => ?_) (fun c_ => ?_)
        · have hf := (if_pos c_).symm.trans hf
          refine z_iconst (v := -1) X.1.1 dX10_ring_75 (by decide) ?_
          exact a_iret X Z ha hn0 hk0 hf rfl dX10_ring_76
        · have hf := (if_neg c_).symm.trans hf
          refine z_aload_n X.1.1 dX10_ring_69 rfl (lv_at hl 2 rfl) ?_
          refine z_iload_n X.1.1 dX10_ring_70 rfl (lv_at hl 1 rfl) ?_
          obtain ⟨hb1, hf⟩ := z_ite hf
          refine c_iald X.1 hy3 hb1 dX10_ring_71 ?_
          refine z_goto (tgt := 76) X.1.1 dX10_ring_72 (by decide) ?_
          exact a_iret X Z ha hn0 hk0 hf rfl dX10_ring_76
  · have hf := (if_pos c_).symm.trans hf
    refine z_iload X.1.1 dX10_ring_41 (lv_at hl 0 rfl) ?_
    refine z_if_le (tgt := 51) X.1.1 dX10_ring_43 (by decide) (fun c_ => ?_) (fun c_ => ?_)
    · have hf := (if_pos c_).symm.trans hf
      refine z_iconst (v := -1) X.1.1 dX10_ring_51 (by decide) ?_
      exact a_iret X Z ha hn0 hk0 hf rfl dX10_ring_52
    · have hf := (if_neg c_).symm.trans hf
      refine z_iload X.1.1 dX10_ring_46 (lv_at hl 0 rfl) ?_
      refine z_goto (tgt := 52) X.1.1 dX10_ring_48 (by decide) ?_
      exact a_iret X Z ha hn0 hk0 hf rfl dX10_ring_52

set_option maxHeartbeats 4000000 in
set_option maxRecDepth 100000 in
theorem w_X10_ring_17 {M : zM} {D : va_G} {cy : Nat → ClassId} {ad0 K0 : Nat → Nat} {n0 : Nat} {r' : Int32 × zS} (Z : RZAi M D cy ad0 n0 K0 .int r'.1 r'.2) (hC : M.2.2.2.1.cells = r'.2.2.1 ∧ M.2.2.2.1.slots = r'.2.2.2.1) (y0 : Nat) (t0 : Nat) (x1 : Int32) (x2 : Int32) (n c q : Nat) (K N : Nat → Nat) (G : zG) (V : zI) (L : zL) (ad : Nat → Nat) (ls : Array Slot) (X : RXA M D cy ad n c q K N G cX10_ring 5 RX10 4 102) (ha : ∀ w, w < n0 → ad w = ad0 w) (hn0 : n0 ≤ n) (hk0 : ∀ w, w < n0 → K w = K0 w) (hy0 : y0 < n ∧ K y0 = 8) (ht0 : t0 < n ∧ K t0 = 100) (hl : lv_has ls 5 [(0, .ref (ad y0)), (1, .int x1), (2, .int x2)]) (hf : f_X10_ring_17 y0 t0 x1 x2 n c q K N G V L = some r') : RG (zMb M c q) (zC D cy ad n K N G) V L 17 ls [.ref (ad t0)] := by
  unfold f_X10_ring_17 at hf
  refine c_astore_n (lv' := [(3, .ref (ad t0)), (0, .ref (ad y0)), (1, .int x1), (2, .int x2)]) X.1 dX10_ring_17 rfl hl (by decide) rfl (fun ls hl => ?_)
  refine z_aload_n X.1.1 dX10_ring_18 rfl (lv_at hl 1 rfl) ?_
  obtain ⟨v1, hG1, hf⟩ := z_bind hf
  have hv1 := X.1.2.2.get hy0 (k := 2) (c := 7) rfl hG1
  refine c_geta X.1 hy0 cf_X10_20 hG1 dX10_ring_19 ?_
  refine z_aload_n X.1.1 dX10_ring_22 rfl (lv_at hl 1 rfl) ?_
  obtain ⟨v2, hG2, hf⟩ := z_bind hf
  have hv2 := X.1.2.2.get hy0 (k := 5) (c := 5) rfl hG2
  refine c_geta X.1 hy0 cf_X10_33 hG2 dX10_ring_23 ?_
  obtain ⟨r3, hc3, hf⟩ := z_bind hf
  refine c_callSl [.ref (ad v1), .ref (ad v2)] X.1 hl.1 (c_X6_open D cy ad X.1.2.2 hv1 hv2 hc3) cm_X10_207 cw_X6_open rfl cq_X6_open ⟨by decide, by decide⟩ (Nat.le_of_ble_eq_true rfl) rfl dX10_ring_26 ?_
  refine z_iload_n X.1.1 dX10_ring_29 rfl (lv_at hl 2 rfl) ?_
  refine z_aload_n X.1.1 dX10_ring_30 rfl (lv_at hl 0 rfl) ?_
  obtain ⟨r4, hc4, hf⟩ := z_bind hf
  have hm := m_X10_ring_34 t0 x2 r4.1 r4.2.1 (c + r4.2.2.1) (q + r4.2.2.2.1) r4.2.2.2.2.1 r4.2.2.2.2.2.1 r4.2.2.2.2.2.2.1 r4.2.2.2.2.2.2.2.1 r4.2.2.2.2.2.2.2.2 hf
  refine a_callSi [.long r3, .int x1, .ref (ad t0)] X hl.1 (c_X6_shortestRing D cy ad X.1.2.2 ht0 hc4) cm_X10_231 cw_X6_shortestRing rfl cq_X6_shortestRing ⟨by decide, by decide⟩ (Nat.le_of_ble_eq_true rfl) rfl ⟨by rw [hC.1]; exact hm.1, by rw [hC.2]; exact hm.2⟩ dX10_ring_31 (fun ad' hag hnn hKg X => ?_)
  rw [← hag t0 ht0.1] at hl
  rw [← hag y0 hy0.1] at hl
  exact w_X10_ring_34 Z hC t0 x2 r4.1 r4.2.1 (c + r4.2.2.1) (q + r4.2.2.2.1) r4.2.2.2.2.1 r4.2.2.2.2.2.1 r4.2.2.2.2.2.2.1 r4.2.2.2.2.2.2.2.1 r4.2.2.2.2.2.2.2.2 ad' ls X (zag_up ha hn0 hag) (by omega) (zag_up hk0 hn0 hKg) (zh_ext ht0 hnn hKg) (lv_sub hl [3, 0] rfl) hf

set_option maxHeartbeats 4000000 in
set_option maxRecDepth 100000 in
theorem w_X10_ring {M : zM} {D : va_G} {cy : Nat → ClassId} {ad0 K0 : Nat → Nat} {n0 : Nat} {r' : Int32 × zS} (Z : RZAi M D cy ad0 n0 K0 .int r'.1 r'.2) (hC : M.2.2.2.1.cells = r'.2.2.1 ∧ M.2.2.2.1.slots = r'.2.2.2.1) (y0 : Nat) (x1 : Int32) (x2 : Int32) (n c q : Nat) (K N : Nat → Nat) (G : zG) (V : zI) (L : zL) (ad : Nat → Nat) (ls : Array Slot) (X : RXA M D cy ad n c q K N G cX10_ring 5 RX10 4 102) (ha : ∀ w, w < n0 → ad w = ad0 w) (hn0 : n0 ≤ n) (hk0 : ∀ w, w < n0 → K w = K0 w) (hy0 : y0 < n ∧ K y0 = 8) (hl : lv_has ls 5 [(0, .ref (ad y0)), (1, .int x1), (2, .int x2)]) (hf : g_X10_ring y0 x1 x2 n c q K N G V L = some r') : RG (zMb M c q) (zC D cy ad n K N G) V L 0 ls [] := by
  unfold g_X10_ring at hf
  refine z_aload_n X.1.1 dX10_ring_0 rfl (lv_at hl 0 rfl) ?_
  obtain ⟨v1, hG1, hf⟩ := z_bind hf
  have hv1 := X.1.2.2.get hy0 (k := 2) (c := 7) rfl hG1
  refine c_geta X.1 hy0 cf_X10_20 hG1 dX10_ring_1 ?_
  refine z_iload_n X.1.1 dX10_ring_4 rfl (lv_at hl 1 rfl) ?_
  obtain ⟨r2, hc2, hf⟩ := z_bind hf
  refine c_callVi [.int x1] X.1 hl.1 (c_X9_isTown D cy ad X.1.2.2 hv1 hc2) hv1 ⟨by decide, rfl⟩ cm_X10_149 cw_X9_isTown rfl cq_X9_isTown ⟨by decide, by decide⟩ (Nat.le_of_ble_eq_true rfl) rfl dX10_ring_5 ?_
  refine z_if_ne (tgt := 13) X.1.1 dX10_ring_8 (by decide) (fun c_ => ?_) (fun c_ => ?_)
  · have hf := (if_neg c_).symm.trans hf
    refine z_bipush (v := 6) X.1.1 dX10_ring_13 (by decide) ?_
    obtain ⟨hb3, hf⟩ := z_ite hf
    have hm := m_X10_ring_17 y0 n x1 x2 (n + 1) (c + 1) (q + (6 : Int32).toNatClampNeg) (kU K n 100) (kU N n (6 : Int32).toNatClampNeg) (kU G n zn0) (kU V n (fun _ => 0)) (kU L n (fun _ => 0)) hf
    refine a_newi X hb3 ca_100 ⟨by rw [hC.1]; exact hm.1, by rw [hC.2]; exact hm.2⟩ dX10_ring_15 (fun ad' hag X => ?_)
    rw [← hag y0 hy0.1] at hl
    exact w_X10_ring_17 Z hC y0 n x1 x2 (n + 1) (c + 1) (q + (6 : Int32).toNatClampNeg) (kU K n 100) (kU N n (6 : Int32).toNatClampNeg) (kU G n zn0) (kU V n (fun _ => 0)) (kU L n (fun _ => 0)) ad' ls X (zag_up ha hn0 hag) (by omega) (zag_up hk0 hn0 (fun w h => kU_ne (by omega))) (zh_up hy0) zh_new (lv_sub hl [0, 1, 2] rfl) hf
  · have hf := (if_pos c_).symm.trans hf
    refine z_iconst (v := -1) X.1.1 dX10_ring_11 (by decide) ?_
    exact a_iret X Z ha hn0 hk0 hf rfl dX10_ring_12

theorem c_X10_ring (D : va_G) (cy : Nat → ClassId) (ad : Nat → Nat) {n : Nat} {K N : Nat → Nat} {G : zG} (hWF : zWF n K G) {y0 : Nat} {x1 : Int32} {x2 : Int32} {V : zI} {L : zL} (hy0 : y0 < n ∧ K y0 = 8) {r' : Int32 × zS} (hf : f_X10_ring y0 x1 x2 n K N G V L = some r') : RAi D cy ad n K N G yX10_ring cX10_ring 5 .int 4 102 [.ref (ad y0), .int x1, .int x2] V L r'.1 r'.2 :=
  RAi.of (by decide) hWF (Nat.le_of_ble_eq_true rfl) (fun M X Z hC hnm ls hl => w_X10_ring Z hC y0 x1 x2 n 0 0 K N G V L ad ls X (fun _ _ => rfl) (Nat.le_refl _) (fun _ _ => rfl) hy0 hl hf)
def f_J7_copyOf_59c91_17 (y0 : Nat) (t0 : Nat) (x1 : Int32) (n c q : Nat) (K N : Nat → Nat) (G : zG) (V : zI) (L : zL) : Option (Nat × zS) :=
  if (¬ (0 : Int32) < 0 ∧ ¬ (0 : Int32) < 0 ∧ ¬ (if x1 < (Int32.ofNat (N y0)) then x1 else (Int32.ofNat (N y0))) < 0 ∧ (0 : Int32).toNatClampNeg + (if x1 < (Int32.ofNat (N y0)) then x1 else (Int32.ofNat (N y0))).toNatClampNeg ≤ N y0 ∧ (0 : Int32).toNatClampNeg + (if x1 < (Int32.ofNat (N y0)) then x1 else (Int32.ofNat (N y0))).toNatClampNeg ≤ N t0) then some (t0, n, c, q, K, N, G, z_row V t0 (va_cpy (V y0) (V t0) (0 : Int32).toNatClampNeg (0 : Int32).toNatClampNeg (if x1 < (Int32.ofNat (N y0)) then x1 else (Int32.ofNat (N y0))).toNatClampNeg), L) else none
def g_J7_copyOf_59c91 (y0 : Nat) (x1 : Int32) (n c q : Nat) (K N : Nat → Nat) (G : zG) (V : zI) (L : zL) : Option (Nat × zS) :=
  (if x1 = (Int32.ofNat (N y0)) then none else if (¬ x1 < 0 ∧ x1.toNatClampNeg ≤ 100000) then f_J7_copyOf_59c91_17 y0 n x1 (n + 1) (c + 1) (q + x1.toNatClampNeg) (kU K n 100) (kU N n x1.toNatClampNeg) (kU G n zn0) (kU V n (fun _ => 0)) (kU L n (fun _ => 0)) else none)
def f_J7_copyOf_59c91 (y0 : Nat) (x1 : Int32) (n : Nat) (K N : Nat → Nat) (G : zG) (V : zI) (L : zL) : Option (Nat × zS) := g_J7_copyOf_59c91 y0 x1 n 0 0 K N G V L
set_option maxHeartbeats 4000000 in
set_option maxRecDepth 100000 in
theorem m_J7_copyOf_59c91_17 (y0 : Nat) (t0 : Nat) (x1 : Int32) (n c q : Nat) (K N : Nat → Nat) (G : zG) (V : zI) (L : zL) {r' : Nat × zS} (hf : f_J7_copyOf_59c91_17 y0 t0 x1 n c q K N G V L = some r') : c ≤ r'.2.2.1 ∧ q ≤ r'.2.2.2.1 := by
  unfold f_J7_copyOf_59c91_17 at hf
  obtain ⟨hb1, hf⟩ := z_ite hf
  cases hf
  exact ⟨Nat.le_refl _, Nat.le_refl _⟩

set_option maxHeartbeats 4000000 in
set_option maxRecDepth 100000 in
theorem w_J7_copyOf_59c91_17 {M : zM} {D : va_G} {cy : Nat → ClassId} {ad0 K0 : Nat → Nat} {n0 : Nat} {r' : Nat × zS} (Z : RZAr M D cy ad0 n0 K0 r'.1 r'.2) (hC : M.2.2.2.1.cells = r'.2.2.1 ∧ M.2.2.2.1.slots = r'.2.2.2.1) (y0 : Nat) (t0 : Nat) (x1 : Int32) (n c q : Nat) (K N : Nat → Nat) (G : zG) (V : zI) (L : zL) (ad : Nat → Nat) (ls : Array Slot) (X : RXA M D cy ad n c q K N G cJ7_copyOf_59c91 3 RJ7 1 60) (ha : ∀ w, w < n0 → ad w = ad0 w) (hn0 : n0 ≤ n) (hk0 : ∀ w, w < n0 → K w = K0 w) (hy0 : y0 < n ∧ K y0 = 100) (ht0 : t0 < n ∧ K t0 = 100) (hl : lv_has ls 3 [(0, .ref (ad y0)), (1, .int x1)]) (hf : f_J7_copyOf_59c91_17 y0 t0 x1 n c q K N G V L = some r') : RG (zMb M c q) (zC D cy ad n K N G) V L 17 ls [.ref (ad t0)] := by
  unfold f_J7_copyOf_59c91_17 at hf
  refine c_astore_n (lv' := [(2, .ref (ad t0)), (0, .ref (ad y0)), (1, .int x1)]) X.1 dJ7_copyOf_59c91_17 rfl hl (by decide) rfl (fun ls hl => ?_)
  refine z_aload_n X.1.1 dJ7_copyOf_59c91_18 rfl (lv_at hl 1 rfl) ?_
  refine z_iconst (v := 0) X.1.1 dJ7_copyOf_59c91_19 (by decide) ?_
  refine z_aload_n X.1.1 dJ7_copyOf_59c91_20 rfl (lv_at hl 0 rfl) ?_
  refine z_iconst (v := 0) X.1.1 dJ7_copyOf_59c91_21 (by decide) ?_
  refine z_aload_n X.1.1 dJ7_copyOf_59c91_22 rfl (lv_at hl 1 rfl) ?_
  refine c_alen100 X.1 hy0 dJ7_copyOf_59c91_23 ?_
  refine z_iload_n X.1.1 dJ7_copyOf_59c91_24 rfl (lv_at hl 2 rfl) ?_
  refine c_min X.1 hl.1 cj_J7_304 ⟨by decide, Nat.le_of_ble_eq_true rfl⟩ dJ7_copyOf_59c91_25 ?_
  obtain ⟨hb1, hf⟩ := z_ite hf
  refine c_copy X.1 hl.1 cj_J7_150 hy0 ht0 hb1 ⟨by decide, Nat.le_of_ble_eq_true rfl⟩ dJ7_copyOf_59c91_28 ?_
  refine z_aload_n X.1.1 dJ7_copyOf_59c91_31 rfl (lv_at hl 0 rfl) ?_
  exact a_rret X Z ha hn0 hk0 ht0 hf dJ7_copyOf_59c91_32

set_option maxHeartbeats 4000000 in
set_option maxRecDepth 100000 in
theorem w_J7_copyOf_59c91 {M : zM} {D : va_G} {cy : Nat → ClassId} {ad0 K0 : Nat → Nat} {n0 : Nat} {r' : Nat × zS} (Z : RZAr M D cy ad0 n0 K0 r'.1 r'.2) (hC : M.2.2.2.1.cells = r'.2.2.1 ∧ M.2.2.2.1.slots = r'.2.2.2.1) (y0 : Nat) (x1 : Int32) (n c q : Nat) (K N : Nat → Nat) (G : zG) (V : zI) (L : zL) (ad : Nat → Nat) (ls : Array Slot) (X : RXA M D cy ad n c q K N G cJ7_copyOf_59c91 3 RJ7 1 60) (ha : ∀ w, w < n0 → ad w = ad0 w) (hn0 : n0 ≤ n) (hk0 : ∀ w, w < n0 → K w = K0 w) (hy0 : y0 < n ∧ K y0 = 100) (hl : lv_has ls 3 [(0, .ref (ad y0)), (1, .int x1)]) (hf : g_J7_copyOf_59c91 y0 x1 n c q K N G V L = some r') : RG (zMb M c q) (zC D cy ad n K N G) V L 0 ls [] := by
  unfold g_J7_copyOf_59c91 at hf
  refine z_iload_n X.1.1 dJ7_copyOf_59c91_0 rfl (lv_at hl 1 rfl) ?_
  refine z_aload_n X.1.1 dJ7_copyOf_59c91_1 rfl (lv_at hl 0 rfl) ?_
  refine c_alen100 X.1 hy0 dJ7_copyOf_59c91_2 ?_
  refine z_icmp_ne (tgt := 14) X.1.1 dJ7_copyOf_59c91_3 (by decide) (fun c_ => ?_) (fun c_ => ?_)
  · have hf := (if_neg c_).symm.trans hf
    refine z_iload_n X.1.1 dJ7_copyOf_59c91_14 rfl (lv_at hl 1 rfl) ?_
    obtain ⟨hb1, hf⟩ := z_ite hf
    have hm := m_J7_copyOf_59c91_17 y0 n x1 (n + 1) (c + 1) (q + x1.toNatClampNeg) (kU K n 100) (kU N n x1.toNatClampNeg) (kU G n zn0) (kU V n (fun _ => 0)) (kU L n (fun _ => 0)) hf
    refine a_newi X hb1 ca_100 ⟨by rw [hC.1]; exact hm.1, by rw [hC.2]; exact hm.2⟩ dJ7_copyOf_59c91_15 (fun ad' hag X => ?_)
    rw [← hag y0 hy0.1] at hl
    exact w_J7_copyOf_59c91_17 Z hC y0 n x1 (n + 1) (c + 1) (q + x1.toNatClampNeg) (kU K n 100) (kU N n x1.toNatClampNeg) (kU G n zn0) (kU V n (fun _ => 0)) (kU L n (fun _ => 0)) ad' ls X (zag_up ha hn0 hag) (by omega) (zag_up hk0 hn0 (fun w h => kU_ne (by omega))) (zh_up hy0) zh_new (lv_sub hl [0, 1] rfl) hf
  · have hf := (if_pos c_).symm.trans hf
    cases hf

theorem c_J7_copyOf_59c91 (D : va_G) (cy : Nat → ClassId) (ad : Nat → Nat) {n : Nat} {K N : Nat → Nat} {G : zG} (hWF : zWF n K G) {y0 : Nat} {x1 : Int32} {V : zI} {L : zL} (hy0 : y0 < n ∧ K y0 = 100) {r' : Nat × zS} (hf : f_J7_copyOf_59c91 y0 x1 n K N G V L = some r') : RAr D cy ad n K N G yJ7_copyOf_59c91 cJ7_copyOf_59c91 3 1 60 [.ref (ad y0), .int x1] V L r'.1 r'.2 :=
  RAr.ofF (by decide +kernel) hWF (Nat.le_of_ble_eq_true rfl) (fun M X Z hC hnm ls hl => w_J7_copyOf_59c91 Z hC y0 x1 n 0 0 K N G V L ad ls X (fun _ _ => rfl) (Nat.le_refl _) (fun _ _ => rfl) hy0 hl hf)
def f_X5_readRule_n_68 (t0 : Nat) (n c q : Nat) (K N : Nat → Nat) (G : zG) (V : zI) (L : zL) : Option (Nat × zS) :=
  some (t0, n, c, q, K, N, G, V, L)
def f_X5_readRule_n_57 (y0 : Nat) (n c q : Nat) (K N : Nat → Nat) (G : zG) (V : zI) (L : zL) : Option (Nat × zS) :=
  (G y0 6).bind fun v1 => (f_J7_copyOf_59c91 v1 (V y0 7) n K N G V L).bind fun r2 => f_X5_readRule_n_68 r2.1 r2.2.1 (c + r2.2.2.1) (q + r2.2.2.2.1) r2.2.2.2.2.1 r2.2.2.2.2.2.1 r2.2.2.2.2.2.2.1 r2.2.2.2.2.2.2.2.1 r2.2.2.2.2.2.2.2.2
def f_X5_readRule_n_37 (y0 : Nat) (t0 : Nat) (x2 : Int32) (s1 : Int32) (n c q : Nat) (K N : Nat → Nat) (G : zG) (V : zI) (L : zL) : Option (Nat × zS) :=
  if zB s1 then (if x2 = 6 then (f_X5_readTest_T N G y0 (z_uI V t0 9 s1) L).bind fun r3 => f_X5_readRule_n_57 y0 n c q K N G r3.1 r3.2 else (f_X5_readSum_T N G y0 (z_uI V t0 9 s1) L).bind fun r2 => f_X5_readRule_n_57 y0 n c q K N G r2.1 r2.2) else none
def g_X5_readRule_n (y0 : Nat) (x2 : Int32) (n c q : Nat) (K N : Nat → Nat) (G : zG) (V : zI) (L : zL) : Option (Nat × zS) :=
  (f_X5_take N G y0 V L).bind fun r1 => (if x2 = 8 then f_X5_readRule_n_37 y0 y0 x2 1 n c q K N G (z_uI r1.1 y0 7 0) r1.2 else f_X5_readRule_n_37 y0 y0 x2 0 n c q K N G (z_uI r1.1 y0 7 0) r1.2)
def f_X5_readRule_n (y0 : Nat) (x2 : Int32) (n : Nat) (K N : Nat → Nat) (G : zG) (V : zI) (L : zL) : Option (Nat × zS) := g_X5_readRule_n y0 x2 n 0 0 K N G V L
set_option maxHeartbeats 4000000 in
set_option maxRecDepth 100000 in
theorem m_X5_readRule_n_68 (t0 : Nat) (n c q : Nat) (K N : Nat → Nat) (G : zG) (V : zI) (L : zL) {r' : Nat × zS} (hf : f_X5_readRule_n_68 t0 n c q K N G V L = some r') : c ≤ r'.2.2.1 ∧ q ≤ r'.2.2.2.1 := by
  unfold f_X5_readRule_n_68 at hf
  cases hf
  exact ⟨Nat.le_refl _, Nat.le_refl _⟩

set_option maxHeartbeats 4000000 in
set_option maxRecDepth 100000 in
theorem m_X5_readRule_n_57 (y0 : Nat) (n c q : Nat) (K N : Nat → Nat) (G : zG) (V : zI) (L : zL) {r' : Nat × zS} (hf : f_X5_readRule_n_57 y0 n c q K N G V L = some r') : c ≤ r'.2.2.1 ∧ q ≤ r'.2.2.2.1 := by
  unfold f_X5_readRule_n_57 at hf
  obtain ⟨v1, hG1, hf⟩ := z_bind hf
  obtain ⟨r2, hc2, hf⟩ := z_bind hf
  have hm := m_X5_readRule_n_68 r2.1 r2.2.1 (c + r2.2.2.1) (q + r2.2.2.2.1) r2.2.2.2.2.1 r2.2.2.2.2.2.1 r2.2.2.2.2.2.2.1 r2.2.2.2.2.2.2.2.1 r2.2.2.2.2.2.2.2.2 hf
  exact ⟨by omega, by omega⟩

set_option maxHeartbeats 4000000 in
set_option maxRecDepth 100000 in
theorem m_X5_readRule_n_37 (y0 : Nat) (t0 : Nat) (x2 : Int32) (s1 : Int32) (n c q : Nat) (K N : Nat → Nat) (G : zG) (V : zI) (L : zL) {r' : Nat × zS} (hf : f_X5_readRule_n_37 y0 t0 x2 s1 n c q K N G V L = some r') : c ≤ r'.2.2.1 ∧ q ≤ r'.2.2.2.1 := by
  unfold f_X5_readRule_n_37 at hf
  obtain ⟨hb1, hf⟩ := z_ite hf
  rcases z_iteE hf with hf | hf
  ·
    obtain ⟨r3, hc3, hf⟩ := z_bind hf
    exact m_X5_readRule_n_57 y0 n c q K N G r3.1 r3.2 hf
  ·
    obtain ⟨r2, hc2, hf⟩ := z_bind hf
    exact m_X5_readRule_n_57 y0 n c q K N G r2.1 r2.2 hf

set_option maxHeartbeats 4000000 in
set_option maxRecDepth 100000 in
theorem w_X5_readRule_n_68 {M : zM} {D : va_G} {cy : Nat → ClassId} {ad0 K0 : Nat → Nat} {n0 : Nat} {r' : Nat × zS} (Z : RZAr M D cy ad0 n0 K0 r'.1 r'.2) (hC : M.2.2.2.1.cells = r'.2.2.1 ∧ M.2.2.2.1.slots = r'.2.2.2.1) (t0 : Nat) (n c q : Nat) (K N : Nat → Nat) (G : zG) (V : zI) (L : zL) (ad : Nat → Nat) (ls : Array Slot) (X : RXA M D cy ad n c q K N G cX5_readRule 3 RX5 104 2286) (ha : ∀ w, w < n0 → ad w = ad0 w) (hn0 : n0 ≤ n) (hk0 : ∀ w, w < n0 → K w = K0 w) (ht0 : t0 < n ∧ K t0 = 100) (hl : lv_has ls 3 []) (hf : f_X5_readRule_n_68 t0 n c q K N G V L = some r') : RG (zMb M c q) (zC D cy ad n K N G) V L 68 ls [.ref (ad t0)] := by
  unfold f_X5_readRule_n_68 at hf
  exact a_rret X Z ha hn0 hk0 ht0 hf dX5_readRule_68

set_option maxHeartbeats 4000000 in
set_option maxRecDepth 100000 in
theorem w_X5_readRule_n_57 {M : zM} {D : va_G} {cy : Nat → ClassId} {ad0 K0 : Nat → Nat} {n0 : Nat} {r' : Nat × zS} (Z : RZAr M D cy ad0 n0 K0 r'.1 r'.2) (hC : M.2.2.2.1.cells = r'.2.2.1 ∧ M.2.2.2.1.slots = r'.2.2.2.1) (y0 : Nat) (n c q : Nat) (K N : Nat → Nat) (G : zG) (V : zI) (L : zL) (ad : Nat → Nat) (ls : Array Slot) (X : RXA M D cy ad n c q K N G cX5_readRule 3 RX5 104 2286) (ha : ∀ w, w < n0 → ad w = ad0 w) (hn0 : n0 ≤ n) (hk0 : ∀ w, w < n0 → K w = K0 w) (hy0 : y0 < n ∧ K y0 = 4) (hl : lv_has ls 3 [(0, .ref (ad y0))]) (hf : f_X5_readRule_n_57 y0 n c q K N G V L = some r') : RG (zMb M c q) (zC D cy ad n K N G) V L 57 ls [] := by
  unfold f_X5_readRule_n_57 at hf
  refine z_aload_n X.1.1 dX5_readRule_57 rfl (lv_at hl 0 rfl) ?_
  obtain ⟨v1, hG1, hf⟩ := z_bind hf
  have hv1 := X.1.2.2.get hy0 (k := 6) (c := 100) rfl hG1
  refine c_geta X.1 hy0 cf_X5_66 hG1 dX5_readRule_58 ?_
  refine z_aload_n X.1.1 dX5_readRule_61 rfl (lv_at hl 0 rfl) ?_
  refine c_geti X.1 hy0 cf_X5_33 dX5_readRule_62 ?_
  obtain ⟨r2, hc2, hf⟩ := z_bind hf
  have hm := m_X5_readRule_n_68 r2.1 r2.2.1 (c + r2.2.2.1) (q + r2.2.2.2.1) r2.2.2.2.2.1 r2.2.2.2.2.2.1 r2.2.2.2.2.2.2.1 r2.2.2.2.2.2.2.2.1 r2.2.2.2.2.2.2.2.2 hf
  refine a_callSr [.ref (ad v1), .int (V y0 7)] X hl.1 (c_J7_copyOf_59c91 D cy ad X.1.2.2 hv1 hc2) cm_X5_156 cw_J7_copyOf_59c91 rfl cq_J7_copyOf_59c91 ⟨by decide, by decide⟩ (Nat.le_of_ble_eq_true rfl) rfl ⟨by rw [hC.1]; exact hm.1, by rw [hC.2]; exact hm.2⟩ dX5_readRule_65 (fun ad' hag hnn hKg hv X => ?_)
  rw [← hag y0 hy0.1] at hl
  exact w_X5_readRule_n_68 Z hC r2.1 r2.2.1 (c + r2.2.2.1) (q + r2.2.2.2.1) r2.2.2.2.2.1 r2.2.2.2.2.2.1 r2.2.2.2.2.2.2.1 r2.2.2.2.2.2.2.2.1 r2.2.2.2.2.2.2.2.2 ad' ls X (zag_up ha hn0 hag) (by omega) (zag_up hk0 hn0 hKg) hv (lv_sub hl [] rfl) hf

set_option maxHeartbeats 4000000 in
set_option maxRecDepth 100000 in
theorem w_X5_readRule_n_37 {M : zM} {D : va_G} {cy : Nat → ClassId} {ad0 K0 : Nat → Nat} {n0 : Nat} {r' : Nat × zS} (Z : RZAr M D cy ad0 n0 K0 r'.1 r'.2) (hC : M.2.2.2.1.cells = r'.2.2.1 ∧ M.2.2.2.1.slots = r'.2.2.2.1) (y0 : Nat) (t0 : Nat) (x2 : Int32) (s1 : Int32) (n c q : Nat) (K N : Nat → Nat) (G : zG) (V : zI) (L : zL) (ad : Nat → Nat) (ls : Array Slot) (X : RXA M D cy ad n c q K N G cX5_readRule 3 RX5 104 2286) (ha : ∀ w, w < n0 → ad w = ad0 w) (hn0 : n0 ≤ n) (hk0 : ∀ w, w < n0 → K w = K0 w) (hy0 : y0 < n ∧ K y0 = 4) (ht0 : t0 < n ∧ K t0 = 4) (hl : lv_has ls 3 [(0, .ref (ad y0)), (2, .int x2)]) (hf : f_X5_readRule_n_37 y0 t0 x2 s1 n c q K N G V L = some r') : RG (zMb M c q) (zC D cy ad n K N G) V L 37 ls [.int s1, .ref (ad t0)] := by
  unfold f_X5_readRule_n_37 at hf
  obtain ⟨hb1, hf⟩ := z_ite hf
  refine c_puti X.1 ht0 cf_X5_39 cg_X5 cp_X5_9 (zB_nar hb1) (zB_fit hb1) dX5_readRule_37 ?_
  refine z_iload_n X.1.1 dX5_readRule_40 rfl (lv_at hl 1 rfl) ?_
  refine z_bipush (v := 6) X.1.1 dX5_readRule_41 (by decide) ?_
  refine z_icmp_ne (tgt := 53) X.1.1 dX5_readRule_43 (by decide) (fun c_ => ?_) (fun c_ => ?_)
  · have hf := (if_neg c_).symm.trans hf
    refine z_aload_n X.1.1 dX5_readRule_53 rfl (lv_at hl 0 rfl) ?_
    obtain ⟨r2, hc2, hf⟩ := z_bind hf
    refine c_callVv [] X.1 hl.1 (c_X5_readSum_T D cy ad X.1.2.2 hy0 hc2) hy0 ⟨by decide, rfl⟩ cm_X5_153 cw_X5_readSum rfl cq_X5_readSum ⟨by decide, by decide⟩ (Nat.le_of_ble_eq_true rfl) rfl dX5_readRule_54 ?_
    exact w_X5_readRule_n_57 Z hC y0 n c q K N G r2.1 r2.2 ad ls X ha hn0 hk0 hy0 (lv_sub hl [0] rfl) hf
  · have hf := (if_pos c_).symm.trans hf
    refine z_aload_n X.1.1 dX5_readRule_46 rfl (lv_at hl 0 rfl) ?_
    obtain ⟨r3, hc3, hf⟩ := z_bind hf
    refine c_callVv [] X.1 hl.1 (c_X5_readTest_T D cy ad X.1.2.2 hy0 hc3) hy0 ⟨by decide, rfl⟩ cm_X5_150 cw_X5_readTest rfl cq_X5_readTest ⟨by decide, by decide⟩ (Nat.le_of_ble_eq_true rfl) rfl dX5_readRule_47 ?_
    refine z_goto (tgt := 57) X.1.1 dX5_readRule_50 (by decide) ?_
    exact w_X5_readRule_n_57 Z hC y0 n c q K N G r3.1 r3.2 ad ls X ha hn0 hk0 hy0 (lv_sub hl [0] rfl) hf

set_option maxHeartbeats 4000000 in
set_option maxRecDepth 100000 in
theorem w_X5_readRule_n {M : zM} {D : va_G} {cy : Nat → ClassId} {ad0 K0 : Nat → Nat} {n0 : Nat} {r' : Nat × zS} (Z : RZAr M D cy ad0 n0 K0 r'.1 r'.2) (hC : M.2.2.2.1.cells = r'.2.2.1 ∧ M.2.2.2.1.slots = r'.2.2.2.1) (y0 : Nat) (x2 : Int32) (n c q : Nat) (K N : Nat → Nat) (G : zG) (V : zI) (L : zL) (ad : Nat → Nat) (ls : Array Slot) (X : RXA M D cy ad n c q K N G cX5_readRule 3 RX5 104 2286) (ha : ∀ w, w < n0 → ad w = ad0 w) (hn0 : n0 ≤ n) (hk0 : ∀ w, w < n0 → K w = K0 w) (hy0 : y0 < n ∧ K y0 = 4) (hl : lv_has ls 3 [(0, .ref (ad y0)), (1, .null), (2, .int x2)]) (hf : g_X5_readRule_n y0 x2 n c q K N G V L = some r') : RG (zMb M c q) (zC D cy ad n K N G) V L 0 ls [] := by
  unfold g_X5_readRule_n at hf
  refine c_aload_nN X.1 dX5_readRule_0 rfl (lv_at hl 1 rfl) ?_
  refine c_ifnullN (tgt := 16) X.1 dX5_readRule_1 (by decide) ?_
  refine z_aload_n X.1.1 dX5_readRule_16 rfl (lv_at hl 0 rfl) ?_
  obtain ⟨r1, hc1, hf⟩ := z_bind hf
  refine c_callVv [] X.1 hl.1 (c_X5_take D cy ad X.1.2.2 hy0 hc1) hy0 ⟨by decide, rfl⟩ cm_X5_70 cw_X5_take rfl cq_X5_take ⟨by decide, by decide⟩ (Nat.le_of_ble_eq_true rfl) rfl dX5_readRule_17 ?_
  refine z_aload_n X.1.1 dX5_readRule_20 rfl (lv_at hl 0 rfl) ?_
  refine z_iconst (v := 0) X.1.1 dX5_readRule_21 (by decide) ?_
  refine c_puti X.1 hy0 cf_X5_33 cg_X5 cp_X5_7 rfl rfl dX5_readRule_22 ?_
  refine z_aload_n X.1.1 dX5_readRule_25 rfl (lv_at hl 0 rfl) ?_
  refine z_iload_n X.1.1 dX5_readRule_26 rfl (lv_at hl 2 rfl) ?_
  refine z_bipush (v := 8) X.1.1 dX5_readRule_27 (by decide) ?_
  refine z_icmp_ne (tgt := 36) X.1.1 dX5_readRule_29 (by decide) (fun c_ => ?_) (fun c_ => ?_)
  · have hf := (if_neg c_).symm.trans hf
    refine z_iconst (v := 0) X.1.1 dX5_readRule_36 (by decide) ?_
    exact w_X5_readRule_n_37 Z hC y0 y0 x2 0 n c q K N G (z_uI r1.1 y0 7 0) r1.2 ad ls X ha hn0 hk0 hy0 hy0 (lv_sub hl [0, 2] rfl) hf
  · have hf := (if_pos c_).symm.trans hf
    refine z_iconst (v := 1) X.1.1 dX5_readRule_32 (by decide) ?_
    refine z_goto (tgt := 37) X.1.1 dX5_readRule_33 (by decide) ?_
    exact w_X5_readRule_n_37 Z hC y0 y0 x2 1 n c q K N G (z_uI r1.1 y0 7 0) r1.2 ad ls X ha hn0 hk0 hy0 hy0 (lv_sub hl [0, 2] rfl) hf

theorem c_X5_readRule_n (D : va_G) (cy : Nat → ClassId) (ad : Nat → Nat) {n : Nat} {K N : Nat → Nat} {G : zG} (hWF : zWF n K G) {y0 : Nat} {x2 : Int32} {V : zI} {L : zL} (hy0 : y0 < n ∧ K y0 = 4) {r' : Nat × zS} (hf : f_X5_readRule_n y0 x2 n K N G V L = some r') : RAr D cy ad n K N G yX5_readRule cX5_readRule 3 104 2286 [.ref (ad y0), .null, .int x2] V L r'.1 r'.2 :=
  RAr.of (by decide) hWF (Nat.le_of_ble_eq_true rfl) (fun M X Z hC hnm ls hl => w_X5_readRule_n Z hC y0 x2 n 0 0 K N G V L ad ls X (fun _ _ => rfl) (Nat.le_refl _) (fun _ _ => rfl) hy0 hl hf)
def g_X5_readRule_s (y0 : Nat) (y1 : Nat) (x2 : Int32) (n c q : Nat) (K N : Nat → Nat) (G : zG) (V : zI) (L : zL) : Option (Nat × zS) :=
  (f_X5_fail N G y0 6 (V y0 4) V L).bind fun r1 => some (y1, n, c, q, K, N, G, r1.1, r1.2)
def f_X5_readRule_s (y0 : Nat) (y1 : Nat) (x2 : Int32) (n : Nat) (K N : Nat → Nat) (G : zG) (V : zI) (L : zL) : Option (Nat × zS) := g_X5_readRule_s y0 y1 x2 n 0 0 K N G V L
set_option maxHeartbeats 4000000 in
set_option maxRecDepth 100000 in
theorem w_X5_readRule_s {M : zM} {D : va_G} {cy : Nat → ClassId} {ad0 K0 : Nat → Nat} {n0 : Nat} {r' : Nat × zS} (Z : RZAr M D cy ad0 n0 K0 r'.1 r'.2) (hC : M.2.2.2.1.cells = r'.2.2.1 ∧ M.2.2.2.1.slots = r'.2.2.2.1) (y0 : Nat) (y1 : Nat) (x2 : Int32) (n c q : Nat) (K N : Nat → Nat) (G : zG) (V : zI) (L : zL) (ad : Nat → Nat) (ls : Array Slot) (X : RXA M D cy ad n c q K N G cX5_readRule 3 RX5 104 2286) (ha : ∀ w, w < n0 → ad w = ad0 w) (hn0 : n0 ≤ n) (hk0 : ∀ w, w < n0 → K w = K0 w) (hy0 : y0 < n ∧ K y0 = 4) (hy1 : y1 < n ∧ K y1 = 100) (hl : lv_has ls 3 [(0, .ref (ad y0)), (1, .ref (ad y1)), (2, .int x2)]) (hf : g_X5_readRule_s y0 y1 x2 n c q K N G V L = some r') : RG (zMb M c q) (zC D cy ad n K N G) V L 0 ls [] := by
  unfold g_X5_readRule_s at hf
  refine z_aload_n X.1.1 dX5_readRule_0 rfl (lv_at hl 1 rfl) ?_
  refine c_ifnull X.1 dX5_readRule_1 ?_
  refine z_aload_n X.1.1 dX5_readRule_4 rfl (lv_at hl 0 rfl) ?_
  refine z_bipush (v := 6) X.1.1 dX5_readRule_5 (by decide) ?_
  refine z_aload_n X.1.1 dX5_readRule_7 rfl (lv_at hl 0 rfl) ?_
  refine c_geti X.1 hy0 cf_X5_23 dX5_readRule_8 ?_
  obtain ⟨r1, hc1, hf⟩ := z_bind hf
  refine c_callVv [.int 6, .int (V y0 4)] X.1 hl.1 (c_X5_fail D cy ad X.1.2.2 hy0 hc1) hy0 ⟨by decide, rfl⟩ cm_X5_73 cw_X5_fail rfl cq_X5_fail ⟨by decide, by decide⟩ (Nat.le_of_ble_eq_true rfl) rfl dX5_readRule_11 ?_
  refine z_aload_n X.1.1 dX5_readRule_14 rfl (lv_at hl 1 rfl) ?_
  exact a_rret X Z ha hn0 hk0 hy1 hf dX5_readRule_15

theorem c_X5_readRule_s (D : va_G) (cy : Nat → ClassId) (ad : Nat → Nat) {n : Nat} {K N : Nat → Nat} {G : zG} (hWF : zWF n K G) {y0 : Nat} {y1 : Nat} {x2 : Int32} {V : zI} {L : zL} (hy0 : y0 < n ∧ K y0 = 4) (hy1 : y1 < n ∧ K y1 = 100) {r' : Nat × zS} (hf : f_X5_readRule_s y0 y1 x2 n K N G V L = some r') : RAr D cy ad n K N G yX5_readRule cX5_readRule 3 104 2286 [.ref (ad y0), .ref (ad y1), .int x2] V L r'.1 r'.2 :=
  RAr.of (by decide) hWF (Nat.le_of_ble_eq_true rfl) (fun M X Z hC hnm ls hl => w_X5_readRule_s Z hC y0 y1 x2 n 0 0 K N G V L ad ls X (fun _ _ => rfl) (Nat.le_refl _) (fun _ _ => rfl) hy0 hy1 hl hf)
def f_X5_readStatement_113 (t0 : Nat) (t1 : Nat) (n c q : Nat) (K N : Nat → Nat) (G : zG) (V : zI) (L : zL) : Option (zS) :=
  some (n, c, q, K, N, gS G t0 8 (some t1), V, L)
def f_X5_readStatement_135 (t0 : Nat) (t1 : Nat) (n c q : Nat) (K N : Nat → Nat) (G : zG) (V : zI) (L : zL) : Option (zS) :=
  some (n, c, q, K, N, gS G t0 9 (some t1), V, L)
def f_X5_readStatement_157 (t0 : Nat) (t1 : Nat) (n c q : Nat) (K N : Nat → Nat) (G : zG) (V : zI) (L : zL) : Option (zS) :=
  some (n, c, q, K, N, gS G t0 10 (some t1), V, L)
def f_X5_readStatement_204 (y0 : Nat) (n c q : Nat) (K N : Nat → Nat) (G : zG) (V : zI) (L : zL) : Option (zS) :=
  (f_X5_failHere N G y0 V L).bind fun r1 => some (n, c, q, K, N, G, r1.1, r1.2)
def f_X5_readStatement_16 (y0 : Nat) (s0 : Int32) (n c q : Nat) (K N : Nat → Nat) (G : zG) (V : zI) (L : zL) : Option (zS) :=
  (if s0 = 0 then (f_X5_readTown N G y0 V L).bind fun r1 => some (n, c, q, K, N, G, r1.1, r1.2) else (if s0 = 1 then (f_X5_readCart N G y0 V L).bind fun r2 => some (n, c, q, K, N, G, r2.1, r2.2) else (if s0 = 2 then f_X5_readStatement_204 y0 n c q K N G V L else (if s0 = 3 then f_X5_readStatement_204 y0 n c q K N G V L else (if s0 = 4 then (f_X5_readHolds N G y0 V L).bind fun r3 => some (n, c, q, K, N, G, r3.1, r3.2) else (if s0 = 5 then f_X5_readStatement_204 y0 n c q K N G V L else (if s0 = 6 then (G y0 5).bind fun v4 => (G y0 5).bind fun v5 => (zopt (G v5 8) ((f_X5_readRule_n y0 s0 n K N G V L).bind fun r7 => f_X5_readStatement_113 v4 r7.1 r7.2.1 (c + r7.2.2.1) (q + r7.2.2.2.1) r7.2.2.2.2.1 r7.2.2.2.2.2.1 r7.2.2.2.2.2.2.1 r7.2.2.2.2.2.2.2.1 r7.2.2.2.2.2.2.2.2) (fun v6 => (f_X5_readRule_s y0 v6 s0 n K N G V L).bind fun r8 => f_X5_readStatement_113 v4 r8.1 r8.2.1 (c + r8.2.2.1) (q + r8.2.2.2.1) r8.2.2.2.2.1 r8.2.2.2.2.2.1 r8.2.2.2.2.2.2.1 r8.2.2.2.2.2.2.2.1 r8.2.2.2.2.2.2.2.2)) else (if s0 = 7 then (G y0 5).bind fun v9 => (G y0 5).bind fun v10 => (zopt (G v10 9) ((f_X5_readRule_n y0 s0 n K N G V L).bind fun r12 => f_X5_readStatement_135 v9 r12.1 r12.2.1 (c + r12.2.2.1) (q + r12.2.2.2.1) r12.2.2.2.2.1 r12.2.2.2.2.2.1 r12.2.2.2.2.2.2.1 r12.2.2.2.2.2.2.2.1 r12.2.2.2.2.2.2.2.2) (fun v11 => (f_X5_readRule_s y0 v11 s0 n K N G V L).bind fun r13 => f_X5_readStatement_135 v9 r13.1 r13.2.1 (c + r13.2.2.1) (q + r13.2.2.2.1) r13.2.2.2.2.1 r13.2.2.2.2.2.1 r13.2.2.2.2.2.2.1 r13.2.2.2.2.2.2.2.1 r13.2.2.2.2.2.2.2.2)) else (if s0 = 8 then (G y0 5).bind fun v14 => (G y0 5).bind fun v15 => (zopt (G v15 10) ((f_X5_readRule_n y0 s0 n K N G V L).bind fun r17 => f_X5_readStatement_157 v14 r17.1 r17.2.1 (c + r17.2.2.1) (q + r17.2.2.2.1) r17.2.2.2.2.1 r17.2.2.2.2.2.1 r17.2.2.2.2.2.2.1 r17.2.2.2.2.2.2.2.1 r17.2.2.2.2.2.2.2.2) (fun v16 => (f_X5_readRule_s y0 v16 s0 n K N G V L).bind fun r18 => f_X5_readStatement_157 v14 r18.1 r18.2.1 (c + r18.2.2.1) (q + r18.2.2.2.1) r18.2.2.2.2.1 r18.2.2.2.2.2.1 r18.2.2.2.2.2.2.1 r18.2.2.2.2.2.2.2.1 r18.2.2.2.2.2.2.2.2)) else (if s0 = 9 then (f_X5_take N G y0 V L).bind fun r19 => (G y0 5).bind fun v20 => (f_X5_readNumber N G y0 0 3 r19.1 r19.2).bind fun r21 => some (n, c, q, K, N, G, z_uI r21.2.1 v20 3 r21.1, r21.2.2) else (if s0 = 10 then (f_X5_take N G y0 V L).bind fun r22 => (G y0 5).bind fun v23 => (f_X5_readNumber N G y0 0 100 r22.1 r22.2).bind fun r24 => some (n, c, q, K, N, G, z_uI r24.2.1 v23 4 r24.1, r24.2.2) else f_X5_readStatement_204 y0 n c q K N G V L)))))))))))
def g_X5_readStatement (y0 : Nat) (n c q : Nat) (K N : Nat → Nat) (G : zG) (V : zI) (L : zL) : Option (zS) :=
  (if (V y0 2) = 4 then f_X5_readStatement_16 y0 (V y0 3) n c q K N G V L else f_X5_readStatement_16 y0 (-1) n c q K N G V L)
def f_X5_readStatement (y0 : Nat) (n : Nat) (K N : Nat → Nat) (G : zG) (V : zI) (L : zL) : Option (zS) := g_X5_readStatement y0 n 0 0 K N G V L
set_option maxHeartbeats 4000000 in
set_option maxRecDepth 100000 in
theorem m_X5_readStatement_113 (t0 : Nat) (t1 : Nat) (n c q : Nat) (K N : Nat → Nat) (G : zG) (V : zI) (L : zL) {r' : zS} (hf : f_X5_readStatement_113 t0 t1 n c q K N G V L = some r') : c ≤ r'.2.1 ∧ q ≤ r'.2.2.1 := by
  unfold f_X5_readStatement_113 at hf
  cases hf
  exact ⟨Nat.le_refl _, Nat.le_refl _⟩

set_option maxHeartbeats 4000000 in
set_option maxRecDepth 100000 in
theorem m_X5_readStatement_135 (t0 : Nat) (t1 : Nat) (n c q : Nat) (K N : Nat → Nat) (G : zG) (V : zI) (L : zL) {r' : zS} (hf : f_X5_readStatement_135 t0 t1 n c q K N G V L = some r') : c ≤ r'.2.1 ∧ q ≤ r'.2.2.1 := by
  unfold f_X5_readStatement_135 at hf
  cases hf
  exact ⟨Nat.le_refl _, Nat.le_refl _⟩

set_option maxHeartbeats 4000000 in
set_option maxRecDepth 100000 in
theorem m_X5_readStatement_157 (t0 : Nat) (t1 : Nat) (n c q : Nat) (K N : Nat → Nat) (G : zG) (V : zI) (L : zL) {r' : zS} (hf : f_X5_readStatement_157 t0 t1 n c q K N G V L = some r') : c ≤ r'.2.1 ∧ q ≤ r'.2.2.1 := by
  unfold f_X5_readStatement_157 at hf
  cases hf
  exact ⟨Nat.le_refl _, Nat.le_refl _⟩

set_option maxHeartbeats 4000000 in
set_option maxRecDepth 100000 in
theorem m_X5_readStatement_204 (y0 : Nat) (n c q : Nat) (K N : Nat → Nat) (G : zG) (V : zI) (L : zL) {r' : zS} (hf : f_X5_readStatement_204 y0 n c q K N G V L = some r') : c ≤ r'.2.1 ∧ q ≤ r'.2.2.1 := by
  unfold f_X5_readStatement_204 at hf
  obtain ⟨r1, hc1, hf⟩ := z_bind hf
  cases hf
  exact ⟨Nat.le_refl _, Nat.le_refl _⟩

set_option maxHeartbeats 4000000 in
set_option maxRecDepth 100000 in
theorem m_X5_readStatement_16 (y0 : Nat) (s0 : Int32) (n c q : Nat) (K N : Nat → Nat) (G : zG) (V : zI) (L : zL) {r' : zS} (hf : f_X5_readStatement_16 y0 s0 n c q K N G V L = some r') : c ≤ r'.2.1 ∧ q ≤ r'.2.2.1 := by
  unfold f_X5_readStatement_16 at hf
  rcases z_iteE hf with hf | hf
  ·
    obtain ⟨r1, hc1, hf⟩ := z_bind hf
    cases hf
    exact ⟨Nat.le_refl _, Nat.le_refl _⟩
  rcases z_iteE hf with hf | hf
  ·
    obtain ⟨r2, hc2, hf⟩ := z_bind hf
    cases hf
    exact ⟨Nat.le_refl _, Nat.le_refl _⟩
  rcases z_iteE hf with hf | hf
  ·
    exact m_X5_readStatement_204 y0 n c q K N G V L hf
  rcases z_iteE hf with hf | hf
  ·
    exact m_X5_readStatement_204 y0 n c q K N G V L hf
  rcases z_iteE hf with hf | hf
  ·
    obtain ⟨r3, hc3, hf⟩ := z_bind hf
    cases hf
    exact ⟨Nat.le_refl _, Nat.le_refl _⟩
  rcases z_iteE hf with hf | hf
  ·
    exact m_X5_readStatement_204 y0 n c q K N G V L hf
  rcases z_iteE hf with hf | hf
  ·
    obtain ⟨v4, hG4, hf⟩ := z_bind hf
    obtain ⟨v5, hG5, hf⟩ := z_bind hf
    rcases z_optE hf with ⟨hG6, hf⟩ | ⟨v6, hG6, hf⟩
    ·
      obtain ⟨r7, hc7, hf⟩ := z_bind hf
      have hm := m_X5_readStatement_113 v4 r7.1 r7.2.1 (c + r7.2.2.1) (q + r7.2.2.2.1) r7.2.2.2.2.1 r7.2.2.2.2.2.1 r7.2.2.2.2.2.2.1 r7.2.2.2.2.2.2.2.1 r7.2.2.2.2.2.2.2.2 hf
      exact ⟨by omega, by omega⟩
    ·
      obtain ⟨r8, hc8, hf⟩ := z_bind hf
      have hm := m_X5_readStatement_113 v4 r8.1 r8.2.1 (c + r8.2.2.1) (q + r8.2.2.2.1) r8.2.2.2.2.1 r8.2.2.2.2.2.1 r8.2.2.2.2.2.2.1 r8.2.2.2.2.2.2.2.1 r8.2.2.2.2.2.2.2.2 hf
      exact ⟨by omega, by omega⟩
  rcases z_iteE hf with hf | hf
  ·
    obtain ⟨v9, hG9, hf⟩ := z_bind hf
    obtain ⟨v10, hG10, hf⟩ := z_bind hf
    rcases z_optE hf with ⟨hG11, hf⟩ | ⟨v11, hG11, hf⟩
    ·
      obtain ⟨r12, hc12, hf⟩ := z_bind hf
      have hm := m_X5_readStatement_135 v9 r12.1 r12.2.1 (c + r12.2.2.1) (q + r12.2.2.2.1) r12.2.2.2.2.1 r12.2.2.2.2.2.1 r12.2.2.2.2.2.2.1 r12.2.2.2.2.2.2.2.1 r12.2.2.2.2.2.2.2.2 hf
      exact ⟨by omega, by omega⟩
    ·
      obtain ⟨r13, hc13, hf⟩ := z_bind hf
      have hm := m_X5_readStatement_135 v9 r13.1 r13.2.1 (c + r13.2.2.1) (q + r13.2.2.2.1) r13.2.2.2.2.1 r13.2.2.2.2.2.1 r13.2.2.2.2.2.2.1 r13.2.2.2.2.2.2.2.1 r13.2.2.2.2.2.2.2.2 hf
      exact ⟨by omega, by omega⟩
  rcases z_iteE hf with hf | hf
  ·
    obtain ⟨v14, hG14, hf⟩ := z_bind hf
    obtain ⟨v15, hG15, hf⟩ := z_bind hf
    rcases z_optE hf with ⟨hG16, hf⟩ | ⟨v16, hG16, hf⟩
    ·
      obtain ⟨r17, hc17, hf⟩ := z_bind hf
      have hm := m_X5_readStatement_157 v14 r17.1 r17.2.1 (c + r17.2.2.1) (q + r17.2.2.2.1) r17.2.2.2.2.1 r17.2.2.2.2.2.1 r17.2.2.2.2.2.2.1 r17.2.2.2.2.2.2.2.1 r17.2.2.2.2.2.2.2.2 hf
      exact ⟨by omega, by omega⟩
    ·
      obtain ⟨r18, hc18, hf⟩ := z_bind hf
      have hm := m_X5_readStatement_157 v14 r18.1 r18.2.1 (c + r18.2.2.1) (q + r18.2.2.2.1) r18.2.2.2.2.1 r18.2.2.2.2.2.1 r18.2.2.2.2.2.2.1 r18.2.2.2.2.2.2.2.1 r18.2.2.2.2.2.2.2.2 hf
      exact ⟨by omega, by omega⟩
  rcases z_iteE hf with hf | hf
  ·
    obtain ⟨r19, hc19, hf⟩ := z_bind hf
    obtain ⟨v20, hG20, hf⟩ := z_bind hf
    obtain ⟨r21, hc21, hf⟩ := z_bind hf
    cases hf
    exact ⟨Nat.le_refl _, Nat.le_refl _⟩
  rcases z_iteE hf with hf | hf
  ·
    obtain ⟨r22, hc22, hf⟩ := z_bind hf
    obtain ⟨v23, hG23, hf⟩ := z_bind hf
    obtain ⟨r24, hc24, hf⟩ := z_bind hf
    cases hf
    exact ⟨Nat.le_refl _, Nat.le_refl _⟩
  exact m_X5_readStatement_204 y0 n c q K N G V L hf

set_option maxHeartbeats 4000000 in
set_option maxRecDepth 100000 in
theorem w_X5_readStatement_113 {M : zM} {D : va_G} {cy : Nat → ClassId} {ad0 K0 : Nat → Nat} {n0 : Nat} {r' : zS} (Z : RZAv M D cy ad0 n0 K0 r') (hC : M.2.2.2.1.cells = r'.2.1 ∧ M.2.2.2.1.slots = r'.2.2.1) (t0 : Nat) (t1 : Nat) (n c q : Nat) (K N : Nat → Nat) (G : zG) (V : zI) (L : zL) (ad : Nat → Nat) (ls : Array Slot) (X : RXA M D cy ad n c q K N G cX5_readStatement 2 RX5 105 2308) (ha : ∀ w, w < n0 → ad w = ad0 w) (hn0 : n0 ≤ n) (hk0 : ∀ w, w < n0 → K w = K0 w) (ht0 : t0 < n ∧ K t0 = 7) (ht1 : t1 < n ∧ K t1 = 100) (hl : lv_has ls 2 []) (hf : f_X5_readStatement_113 t0 t1 n c q K N G V L = some r') : RG (zMb M c q) (zC D cy ad n K N G) V L 113 ls [.ref (ad t1), .ref (ad t0)] := by
  unfold f_X5_readStatement_113 at hf
  refine a_put (o := (some t1)) X ht0 cf_X5_95 cg_X9 rfl rfl (Or.inr ⟨_, rfl, ht1.1, ht1.2⟩) (ct_X9_8) rfl rfl dX5_readStatement_113 (fun X => ?_)
  refine z_goto (tgt := 208) X.1.1 dX5_readStatement_116 (by decide) ?_
  exact a_vret X Z ha hn0 hk0 hf dX5_readStatement_208

set_option maxHeartbeats 4000000 in
set_option maxRecDepth 100000 in
theorem w_X5_readStatement_135 {M : zM} {D : va_G} {cy : Nat → ClassId} {ad0 K0 : Nat → Nat} {n0 : Nat} {r' : zS} (Z : RZAv M D cy ad0 n0 K0 r') (hC : M.2.2.2.1.cells = r'.2.1 ∧ M.2.2.2.1.slots = r'.2.2.1) (t0 : Nat) (t1 : Nat) (n c q : Nat) (K N : Nat → Nat) (G : zG) (V : zI) (L : zL) (ad : Nat → Nat) (ls : Array Slot) (X : RXA M D cy ad n c q K N G cX5_readStatement 2 RX5 105 2308) (ha : ∀ w, w < n0 → ad w = ad0 w) (hn0 : n0 ≤ n) (hk0 : ∀ w, w < n0 → K w = K0 w) (ht0 : t0 < n ∧ K t0 = 7) (ht1 : t1 < n ∧ K t1 = 100) (hl : lv_has ls 2 []) (hf : f_X5_readStatement_135 t0 t1 n c q K N G V L = some r') : RG (zMb M c q) (zC D cy ad n K N G) V L 135 ls [.ref (ad t1), .ref (ad t0)] := by
  unfold f_X5_readStatement_135 at hf
  refine a_put (o := (some t1)) X ht0 cf_X5_102 cg_X9 rfl rfl (Or.inr ⟨_, rfl, ht1.1, ht1.2⟩) (ct_X9_9) rfl rfl dX5_readStatement_135 (fun X => ?_)
  refine z_goto (tgt := 208) X.1.1 dX5_readStatement_138 (by decide) ?_
  exact a_vret X Z ha hn0 hk0 hf dX5_readStatement_208

set_option maxHeartbeats 4000000 in
set_option maxRecDepth 100000 in
theorem w_X5_readStatement_157 {M : zM} {D : va_G} {cy : Nat → ClassId} {ad0 K0 : Nat → Nat} {n0 : Nat} {r' : zS} (Z : RZAv M D cy ad0 n0 K0 r') (hC : M.2.2.2.1.cells = r'.2.1 ∧ M.2.2.2.1.slots = r'.2.2.1) (t0 : Nat) (t1 : Nat) (n c q : Nat) (K N : Nat → Nat) (G : zG) (V : zI) (L : zL) (ad : Nat → Nat) (ls : Array Slot) (X : RXA M D cy ad n c q K N G cX5_readStatement 2 RX5 105 2308) (ha : ∀ w, w < n0 → ad w = ad0 w) (hn0 : n0 ≤ n) (hk0 : ∀ w, w < n0 → K w = K0 w) (ht0 : t0 < n ∧ K t0 = 7) (ht1 : t1 < n ∧ K t1 = 100) (hl : lv_has ls 2 []) (hf : f_X5_readStatement_157 t0 t1 n c q K N G V L = some r') : RG (zMb M c q) (zC D cy ad n K N G) V L 157 ls [.ref (ad t1), .ref (ad t0)] := by
  unfold f_X5_readStatement_157 at hf
  refine a_put (o := (some t1)) X ht0 cf_X5_105 cg_X9 rfl rfl (Or.inr ⟨_, rfl, ht1.1, ht1.2⟩) (ct_X9_10) rfl rfl dX5_readStatement_157 (fun X => ?_)
  refine z_goto (tgt := 208) X.1.1 dX5_readStatement_160 (by decide) ?_
  exact a_vret X Z ha hn0 hk0 hf dX5_readStatement_208

set_option maxHeartbeats 4000000 in
set_option maxRecDepth 100000 in
theorem w_X5_readStatement_204 {M : zM} {D : va_G} {cy : Nat → ClassId} {ad0 K0 : Nat → Nat} {n0 : Nat} {r' : zS} (Z : RZAv M D cy ad0 n0 K0 r') (hC : M.2.2.2.1.cells = r'.2.1 ∧ M.2.2.2.1.slots = r'.2.2.1) (y0 : Nat) (n c q : Nat) (K N : Nat → Nat) (G : zG) (V : zI) (L : zL) (ad : Nat → Nat) (ls : Array Slot) (X : RXA M D cy ad n c q K N G cX5_readStatement 2 RX5 105 2308) (ha : ∀ w, w < n0 → ad w = ad0 w) (hn0 : n0 ≤ n) (hk0 : ∀ w, w < n0 → K w = K0 w) (hy0 : y0 < n ∧ K y0 = 4) (hl : lv_has ls 2 [(0, .ref (ad y0))]) (hf : f_X5_readStatement_204 y0 n c q K N G V L = some r') : RG (zMb M c q) (zC D cy ad n K N G) V L 204 ls [] := by
  unfold f_X5_readStatement_204 at hf
  refine z_aload_n X.1.1 dX5_readStatement_204 rfl (lv_at hl 0 rfl) ?_
  obtain ⟨r1, hc1, hf⟩ := z_bind hf
  refine c_callVv [] X.1 hl.1 (c_X5_failHere D cy ad X.1.2.2 hy0 hc1) hy0 ⟨by decide, rfl⟩ cm_X5_117 cw_X5_failHere rfl cq_X5_failHere ⟨by decide, by decide⟩ (Nat.le_of_ble_eq_true rfl) rfl dX5_readStatement_205 ?_
  exact a_vret X Z ha hn0 hk0 hf dX5_readStatement_208

set_option maxHeartbeats 4000000 in
set_option maxRecDepth 100000 in
theorem w_X5_readStatement_16 {M : zM} {D : va_G} {cy : Nat → ClassId} {ad0 K0 : Nat → Nat} {n0 : Nat} {r' : zS} (Z : RZAv M D cy ad0 n0 K0 r') (hC : M.2.2.2.1.cells = r'.2.1 ∧ M.2.2.2.1.slots = r'.2.2.1) (y0 : Nat) (s0 : Int32) (n c q : Nat) (K N : Nat → Nat) (G : zG) (V : zI) (L : zL) (ad : Nat → Nat) (ls : Array Slot) (X : RXA M D cy ad n c q K N G cX5_readStatement 2 RX5 105 2308) (ha : ∀ w, w < n0 → ad w = ad0 w) (hn0 : n0 ≤ n) (hk0 : ∀ w, w < n0 → K w = K0 w) (hy0 : y0 < n ∧ K y0 = 4) (hl : lv_has ls 2 [(0, .ref (ad y0))]) (hf : f_X5_readStatement_16 y0 s0 n c q K N G V L = some r') : RG (zMb M c q) (zC D cy ad n K N G) V L 16 ls [.int s0] := by
  unfold f_X5_readStatement_16 at hf
  refine z_istore_n (lv' := [(1, .int s0), (0, .ref (ad y0))]) X.1.1 dX5_readStatement_16 rfl hl (by decide) rfl (fun ls hl => ?_)
  refine z_iload_n X.1.1 dX5_readStatement_17 rfl (lv_at hl 0 rfl) ?_
  by_cases c0_ : s0 = 0
  · have hf := (if_pos c0_).symm.trans hf
    refine z_tabIn (tgt := 76) (off := 58) X.1.1 dX5_readStatement_18 (by rw [c0_]; decide) (by rw [c0_]; decide) (by rw [c0_]; rfl) (by decide) ?_
    refine z_aload_n X.1.1 dX5_readStatement_76 rfl (lv_at hl 1 rfl) ?_
    obtain ⟨r1, hc1, hf⟩ := z_bind hf
    refine c_callVv [] X.1 hl.1 (c_X5_readTown D cy ad X.1.2.2 hy0 hc1) hy0 ⟨by decide, rfl⟩ cm_X5_86 cw_X5_readTown rfl cq_X5_readTown ⟨by decide, by decide⟩ (Nat.le_of_ble_eq_true rfl) rfl dX5_readStatement_77 ?_
    refine z_goto (tgt := 208) X.1.1 dX5_readStatement_80 (by decide) ?_
    exact a_vret X Z ha hn0 hk0 hf dX5_readStatement_208
  have hf := (if_neg c0_).symm.trans hf
  have d0_ := lv_neT (a := 0) c0_ (by decide)
  by_cases c1_ : s0 = 1
  · have hf := (if_pos c1_).symm.trans hf
    refine z_tabIn (tgt := 83) (off := 65) X.1.1 dX5_readStatement_18 (by rw [c1_]; decide) (by rw [c1_]; decide) (by rw [c1_]; rfl) (by decide) ?_
    refine z_aload_n X.1.1 dX5_readStatement_83 rfl (lv_at hl 1 rfl) ?_
    obtain ⟨r2, hc2, hf⟩ := z_bind hf
    refine c_callVv [] X.1 hl.1 (c_X5_readCart D cy ad X.1.2.2 hy0 hc2) hy0 ⟨by decide, rfl⟩ cm_X5_89 cw_X5_readCart rfl cq_X5_readCart ⟨by decide, by decide⟩ (Nat.le_of_ble_eq_true rfl) rfl dX5_readStatement_84 ?_
    refine z_goto (tgt := 208) X.1.1 dX5_readStatement_87 (by decide) ?_
    exact a_vret X Z ha hn0 hk0 hf dX5_readStatement_208
  have hf := (if_neg c1_).symm.trans hf
  have d1_ := lv_neT (a := 1) c1_ (by decide)
  by_cases c2_ : s0 = 2
  · have hf := (if_pos c2_).symm.trans hf
    refine z_tabIn (tgt := 204) (off := 186) X.1.1 dX5_readStatement_18 (by rw [c2_]; decide) (by rw [c2_]; decide) (by rw [c2_]; rfl) (by decide) ?_
    exact w_X5_readStatement_204 Z hC y0 n c q K N G V L ad ls X ha hn0 hk0 hy0 (lv_sub hl [1] rfl) hf
  have hf := (if_neg c2_).symm.trans hf
  have d2_ := lv_neT (a := 2) c2_ (by decide)
  by_cases c3_ : s0 = 3
  · have hf := (if_pos c3_).symm.trans hf
    refine z_tabIn (tgt := 204) (off := 186) X.1.1 dX5_readStatement_18 (by rw [c3_]; decide) (by rw [c3_]; decide) (by rw [c3_]; rfl) (by decide) ?_
    exact w_X5_readStatement_204 Z hC y0 n c q K N G V L ad ls X ha hn0 hk0 hy0 (lv_sub hl [1] rfl) hf
  have hf := (if_neg c3_).symm.trans hf
  have d3_ := lv_neT (a := 3) c3_ (by decide)
  by_cases c4_ : s0 = 4
  · have hf := (if_pos c4_).symm.trans hf
    refine z_tabIn (tgt := 90) (off := 72) X.1.1 dX5_readStatement_18 (by rw [c4_]; decide) (by rw [c4_]; decide) (by rw [c4_]; rfl) (by decide) ?_
    refine z_aload_n X.1.1 dX5_readStatement_90 rfl (lv_at hl 1 rfl) ?_
    obtain ⟨r3, hc3, hf⟩ := z_bind hf
    refine c_callVv [] X.1 hl.1 (c_X5_readHolds D cy ad X.1.2.2 hy0 hc3) hy0 ⟨by decide, rfl⟩ cm_X5_92 cw_X5_readHolds rfl cq_X5_readHolds ⟨by decide, by decide⟩ (Nat.le_of_ble_eq_true rfl) rfl dX5_readStatement_91 ?_
    refine z_goto (tgt := 208) X.1.1 dX5_readStatement_94 (by decide) ?_
    exact a_vret X Z ha hn0 hk0 hf dX5_readStatement_208
  have hf := (if_neg c4_).symm.trans hf
  have d4_ := lv_neT (a := 4) c4_ (by decide)
  by_cases c5_ : s0 = 5
  · have hf := (if_pos c5_).symm.trans hf
    refine z_tabIn (tgt := 204) (off := 186) X.1.1 dX5_readStatement_18 (by rw [c5_]; decide) (by rw [c5_]; decide) (by rw [c5_]; rfl) (by decide) ?_
    exact w_X5_readStatement_204 Z hC y0 n c q K N G V L ad ls X ha hn0 hk0 hy0 (lv_sub hl [1] rfl) hf
  have hf := (if_neg c5_).symm.trans hf
  have d5_ := lv_neT (a := 5) c5_ (by decide)
  by_cases c6_ : s0 = 6
  · have hf := (if_pos c6_).symm.trans hf
    refine z_tabIn (tgt := 97) (off := 79) X.1.1 dX5_readStatement_18 (by rw [c6_]; decide) (by rw [c6_]; decide) (by rw [c6_]; rfl) (by decide) ?_
    refine z_aload_n X.1.1 dX5_readStatement_97 rfl (lv_at hl 1 rfl) ?_
    obtain ⟨v4, hG4, hf⟩ := z_bind hf
    have hv4 := X.1.2.2.get hy0 (k := 5) (c := 7) rfl hG4
    refine c_geta X.1 hy0 cf_X5_29 hG4 dX5_readStatement_98 ?_
    refine z_aload_n X.1.1 dX5_readStatement_101 rfl (lv_at hl 1 rfl) ?_
    refine z_aload_n X.1.1 dX5_readStatement_102 rfl (lv_at hl 1 rfl) ?_
    obtain ⟨v5, hG5, hf⟩ := z_bind hf
    have hv5 := X.1.2.2.get hy0 (k := 5) (c := 7) rfl hG5
    refine c_geta X.1 hy0 cf_X5_29 hG5 dX5_readStatement_103 ?_
    rcases z_optE hf with ⟨hG6, hf⟩ | ⟨v6, hG6, hf⟩
    · refine c_getn X.1 hv5 cf_X5_95 hG6 dX5_readStatement_106 ?_
      refine z_iload_n X.1.1 dX5_readStatement_109 rfl (lv_at hl 0 rfl) ?_
      obtain ⟨r7, hc7, hf⟩ := z_bind hf
      have hm := m_X5_readStatement_113 v4 r7.1 r7.2.1 (c + r7.2.2.1) (q + r7.2.2.2.1) r7.2.2.2.2.1 r7.2.2.2.2.2.1 r7.2.2.2.2.2.2.1 r7.2.2.2.2.2.2.2.1 r7.2.2.2.2.2.2.2.2 hf
      refine a_callVr [.null, .int s0] X hl.1 (c_X5_readRule_n D cy ad X.1.2.2 hy0 hc7) hy0 ⟨by decide, rfl⟩ cm_X5_98 cw_X5_readRule rfl cq_X5_readRule ⟨by decide, by decide⟩ (Nat.le_of_ble_eq_true rfl) rfl ⟨by rw [hC.1]; exact hm.1, by rw [hC.2]; exact hm.2⟩ dX5_readStatement_110 (fun ad' hag hnn hKg hv X => ?_)
      rw [← hag y0 hy0.1] at hl
      rw [← hag v4 hv4.1]
      exact w_X5_readStatement_113 Z hC v4 r7.1 r7.2.1 (c + r7.2.2.1) (q + r7.2.2.2.1) r7.2.2.2.2.1 r7.2.2.2.2.2.1 r7.2.2.2.2.2.2.1 r7.2.2.2.2.2.2.2.1 r7.2.2.2.2.2.2.2.2 ad' ls X (zag_up ha hn0 hag) (by omega) (zag_up hk0 hn0 hKg) (zh_ext hv4 hnn hKg) hv (lv_sub hl [] rfl) hf
    · have hv6 := X.1.2.2.get hv5 (k := 8) (c := 100) rfl hG6
      refine c_geta X.1 hv5 cf_X5_95 hG6 dX5_readStatement_106 ?_
      refine z_iload_n X.1.1 dX5_readStatement_109 rfl (lv_at hl 0 rfl) ?_
      obtain ⟨r8, hc8, hf⟩ := z_bind hf
      have hm := m_X5_readStatement_113 v4 r8.1 r8.2.1 (c + r8.2.2.1) (q + r8.2.2.2.1) r8.2.2.2.2.1 r8.2.2.2.2.2.1 r8.2.2.2.2.2.2.1 r8.2.2.2.2.2.2.2.1 r8.2.2.2.2.2.2.2.2 hf
      refine a_callVr [.ref (ad v6), .int s0] X hl.1 (c_X5_readRule_s D cy ad X.1.2.2 hy0 hv6 hc8) hy0 ⟨by decide, rfl⟩ cm_X5_98 cw_X5_readRule rfl cq_X5_readRule ⟨by decide, by decide⟩ (Nat.le_of_ble_eq_true rfl) rfl ⟨by rw [hC.1]; exact hm.1, by rw [hC.2]; exact hm.2⟩ dX5_readStatement_110 (fun ad' hag hnn hKg hv X => ?_)
      rw [← hag y0 hy0.1] at hl
      rw [← hag v4 hv4.1]
      exact w_X5_readStatement_113 Z hC v4 r8.1 r8.2.1 (c + r8.2.2.1) (q + r8.2.2.2.1) r8.2.2.2.2.1 r8.2.2.2.2.2.1 r8.2.2.2.2.2.2.1 r8.2.2.2.2.2.2.2.1 r8.2.2.2.2.2.2.2.2 ad' ls X (zag_up ha hn0 hag) (by omega) (zag_up hk0 hn0 hKg) (zh_ext hv4 hnn hKg) hv (lv_sub hl [] rfl) hf
  have hf := (if_neg c6_).symm.trans hf
  have d6_ := lv_neT (a := 6) c6_ (by decide)
  by_cases c7_ : s0 = 7
  · have hf := (if_pos c7_).symm.trans hf
    refine z_tabIn (tgt := 119) (off := 101) X.1.1 dX5_readStatement_18 (by rw [c7_]; decide) (by rw [c7_]; decide) (by rw [c7_]; rfl) (by decide) ?_
    refine z_aload_n X.1.1 dX5_readStatement_119 rfl (lv_at hl 1 rfl) ?_
    obtain ⟨v9, hG9, hf⟩ := z_bind hf
    have hv9 := X.1.2.2.get hy0 (k := 5) (c := 7) rfl hG9
    refine c_geta X.1 hy0 cf_X5_29 hG9 dX5_readStatement_120 ?_
    refine z_aload_n X.1.1 dX5_readStatement_123 rfl (lv_at hl 1 rfl) ?_
    refine z_aload_n X.1.1 dX5_readStatement_124 rfl (lv_at hl 1 rfl) ?_
    obtain ⟨v10, hG10, hf⟩ := z_bind hf
    have hv10 := X.1.2.2.get hy0 (k := 5) (c := 7) rfl hG10
    refine c_geta X.1 hy0 cf_X5_29 hG10 dX5_readStatement_125 ?_
    rcases z_optE hf with ⟨hG11, hf⟩ | ⟨v11, hG11, hf⟩
    · refine c_getn X.1 hv10 cf_X5_102 hG11 dX5_readStatement_128 ?_
      refine z_iload_n X.1.1 dX5_readStatement_131 rfl (lv_at hl 0 rfl) ?_
      obtain ⟨r12, hc12, hf⟩ := z_bind hf
      have hm := m_X5_readStatement_135 v9 r12.1 r12.2.1 (c + r12.2.2.1) (q + r12.2.2.2.1) r12.2.2.2.2.1 r12.2.2.2.2.2.1 r12.2.2.2.2.2.2.1 r12.2.2.2.2.2.2.2.1 r12.2.2.2.2.2.2.2.2 hf
      refine a_callVr [.null, .int s0] X hl.1 (c_X5_readRule_n D cy ad X.1.2.2 hy0 hc12) hy0 ⟨by decide, rfl⟩ cm_X5_98 cw_X5_readRule rfl cq_X5_readRule ⟨by decide, by decide⟩ (Nat.le_of_ble_eq_true rfl) rfl ⟨by rw [hC.1]; exact hm.1, by rw [hC.2]; exact hm.2⟩ dX5_readStatement_132 (fun ad' hag hnn hKg hv X => ?_)
      rw [← hag y0 hy0.1] at hl
      rw [← hag v9 hv9.1]
      exact w_X5_readStatement_135 Z hC v9 r12.1 r12.2.1 (c + r12.2.2.1) (q + r12.2.2.2.1) r12.2.2.2.2.1 r12.2.2.2.2.2.1 r12.2.2.2.2.2.2.1 r12.2.2.2.2.2.2.2.1 r12.2.2.2.2.2.2.2.2 ad' ls X (zag_up ha hn0 hag) (by omega) (zag_up hk0 hn0 hKg) (zh_ext hv9 hnn hKg) hv (lv_sub hl [] rfl) hf
    · have hv11 := X.1.2.2.get hv10 (k := 9) (c := 100) rfl hG11
      refine c_geta X.1 hv10 cf_X5_102 hG11 dX5_readStatement_128 ?_
      refine z_iload_n X.1.1 dX5_readStatement_131 rfl (lv_at hl 0 rfl) ?_
      obtain ⟨r13, hc13, hf⟩ := z_bind hf
      have hm := m_X5_readStatement_135 v9 r13.1 r13.2.1 (c + r13.2.2.1) (q + r13.2.2.2.1) r13.2.2.2.2.1 r13.2.2.2.2.2.1 r13.2.2.2.2.2.2.1 r13.2.2.2.2.2.2.2.1 r13.2.2.2.2.2.2.2.2 hf
      refine a_callVr [.ref (ad v11), .int s0] X hl.1 (c_X5_readRule_s D cy ad X.1.2.2 hy0 hv11 hc13) hy0 ⟨by decide, rfl⟩ cm_X5_98 cw_X5_readRule rfl cq_X5_readRule ⟨by decide, by decide⟩ (Nat.le_of_ble_eq_true rfl) rfl ⟨by rw [hC.1]; exact hm.1, by rw [hC.2]; exact hm.2⟩ dX5_readStatement_132 (fun ad' hag hnn hKg hv X => ?_)
      rw [← hag y0 hy0.1] at hl
      rw [← hag v9 hv9.1]
      exact w_X5_readStatement_135 Z hC v9 r13.1 r13.2.1 (c + r13.2.2.1) (q + r13.2.2.2.1) r13.2.2.2.2.1 r13.2.2.2.2.2.1 r13.2.2.2.2.2.2.1 r13.2.2.2.2.2.2.2.1 r13.2.2.2.2.2.2.2.2 ad' ls X (zag_up ha hn0 hag) (by omega) (zag_up hk0 hn0 hKg) (zh_ext hv9 hnn hKg) hv (lv_sub hl [] rfl) hf
  have hf := (if_neg c7_).symm.trans hf
  have d7_ := lv_neT (a := 7) c7_ (by decide)
  by_cases c8_ : s0 = 8
  · have hf := (if_pos c8_).symm.trans hf
    refine z_tabIn (tgt := 141) (off := 123) X.1.1 dX5_readStatement_18 (by rw [c8_]; decide) (by rw [c8_]; decide) (by rw [c8_]; rfl) (by decide) ?_
    refine z_aload_n X.1.1 dX5_readStatement_141 rfl (lv_at hl 1 rfl) ?_
    obtain ⟨v14, hG14, hf⟩ := z_bind hf
    have hv14 := X.1.2.2.get hy0 (k := 5) (c := 7) rfl hG14
    refine c_geta X.1 hy0 cf_X5_29 hG14 dX5_readStatement_142 ?_
    refine z_aload_n X.1.1 dX5_readStatement_145 rfl (lv_at hl 1 rfl) ?_
    refine z_aload_n X.1.1 dX5_readStatement_146 rfl (lv_at hl 1 rfl) ?_
    obtain ⟨v15, hG15, hf⟩ := z_bind hf
    have hv15 := X.1.2.2.get hy0 (k := 5) (c := 7) rfl hG15
    refine c_geta X.1 hy0 cf_X5_29 hG15 dX5_readStatement_147 ?_
    rcases z_optE hf with ⟨hG16, hf⟩ | ⟨v16, hG16, hf⟩
    · refine c_getn X.1 hv15 cf_X5_105 hG16 dX5_readStatement_150 ?_
      refine z_iload_n X.1.1 dX5_readStatement_153 rfl (lv_at hl 0 rfl) ?_
      obtain ⟨r17, hc17, hf⟩ := z_bind hf
      have hm := m_X5_readStatement_157 v14 r17.1 r17.2.1 (c + r17.2.2.1) (q + r17.2.2.2.1) r17.2.2.2.2.1 r17.2.2.2.2.2.1 r17.2.2.2.2.2.2.1 r17.2.2.2.2.2.2.2.1 r17.2.2.2.2.2.2.2.2 hf
      refine a_callVr [.null, .int s0] X hl.1 (c_X5_readRule_n D cy ad X.1.2.2 hy0 hc17) hy0 ⟨by decide, rfl⟩ cm_X5_98 cw_X5_readRule rfl cq_X5_readRule ⟨by decide, by decide⟩ (Nat.le_of_ble_eq_true rfl) rfl ⟨by rw [hC.1]; exact hm.1, by rw [hC.2]; exact hm.2⟩ dX5_readStatement_154 (fun ad' hag hnn hKg hv X => ?_)
      rw [← hag y0 hy0.1] at hl
      rw [← hag v14 hv14.1]
      exact w_X5_readStatement_157 Z hC v14 r17.1 r17.2.1 (c + r17.2.2.1) (q + r17.2.2.2.1) r17.2.2.2.2.1 r17.2.2.2.2.2.1 r17.2.2.2.2.2.2.1 r17.2.2.2.2.2.2.2.1 r17.2.2.2.2.2.2.2.2 ad' ls X (zag_up ha hn0 hag) (by omega) (zag_up hk0 hn0 hKg) (zh_ext hv14 hnn hKg) hv (lv_sub hl [] rfl) hf
    · have hv16 := X.1.2.2.get hv15 (k := 10) (c := 100) rfl hG16
      refine c_geta X.1 hv15 cf_X5_105 hG16 dX5_readStatement_150 ?_
      refine z_iload_n X.1.1 dX5_readStatement_153 rfl (lv_at hl 0 rfl) ?_
      obtain ⟨r18, hc18, hf⟩ := z_bind hf
      have hm := m_X5_readStatement_157 v14 r18.1 r18.2.1 (c + r18.2.2.1) (q + r18.2.2.2.1) r18.2.2.2.2.1 r18.2.2.2.2.2.1 r18.2.2.2.2.2.2.1 r18.2.2.2.2.2.2.2.1 r18.2.2.2.2.2.2.2.2 hf
      refine a_callVr [.ref (ad v16), .int s0] X hl.1 (c_X5_readRule_s D cy ad X.1.2.2 hy0 hv16 hc18) hy0 ⟨by decide, rfl⟩ cm_X5_98 cw_X5_readRule rfl cq_X5_readRule ⟨by decide, by decide⟩ (Nat.le_of_ble_eq_true rfl) rfl ⟨by rw [hC.1]; exact hm.1, by rw [hC.2]; exact hm.2⟩ dX5_readStatement_154 (fun ad' hag hnn hKg hv X => ?_)
      rw [← hag y0 hy0.1] at hl
      rw [← hag v14 hv14.1]
      exact w_X5_readStatement_157 Z hC v14 r18.1 r18.2.1 (c + r18.2.2.1) (q + r18.2.2.2.1) r18.2.2.2.2.1 r18.2.2.2.2.2.1 r18.2.2.2.2.2.2.1 r18.2.2.2.2.2.2.2.1 r18.2.2.2.2.2.2.2.2 ad' ls X (zag_up ha hn0 hag) (by omega) (zag_up hk0 hn0 hKg) (zh_ext hv14 hnn hKg) hv (lv_sub hl [] rfl) hf
  have hf := (if_neg c8_).symm.trans hf
  have d8_ := lv_neT (a := 8) c8_ (by decide)
  by_cases c9_ : s0 = 9
  · have hf := (if_pos c9_).symm.trans hf
    refine z_tabIn (tgt := 163) (off := 145) X.1.1 dX5_readStatement_18 (by rw [c9_]; decide) (by rw [c9_]; decide) (by rw [c9_]; rfl) (by decide) ?_
    refine z_aload_n X.1.1 dX5_readStatement_163 rfl (lv_at hl 1 rfl) ?_
    obtain ⟨r19, hc19, hf⟩ := z_bind hf
    refine c_callVv [] X.1 hl.1 (c_X5_take D cy ad X.1.2.2 hy0 hc19) hy0 ⟨by decide, rfl⟩ cm_X5_70 cw_X5_take rfl cq_X5_take ⟨by decide, by decide⟩ (Nat.le_of_ble_eq_true rfl) rfl dX5_readStatement_164 ?_
    refine z_aload_n X.1.1 dX5_readStatement_167 rfl (lv_at hl 1 rfl) ?_
    obtain ⟨v20, hG20, hf⟩ := z_bind hf
    have hv20 := X.1.2.2.get hy0 (k := 5) (c := 7) rfl hG20
    refine c_geta X.1 hy0 cf_X5_29 hG20 dX5_readStatement_168 ?_
    refine z_aload_n X.1.1 dX5_readStatement_171 rfl (lv_at hl 1 rfl) ?_
    refine z_iconst (v := 0) X.1.1 dX5_readStatement_172 (by decide) ?_
    refine z_iconst (v := 3) X.1.1 dX5_readStatement_173 (by decide) ?_
    obtain ⟨r21, hc21, hf⟩ := z_bind hf
    refine c_callVi [.int 0, .int 3] X.1 hl.1 (c_X5_readNumber D cy ad X.1.2.2 hy0 hc21) hy0 ⟨by decide, rfl⟩ cm_X5_108 cw_X5_readNumber rfl cq_X5_readNumber ⟨by decide, by decide⟩ (Nat.le_of_ble_eq_true rfl) rfl dX5_readStatement_174 ?_
    refine c_puti X.1 hv20 cf_X5_111 cg_X9 cp_X9_3 rfl rfl dX5_readStatement_177 ?_
    refine z_goto (tgt := 208) X.1.1 dX5_readStatement_180 (by decide) ?_
    exact a_vret X Z ha hn0 hk0 hf dX5_readStatement_208
  have hf := (if_neg c9_).symm.trans hf
  have d9_ := lv_neT (a := 9) c9_ (by decide)
  by_cases c10_ : s0 = 10
  · have hf := (if_pos c10_).symm.trans hf
    refine z_tabIn (tgt := 183) (off := 165) X.1.1 dX5_readStatement_18 (by rw [c10_]; decide) (by rw [c10_]; decide) (by rw [c10_]; rfl) (by decide) ?_
    refine z_aload_n X.1.1 dX5_readStatement_183 rfl (lv_at hl 1 rfl) ?_
    obtain ⟨r22, hc22, hf⟩ := z_bind hf
    refine c_callVv [] X.1 hl.1 (c_X5_take D cy ad X.1.2.2 hy0 hc22) hy0 ⟨by decide, rfl⟩ cm_X5_70 cw_X5_take rfl cq_X5_take ⟨by decide, by decide⟩ (Nat.le_of_ble_eq_true rfl) rfl dX5_readStatement_184 ?_
    refine z_aload_n X.1.1 dX5_readStatement_187 rfl (lv_at hl 1 rfl) ?_
    obtain ⟨v23, hG23, hf⟩ := z_bind hf
    have hv23 := X.1.2.2.get hy0 (k := 5) (c := 7) rfl hG23
    refine c_geta X.1 hy0 cf_X5_29 hG23 dX5_readStatement_188 ?_
    refine z_aload_n X.1.1 dX5_readStatement_191 rfl (lv_at hl 1 rfl) ?_
    refine z_iconst (v := 0) X.1.1 dX5_readStatement_192 (by decide) ?_
    refine z_bipush (v := 100) X.1.1 dX5_readStatement_193 (by decide) ?_
    obtain ⟨r24, hc24, hf⟩ := z_bind hf
    refine c_callVi [.int 0, .int 100] X.1 hl.1 (c_X5_readNumber D cy ad X.1.2.2 hy0 hc24) hy0 ⟨by decide, rfl⟩ cm_X5_108 cw_X5_readNumber rfl cq_X5_readNumber ⟨by decide, by decide⟩ (Nat.le_of_ble_eq_true rfl) rfl dX5_readStatement_195 ?_
    refine c_puti X.1 hv23 cf_X5_114 cg_X9 cp_X9_4 rfl rfl dX5_readStatement_198 ?_
    refine z_goto (tgt := 208) X.1.1 dX5_readStatement_201 (by decide) ?_
    exact a_vret X Z ha hn0 hk0 hf dX5_readStatement_208
  have hf := (if_neg c10_).symm.trans hf
  have d10_ := lv_neT (a := 10) c10_ (by decide)
  refine z_tabOut (tgt := 204) X.1.1 dX5_readStatement_18 (by omega) (by decide) ?_
  exact w_X5_readStatement_204 Z hC y0 n c q K N G V L ad ls X ha hn0 hk0 hy0 (lv_sub hl [1] rfl) hf

set_option maxHeartbeats 4000000 in
set_option maxRecDepth 100000 in
theorem w_X5_readStatement {M : zM} {D : va_G} {cy : Nat → ClassId} {ad0 K0 : Nat → Nat} {n0 : Nat} {r' : zS} (Z : RZAv M D cy ad0 n0 K0 r') (hC : M.2.2.2.1.cells = r'.2.1 ∧ M.2.2.2.1.slots = r'.2.2.1) (y0 : Nat) (n c q : Nat) (K N : Nat → Nat) (G : zG) (V : zI) (L : zL) (ad : Nat → Nat) (ls : Array Slot) (X : RXA M D cy ad n c q K N G cX5_readStatement 2 RX5 105 2308) (ha : ∀ w, w < n0 → ad w = ad0 w) (hn0 : n0 ≤ n) (hk0 : ∀ w, w < n0 → K w = K0 w) (hy0 : y0 < n ∧ K y0 = 4) (hl : lv_has ls 2 [(0, .ref (ad y0))]) (hf : g_X5_readStatement y0 n c q K N G V L = some r') : RG (zMb M c q) (zC D cy ad n K N G) V L 0 ls [] := by
  unfold g_X5_readStatement at hf
  refine z_aload_n X.1.1 dX5_readStatement_0 rfl (lv_at hl 0 rfl) ?_
  refine c_geti X.1 hy0 cf_X5_17 dX5_readStatement_1 ?_
  refine z_iconst (v := 4) X.1.1 dX5_readStatement_4 (by decide) ?_
  refine z_icmp_ne (tgt := 15) X.1.1 dX5_readStatement_5 (by decide) (fun c_ => ?_) (fun c_ => ?_)
  · have hf := (if_neg c_).symm.trans hf
    refine z_iconst (v := -1) X.1.1 dX5_readStatement_15 (by decide) ?_
    exact w_X5_readStatement_16 Z hC y0 (-1) n c q K N G V L ad ls X ha hn0 hk0 hy0 (lv_sub hl [0] rfl) hf
  · have hf := (if_pos c_).symm.trans hf
    refine z_aload_n X.1.1 dX5_readStatement_8 rfl (lv_at hl 0 rfl) ?_
    refine c_geti X.1 hy0 cf_X5_20 dX5_readStatement_9 ?_
    refine z_goto (tgt := 16) X.1.1 dX5_readStatement_12 (by decide) ?_
    exact w_X5_readStatement_16 Z hC y0 (V y0 3) n c q K N G V L ad ls X ha hn0 hk0 hy0 (lv_sub hl [0] rfl) hf

theorem c_X5_readStatement (D : va_G) (cy : Nat → ClassId) (ad : Nat → Nat) {n : Nat} {K N : Nat → Nat} {G : zG} (hWF : zWF n K G) {y0 : Nat} {V : zI} {L : zL} (hy0 : y0 < n ∧ K y0 = 4) {r' : zS} (hf : f_X5_readStatement y0 n K N G V L = some r') : RAv D cy ad n K N G yX5_readStatement cX5_readStatement 2 105 2308 [.ref (ad y0)] V L r' :=
  RAv.of (by decide) hWF (Nat.le_of_ble_eq_true rfl) (fun M X Z hC hnm ls hl => w_X5_readStatement Z hC y0 n 0 0 K N G V L ad ls X (fun _ _ => rfl) (Nat.le_refl _) (fun _ _ => rfl) hy0 hl hf)
