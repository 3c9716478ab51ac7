def f_X0_init_40 (y0 : Nat) (t0 : Nat) (t1 : Nat) (n c q : Nat) (K N : Nat → Nat) (G : zG) (V : zI) (L : zL) : Option (zS) :=
  some (n, c, q, K, N, gS G t0 4 (some t1), V, z_uL L y0 5 0)
def f_X0_init_33 (y0 : Nat) (t0 : Nat) (t1 : Nat) (n c q : Nat) (K N : Nat → Nat) (G : zG) (V : zI) (L : zL) : Option (zS) :=
  if (¬ (5 : Int32) < 0 ∧ (5 : Int32).toNatClampNeg ≤ 100000) then f_X0_init_40 y0 y0 n (n + 1) (c + 1) (q + (5 : Int32).toNatClampNeg) (kU K n 100) (kU N n (5 : Int32).toNatClampNeg) (kU (gS G t0 3 (some t1)) n zn0) (kU V n (fun _ => 0)) (kU L n (fun _ => 0)) else none
def f_X0_init_25 (y0 : Nat) (t0 : Nat) (t1 : Nat) (n c q : Nat) (K N : Nat → Nat) (G : zG) (V : zI) (L : zL) : Option (zS) :=
  if (¬ (36 : Int32) < 0 ∧ (36 : Int32).toNatClampNeg ≤ 100000) then f_X0_init_33 y0 y0 n (n + 1) (c + 1) (q + (36 : Int32).toNatClampNeg) (kU K n 102) (kU N n (36 : Int32).toNatClampNeg) (kU (gS G t0 2 (some t1)) n zn0) (kU V n (fun _ => 0)) (kU L n (fun _ => 0)) else none
def f_X0_init_17 (y0 : Nat) (t0 : Nat) (t1 : Nat) (n c q : Nat) (K N : Nat → Nat) (G : zG) (V : zI) (L : zL) : Option (zS) :=
  if (¬ (36 : Int32) < 0 ∧ (36 : Int32).toNatClampNeg ≤ 100000) then f_X0_init_25 y0 y0 n (n + 1) (c + 1) (q + (36 : Int32).toNatClampNeg) (kU K n 102) (kU N n (36 : Int32).toNatClampNeg) (kU (gS G t0 1 (some t1)) n zn0) (kU V n (fun _ => 0)) (kU L n (fun _ => 0)) else none
def f_X0_init_9 (y0 : Nat) (t0 : Nat) (t1 : Nat) (n c q : Nat) (K N : Nat → Nat) (G : zG) (V : zI) (L : zL) : Option (zS) :=
  if (¬ (36 : Int32) < 0 ∧ (36 : Int32).toNatClampNeg ≤ 100000) then f_X0_init_17 y0 y0 n (n + 1) (c + 1) (q + (36 : Int32).toNatClampNeg) (kU K n 103) (kU N n (36 : Int32).toNatClampNeg) (kU (gS G t0 0 (some t1)) n zn0) (kU V n (fun _ => 0)) (kU L n (fun _ => 0)) else none
def g_X0_init (y0 : Nat) (n c q : Nat) (K N : Nat → Nat) (G : zG) (V : zI) (L : zL) : Option (zS) :=
  if (¬ (36 : Int32) < 0 ∧ (36 : Int32).toNatClampNeg ≤ 100000) then f_X0_init_9 y0 y0 n (n + 1) (c + 1) (q + (36 : Int32).toNatClampNeg) (kU K n 103) (kU N n (36 : Int32).toNatClampNeg) (kU G n zn0) (kU V n (fun _ => 0)) (kU L n (fun _ => 0)) else none
def f_X0_init (y0 : Nat) (n : Nat) (K N : Nat → Nat) (G : zG) (V : zI) (L : zL) : Option (zS) := g_X0_init y0 n 0 0 K N G V L
set_option maxHeartbeats 4000000 in
set_option maxRecDepth 100000 in
theorem m_X0_init_40 (y0 : Nat) (t0 : Nat) (t1 : Nat) (n c q : Nat) (K N : Nat → Nat) (G : zG) (V : zI) (L : zL) {r' : zS} (hf : f_X0_init_40 y0 t0 t1 n c q K N G V L = some r') : c ≤ r'.2.1 ∧ q ≤ r'.2.2.1 := by
  unfold f_X0_init_40 at hf
  cases hf
  exact ⟨Nat.le_refl _, Nat.le_refl _⟩

set_option maxHeartbeats 4000000 in
set_option maxRecDepth 100000 in
theorem m_X0_init_33 (y0 : Nat) (t0 : Nat) (t1 : Nat) (n c q : Nat) (K N : Nat → Nat) (G : zG) (V : zI) (L : zL) {r' : zS} (hf : f_X0_init_33 y0 t0 t1 n c q K N G V L = some r') : c ≤ r'.2.1 ∧ q ≤ r'.2.2.1 := by
  unfold f_X0_init_33 at hf
  obtain ⟨hb1, hf⟩ := z_ite hf
  have hm := m_X0_init_40 y0 y0 n (n + 1) (c + 1) (q + (5 : Int32).toNatClampNeg) (kU K n 100) (kU N n (5 : Int32).toNatClampNeg) (kU (gS G t0 3 (some t1)) n zn0) (kU V n (fun _ => 0)) (kU L n (fun _ => 0)) hf
  exact ⟨by omega, by omega⟩

set_option maxHeartbeats 4000000 in
set_option maxRecDepth 100000 in
theorem m_X0_init_25 (y0 : Nat) (t0 : Nat) (t1 : Nat) (n c q : Nat) (K N : Nat → Nat) (G : zG) (V : zI) (L : zL) {r' : zS} (hf : f_X0_init_25 y0 t0 t1 n c q K N G V L = some r') : c ≤ r'.2.1 ∧ q ≤ r'.2.2.1 := by
  unfold f_X0_init_25 at hf
  obtain ⟨hb1, hf⟩ := z_ite hf
  have hm := m_X0_init_33 y0 y0 n (n + 1) (c + 1) (q + (36 : Int32).toNatClampNeg) (kU K n 102) (kU N n (36 : Int32).toNatClampNeg) (kU (gS G t0 2 (some t1)) n zn0) (kU V n (fun _ => 0)) (kU L n (fun _ => 0)) hf
  exact ⟨by omega, by omega⟩

set_option maxHeartbeats 4000000 in
set_option maxRecDepth 100000 in
theorem m_X0_init_17 (y0 : Nat) (t0 : Nat) (t1 : Nat) (n c q : Nat) (K N : Nat → Nat) (G : zG) (V : zI) (L : zL) {r' : zS} (hf : f_X0_init_17 y0 t0 t1 n c q K N G V L = some r') : c ≤ r'.2.1 ∧ q ≤ r'.2.2.1 := by
  unfold f_X0_init_17 at hf
  obtain ⟨hb1, hf⟩ := z_ite hf
  have hm := m_X0_init_25 y0 y0 n (n + 1) (c + 1) (q + (36 : Int32).toNatClampNeg) (kU K n 102) (kU N n (36 : Int32).toNatClampNeg) (kU (gS G t0 1 (some t1)) n zn0) (kU V n (fun _ => 0)) (kU L n (fun _ => 0)) hf
  exact ⟨by omega, by omega⟩

set_option maxHeartbeats 4000000 in
set_option maxRecDepth 100000 in
theorem m_X0_init_9 (y0 : Nat) (t0 : Nat) (t1 : Nat) (n c q : Nat) (K N : Nat → Nat) (G : zG) (V : zI) (L : zL) {r' : zS} (hf : f_X0_init_9 y0 t0 t1 n c q K N G V L = some r') : c ≤ r'.2.1 ∧ q ≤ r'.2.2.1 := by
  unfold f_X0_init_9 at hf
  obtain ⟨hb1, hf⟩ := z_ite hf
  have hm := m_X0_init_17 y0 y0 n (n + 1) (c + 1) (q + (36 : Int32).toNatClampNeg) (kU K n 103) (kU N n (36 : Int32).toNatClampNeg) (kU (gS G t0 0 (some t1)) n zn0) (kU V n (fun _ => 0)) (kU L n (fun _ => 0)) hf
  exact ⟨by omega, by omega⟩

set_option maxHeartbeats 4000000 in
set_option maxRecDepth 100000 in
theorem w_X0_init_40 {M : zM} {D : va_G} {cy : Nat → ClassId} {ad0 K0 : Nat → Nat} {n0 : Nat} {r' : zS} (Z : RZAv M D cy ad0 n0 K0 r') (hC : M.2.2.2.1.cells = r'.2.1 ∧ M.2.2.2.1.slots = r'.2.2.1) (hin : M.2.2.2.2.2.2.2.2.1.name = "<init>") (y0 : Nat) (t0 : Nat) (t1 : Nat) (n c q : Nat) (K N : Nat → Nat) (G : zG) (V : zI) (L : zL) (ad : Nat → Nat) (ls : Array Slot) (X : RXA M D cy ad n c q K N G cX0_init 1 RX0 1 24) (ha : ∀ w, w < n0 → ad w = ad0 w) (hn0 : n0 ≤ n) (hk0 : ∀ w, w < n0 → K w = K0 w) (hy0 : y0 < n ∧ K y0 = 0) (ht0 : t0 < n ∧ K t0 = 0) (ht1 : t1 < n ∧ K t1 = 100) (hl : lv_has ls 1 [(0, .ref (ad y0))]) (hf : f_X0_init_40 y0 t0 t1 n c q K N G V L = some r') : RG (zMb M c q) (zC D cy ad n K N G) V L 40 ls [.ref (ad t1), .ref (ad t0)] := by
  unfold f_X0_init_40 at hf
  refine a_putF (o := (some t1)) X ht0 cz_X0_25 cg_X0 rfl hin rfl rfl (Or.inr ⟨_, rfl, ht1.1, ht1.2⟩) (ct_X0_4) rfl rfl dX0_init_40 (fun X => ?_)
  refine z_aload_n X.1.1 dX0_init_43 rfl (lv_at hl 0 rfl) ?_
  refine z_lconst (v := 0) X.1.1 dX0_init_44 (by decide) ?_
  refine c_putl X.1 hy0 cf_X0_29 cg_X0 cp_X0_5 rfl rfl dX0_init_45 ?_
  exact a_vret X Z ha hn0 hk0 hf dX0_init_48

set_option maxHeartbeats 4000000 in
set_option maxRecDepth 100000 in
theorem w_X0_init_33 {M : zM} {D : va_G} {cy : Nat → ClassId} {ad0 K0 : Nat → Nat} {n0 : Nat} {r' : zS} (Z : RZAv M D cy ad0 n0 K0 r') (hC : M.2.2.2.1.cells = r'.2.1 ∧ M.2.2.2.1.slots = r'.2.2.1) (hin : M.2.2.2.2.2.2.2.2.1.name = "<init>") (y0 : Nat) (t0 : Nat) (t1 : Nat) (n c q : Nat) (K N : Nat → Nat) (G : zG) (V : zI) (L : zL) (ad : Nat → Nat) (ls : Array Slot) (X : RXA M D cy ad n c q K N G cX0_init 1 RX0 1 24) (ha : ∀ w, w < n0 → ad w = ad0 w) (hn0 : n0 ≤ n) (hk0 : ∀ w, w < n0 → K w = K0 w) (hy0 : y0 < n ∧ K y0 = 0) (ht0 : t0 < n ∧ K t0 = 0) (ht1 : t1 < n ∧ K t1 = 102) (hl : lv_has ls 1 [(0, .ref (ad y0))]) (hf : f_X0_init_33 y0 t0 t1 n c q K N G V L = some r') : RG (zMb M c q) (zC D cy ad n K N G) V L 33 ls [.ref (ad t1), .ref (ad t0)] := by
  unfold f_X0_init_33 at hf
  refine a_putF (o := (some t1)) X ht0 cz_X0_22 cg_X0 rfl hin rfl rfl (Or.inr ⟨_, rfl, ht1.1, ht1.2⟩) (ct_X0_3) rfl rfl dX0_init_33 (fun X => ?_)
  refine z_aload_n X.1.1 dX0_init_36 rfl (lv_at hl 0 rfl) ?_
  refine z_iconst (v := 5) X.1.1 dX0_init_37 (by decide) ?_
  obtain ⟨hb1, hf⟩ := z_ite hf
  have hm := m_X0_init_40 y0 y0 n (n + 1) (c + 1) (q + (5 : Int32).toNatClampNeg) (kU K n 100) (kU N n (5 : Int32).toNatClampNeg) (kU (gS G t0 3 (some t1)) n zn0) (kU V n (fun _ => 0)) (kU L n (fun _ => 0)) hf
  refine a_newi X hb1 ca_100 ⟨by rw [hC.1]; exact hm.1, by rw [hC.2]; exact hm.2⟩ dX0_init_38 (fun ad' hag X => ?_)
  rw [← hag y0 hy0.1] at hl ⊢
  exact w_X0_init_40 Z hC hin y0 y0 n (n + 1) (c + 1) (q + (5 : Int32).toNatClampNeg) (kU K n 100) (kU N n (5 : Int32).toNatClampNeg) (kU (gS G t0 3 (some t1)) n zn0) (kU V n (fun _ => 0)) (kU L n (fun _ => 0)) ad' ls X (zag_up ha hn0 hag) (by omega) (zag_up hk0 hn0 (fun w h => kU_ne (by omega))) (zh_up hy0) (zh_up hy0) zh_new (lv_sub hl [0] rfl) hf

set_option maxHeartbeats 4000000 in
set_option maxRecDepth 100000 in
theorem w_X0_init_25 {M : zM} {D : va_G} {cy : Nat → ClassId} {ad0 K0 : Nat → Nat} {n0 : Nat} {r' : zS} (Z : RZAv M D cy ad0 n0 K0 r') (hC : M.2.2.2.1.cells = r'.2.1 ∧ M.2.2.2.1.slots = r'.2.2.1) (hin : M.2.2.2.2.2.2.2.2.1.name = "<init>") (y0 : Nat) (t0 : Nat) (t1 : Nat) (n c q : Nat) (K N : Nat → Nat) (G : zG) (V : zI) (L : zL) (ad : Nat → Nat) (ls : Array Slot) (X : RXA M D cy ad n c q K N G cX0_init 1 RX0 1 24) (ha : ∀ w, w < n0 → ad w = ad0 w) (hn0 : n0 ≤ n) (hk0 : ∀ w, w < n0 → K w = K0 w) (hy0 : y0 < n ∧ K y0 = 0) (ht0 : t0 < n ∧ K t0 = 0) (ht1 : t1 < n ∧ K t1 = 102) (hl : lv_has ls 1 [(0, .ref (ad y0))]) (hf : f_X0_init_25 y0 t0 t1 n c q K N G V L = some r') : RG (zMb M c q) (zC D cy ad n K N G) V L 25 ls [.ref (ad t1), .ref (ad t0)] := by
  unfold f_X0_init_25 at hf
  refine a_putF (o := (some t1)) X ht0 cz_X0_18 cg_X0 rfl hin rfl rfl (Or.inr ⟨_, rfl, ht1.1, ht1.2⟩) (ct_X0_2) rfl rfl dX0_init_25 (fun X => ?_)
  refine z_aload_n X.1.1 dX0_init_28 rfl (lv_at hl 0 rfl) ?_
  refine z_bipush (v := 36) X.1.1 dX0_init_29 (by decide) ?_
  obtain ⟨hb1, hf⟩ := z_ite hf
  have hm := m_X0_init_33 y0 y0 n (n + 1) (c + 1) (q + (36 : Int32).toNatClampNeg) (kU K n 102) (kU N n (36 : Int32).toNatClampNeg) (kU (gS G t0 2 (some t1)) n zn0) (kU V n (fun _ => 0)) (kU L n (fun _ => 0)) hf
  refine a_newz X hb1 ca_102 ⟨by rw [hC.1]; exact hm.1, by rw [hC.2]; exact hm.2⟩ dX0_init_31 (fun ad' hag X => ?_)
  rw [← hag y0 hy0.1] at hl ⊢
  exact w_X0_init_33 Z hC hin y0 y0 n (n + 1) (c + 1) (q + (36 : Int32).toNatClampNeg) (kU K n 102) (kU N n (36 : Int32).toNatClampNeg) (kU (gS G t0 2 (some t1)) n zn0) (kU V n (fun _ => 0)) (kU L n (fun _ => 0)) ad' ls X (zag_up ha hn0 hag) (by omega) (zag_up hk0 hn0 (fun w h => kU_ne (by omega))) (zh_up hy0) (zh_up hy0) zh_new (lv_sub hl [0] rfl) hf

set_option maxHeartbeats 4000000 in
set_option maxRecDepth 100000 in
theorem w_X0_init_17 {M : zM} {D : va_G} {cy : Nat → ClassId} {ad0 K0 : Nat → Nat} {n0 : Nat} {r' : zS} (Z : RZAv M D cy ad0 n0 K0 r') (hC : M.2.2.2.1.cells = r'.2.1 ∧ M.2.2.2.1.slots = r'.2.2.1) (hin : M.2.2.2.2.2.2.2.2.1.name = "<init>") (y0 : Nat) (t0 : Nat) (t1 : Nat) (n c q : Nat) (K N : Nat → Nat) (G : zG) (V : zI) (L : zL) (ad : Nat → Nat) (ls : Array Slot) (X : RXA M D cy ad n c q K N G cX0_init 1 RX0 1 24) (ha : ∀ w, w < n0 → ad w = ad0 w) (hn0 : n0 ≤ n) (hk0 : ∀ w, w < n0 → K w = K0 w) (hy0 : y0 < n ∧ K y0 = 0) (ht0 : t0 < n ∧ K t0 = 0) (ht1 : t1 < n ∧ K t1 = 103) (hl : lv_has ls 1 [(0, .ref (ad y0))]) (hf : f_X0_init_17 y0 t0 t1 n c q K N G V L = some r') : RG (zMb M c q) (zC D cy ad n K N G) V L 17 ls [.ref (ad t1), .ref (ad t0)] := by
  unfold f_X0_init_17 at hf
  refine a_putF (o := (some t1)) X ht0 cz_X0_15 cg_X0 rfl hin rfl rfl (Or.inr ⟨_, rfl, ht1.1, ht1.2⟩) (ct_X0_1) rfl rfl dX0_init_17 (fun X => ?_)
  refine z_aload_n X.1.1 dX0_init_20 rfl (lv_at hl 0 rfl) ?_
  refine z_bipush (v := 36) X.1.1 dX0_init_21 (by decide) ?_
  obtain ⟨hb1, hf⟩ := z_ite hf
  have hm := m_X0_init_25 y0 y0 n (n + 1) (c + 1) (q + (36 : Int32).toNatClampNeg) (kU K n 102) (kU N n (36 : Int32).toNatClampNeg) (kU (gS G t0 1 (some t1)) n zn0) (kU V n (fun _ => 0)) (kU L n (fun _ => 0)) hf
  refine a_newz X hb1 ca_102 ⟨by rw [hC.1]; exact hm.1, by rw [hC.2]; exact hm.2⟩ dX0_init_23 (fun ad' hag X => ?_)
  rw [← hag y0 hy0.1] at hl ⊢
  exact w_X0_init_25 Z hC hin y0 y0 n (n + 1) (c + 1) (q + (36 : Int32).toNatClampNeg) (kU K n 102) (kU N n (36 : Int32).toNatClampNeg) (kU (gS G t0 1 (some t1)) n zn0) (kU V n (fun _ => 0)) (kU L n (fun _ => 0)) ad' ls X (zag_up ha hn0 hag) (by omega) (zag_up hk0 hn0 (fun w h => kU_ne (by omega))) (zh_up hy0) (zh_up hy0) zh_new (lv_sub hl [0] rfl) hf

set_option maxHeartbeats 4000000 in
set_option maxRecDepth 100000 in
theorem w_X0_init_9 {M : zM} {D : va_G} {cy : Nat → ClassId} {ad0 K0 : Nat → Nat} {n0 : Nat} {r' : zS} (Z : RZAv M D cy ad0 n0 K0 r') (hC : M.2.2.2.1.cells = r'.2.1 ∧ M.2.2.2.1.slots = r'.2.2.1) (hin : M.2.2.2.2.2.2.2.2.1.name = "<init>") (y0 : Nat) (t0 : Nat) (t1 : Nat) (n c q : Nat) (K N : Nat → Nat) (G : zG) (V : zI) (L : zL) (ad : Nat → Nat) (ls : Array Slot) (X : RXA M D cy ad n c q K N G cX0_init 1 RX0 1 24) (ha : ∀ w, w < n0 → ad w = ad0 w) (hn0 : n0 ≤ n) (hk0 : ∀ w, w < n0 → K w = K0 w) (hy0 : y0 < n ∧ K y0 = 0) (ht0 : t0 < n ∧ K t0 = 0) (ht1 : t1 < n ∧ K t1 = 103) (hl : lv_has ls 1 [(0, .ref (ad y0))]) (hf : f_X0_init_9 y0 t0 t1 n c q K N G V L = some r') : RG (zMb M c q) (zC D cy ad n K N G) V L 9 ls [.ref (ad t1), .ref (ad t0)] := by
  unfold f_X0_init_9 at hf
  refine a_putF (o := (some t1)) X ht0 cz_X0_9 cg_X0 rfl hin rfl rfl (Or.inr ⟨_, rfl, ht1.1, ht1.2⟩) (ct_X0_0) rfl rfl dX0_init_9 (fun X => ?_)
  refine z_aload_n X.1.1 dX0_init_12 rfl (lv_at hl 0 rfl) ?_
  refine z_bipush (v := 36) X.1.1 dX0_init_13 (by decide) ?_
  obtain ⟨hb1, hf⟩ := z_ite hf
  have hm := m_X0_init_17 y0 y0 n (n + 1) (c + 1) (q + (36 : Int32).toNatClampNeg) (kU K n 103) (kU N n (36 : Int32).toNatClampNeg) (kU (gS G t0 0 (some t1)) n zn0) (kU V n (fun _ => 0)) (kU L n (fun _ => 0)) hf
  refine a_newl X hb1 ca_103 ⟨by rw [hC.1]; exact hm.1, by rw [hC.2]; exact hm.2⟩ dX0_init_15 (fun ad' hag X => ?_)
  rw [← hag y0 hy0.1] at hl ⊢
  exact w_X0_init_17 Z hC hin y0 y0 n (n + 1) (c + 1) (q + (36 : Int32).toNatClampNeg) (kU K n 103) (kU N n (36 : Int32).toNatClampNeg) (kU (gS G t0 0 (some t1)) n zn0) (kU V n (fun _ => 0)) (kU L n (fun _ => 0)) ad' ls X (zag_up ha hn0 hag) (by omega) (zag_up hk0 hn0 (fun w h => kU_ne (by omega))) (zh_up hy0) (zh_up hy0) zh_new (lv_sub hl [0] rfl) hf

set_option maxHeartbeats 4000000 in
set_option maxRecDepth 100000 in
theorem w_X0_init {M : zM} {D : va_G} {cy : Nat → ClassId} {ad0 K0 : Nat → Nat} {n0 : Nat} {r' : zS} (Z : RZAv M D cy ad0 n0 K0 r') (hC : M.2.2.2.1.cells = r'.2.1 ∧ M.2.2.2.1.slots = r'.2.2.1) (hin : M.2.2.2.2.2.2.2.2.1.name = "<init>") (y0 : Nat) (n c q : Nat) (K N : Nat → Nat) (G : zG) (V : zI) (L : zL) (ad : Nat → Nat) (ls : Array Slot) (X : RXA M D cy ad n c q K N G cX0_init 1 RX0 1 24) (ha : ∀ w, w < n0 → ad w = ad0 w) (hn0 : n0 ≤ n) (hk0 : ∀ w, w < n0 → K w = K0 w) (hy0 : y0 < n ∧ K y0 = 0) (hl : lv_has ls 1 [(0, .ref (ad y0))]) (hf : g_X0_init y0 n c q K N G V L = some r') : RG (zMb M c q) (zC D cy ad n K N G) V L 0 ls [] := by
  unfold g_X0_init at hf
  refine z_aload_n X.1.1 dX0_init_0 rfl (lv_at hl 0 rfl) ?_
  refine a_obj X hl.1 co_X0_3 ⟨by decide, Nat.le_of_ble_eq_true rfl⟩ dX0_init_1 ?_
  refine z_aload_n X.1.1 dX0_init_4 rfl (lv_at hl 0 rfl) ?_
  refine z_bipush (v := 36) X.1.1 dX0_init_5 (by decide) ?_
  obtain ⟨hb1, hf⟩ := z_ite hf
  have hm := m_X0_init_9 y0 y0 n (n + 1) (c + 1) (q + (36 : Int32).toNatClampNeg) (kU K n 103) (kU N n (36 : Int32).toNatClampNeg) (kU G n zn0) (kU V n (fun _ => 0)) (kU L n (fun _ => 0)) hf
  refine a_newl X hb1 ca_103 ⟨by rw [hC.1]; exact hm.1, by rw [hC.2]; exact hm.2⟩ dX0_init_7 (fun ad' hag X => ?_)
  rw [← hag y0 hy0.1] at hl ⊢
  exact w_X0_init_9 Z hC hin y0 y0 n (n + 1) (c + 1) (q + (36 : Int32).toNatClampNeg) (kU K n 103) (kU N n (36 : Int32).toNatClampNeg) (kU G n zn0) (kU V n (fun _ => 0)) (kU L n (fun _ => 0)) ad' ls X (zag_up ha hn0 hag) (by omega) (zag_up hk0 hn0 (fun w h => kU_ne (by omega))) (zh_up hy0) (zh_up hy0) zh_new (lv_sub hl [0] rfl) hf

theorem c_X0_init (D : va_G) (cy : Nat → ClassId) (ad : Nat → Nat) {n : Nat} {K N : Nat → Nat} {G : zG} (hWF : zWF n K G) {y0 : Nat} {V : zI} {L : zL} (hy0 : y0 < n ∧ K y0 = 0) {r' : zS} (hf : f_X0_init y0 n K N G V L = some r') : RAv D cy ad n K N G yX0_init cX0_init 1 1 24 [.ref (ad y0)] V L r' :=
  RAv.of (by decide) hWF (Nat.le_of_ble_eq_true rfl) (fun M X Z hC hnm ls hl => w_X0_init Z hC hnm y0 n 0 0 K N G V L ad ls X (fun _ _ => rfl) (Nat.le_refl _) (fun _ _ => rfl) hy0 hl hf)
def g_X1_init (y0 : Nat) (n c q : Nat) (K N : Nat → Nat) (G : zG) (V : zI) (L : zL) : Option (zS) :=
  some (n, c, q, K, N, G, z_uI V y0 0 1, L)
def f_X1_init (y0 : Nat) (n : Nat) (K N : Nat → Nat) (G : zG) (V : zI) (L : zL) : Option (zS) := g_X1_init y0 n 0 0 K N G V L
set_option maxHeartbeats 4000000 in
set_option maxRecDepth 100000 in
theorem w_X1_init {M : zM} {D : va_G} {cy : Nat → ClassId} {ad0 K0 : Nat → Nat} {n0 : Nat} {r' : zS} (Z : RZAv M D cy ad0 n0 K0 r') (hC : M.2.2.2.1.cells = r'.2.1 ∧ M.2.2.2.1.slots = r'.2.2.1) (hin : M.2.2.2.2.2.2.2.2.1.name = "<init>") (y0 : Nat) (n c q : Nat) (K N : Nat → Nat) (G : zG) (V : zI) (L : zL) (ad : Nat → Nat) (ls : Array Slot) (X : RXA M D cy ad n c q K N G cX1_init 1 RX1 1 24) (ha : ∀ w, w < n0 → ad w = ad0 w) (hn0 : n0 ≤ n) (hk0 : ∀ w, w < n0 → K w = K0 w) (hy0 : y0 < n ∧ K y0 = 1) (hl : lv_has ls 1 [(0, .ref (ad y0))]) (hf : g_X1_init y0 n c q K N G V L = some r') : RG (zMb M c q) (zC D cy ad n K N G) V L 0 ls [] := by
  unfold g_X1_init at hf
  refine z_aload_n X.1.1 dX1_init_0 rfl (lv_at hl 0 rfl) ?_
  refine a_obj X hl.1 co_X1_1 ⟨by decide, Nat.le_of_ble_eq_true rfl⟩ dX1_init_1 ?_
  refine z_aload_n X.1.1 dX1_init_4 rfl (lv_at hl 0 rfl) ?_
  refine z_iconst (v := 1) X.1.1 dX1_init_5 (by decide) ?_
  refine c_puti X.1 hy0 cf_X1_7 cg_X1 cp_X1_0 rfl rfl dX1_init_6 ?_
  exact a_vret X Z ha hn0 hk0 hf dX1_init_9

theorem c_X1_init (D : va_G) (cy : Nat → ClassId) (ad : Nat → Nat) {n : Nat} {K N : Nat → Nat} {G : zG} (hWF : zWF n K G) {y0 : Nat} {V : zI} {L : zL} (hy0 : y0 < n ∧ K y0 = 1) {r' : zS} (hf : f_X1_init y0 n K N G V L = some r') : RAv D cy ad n K N G yX1_init cX1_init 1 1 24 [.ref (ad y0)] V L r' :=
  RAv.of (by decide) hWF (Nat.le_of_ble_eq_true rfl) (fun M X Z hC hnm ls hl => w_X1_init Z hC hnm y0 n 0 0 K N G V L ad ls X (fun _ _ => rfl) (Nat.le_refl _) (fun _ _ => rfl) hy0 hl hf)
def f_X2_init_21 (y0 : Nat) (t0 : Nat) (t1 : Nat) (n c q : Nat) (K N : Nat → Nat) (G : zG) (V : zI) (L : zL) : Option (zS) :=
  some (n, c, q, K, N, gS G t0 2 (some t1), z_uI (z_uI (z_uI (z_uI (z_uI V y0 3 (-1)) y0 4 0) y0 5 0) y0 6 0) y0 7 0, L)
def f_X2_init_9 (y0 : Nat) (t0 : Nat) (t1 : Nat) (n c q : Nat) (K N : Nat → Nat) (G : zG) (V : zI) (L : zL) : Option (zS) :=
  if (¬ (3 : Int32) < 0 ∧ (3 : Int32).toNatClampNeg ≤ 100000) then f_X2_init_21 y0 y0 n (n + 1) (c + 1) (q + (3 : Int32).toNatClampNeg) (kU K n 100) (kU N n (3 : Int32).toNatClampNeg) (kU (gS G t0 0 (some t1)) n zn0) (kU (z_uI V y0 1 0) n (fun _ => 0)) (kU L n (fun _ => 0)) else none
def g_X2_init (y0 : Nat) (n c q : Nat) (K N : Nat → Nat) (G : zG) (V : zI) (L : zL) : Option (zS) :=
  if (¬ (36 : Int32) < 0 ∧ (36 : Int32).toNatClampNeg ≤ 100000) then f_X2_init_9 y0 y0 n (n + 1) (c + 1) (q + (36 : Int32).toNatClampNeg) (kU K n 100) (kU N n (36 : Int32).toNatClampNeg) (kU G n zn0) (kU V n (fun _ => 0)) (kU L n (fun _ => 0)) else none
def f_X2_init (y0 : Nat) (n : Nat) (K N : Nat → Nat) (G : zG) (V : zI) (L : zL) : Option (zS) := g_X2_init y0 n 0 0 K N G V L
set_option maxHeartbeats 4000000 in
set_option maxRecDepth 100000 in
theorem m_X2_init_21 (y0 : Nat) (t0 : Nat) (t1 : Nat) (n c q : Nat) (K N : Nat → Nat) (G : zG) (V : zI) (L : zL) {r' : zS} (hf : f_X2_init_21 y0 t0 t1 n c q K N G V L = some r') : c ≤ r'.2.1 ∧ q ≤ r'.2.2.1 := by
  unfold f_X2_init_21 at hf
  cases hf
  exact ⟨Nat.le_refl _, Nat.le_refl _⟩

set_option maxHeartbeats 4000000 in
set_option maxRecDepth 100000 in
theorem m_X2_init_9 (y0 : Nat) (t0 : Nat) (t1 : Nat) (n c q : Nat) (K N : Nat → Nat) (G : zG) (V : zI) (L : zL) {r' : zS} (hf : f_X2_init_9 y0 t0 t1 n c q K N G V L = some r') : c ≤ r'.2.1 ∧ q ≤ r'.2.2.1 := by
  unfold f_X2_init_9 at hf
  obtain ⟨hb1, hf⟩ := z_ite hf
  have hm := m_X2_init_21 y0 y0 n (n + 1) (c + 1) (q + (3 : Int32).toNatClampNeg) (kU K n 100) (kU N n (3 : Int32).toNatClampNeg) (kU (gS G t0 0 (some t1)) n zn0) (kU (z_uI V y0 1 0) n (fun _ => 0)) (kU L n (fun _ => 0)) hf
  exact ⟨by omega, by omega⟩

set_option maxHeartbeats 4000000 in
set_option maxRecDepth 100000 in
theorem w_X2_init_21 {M : zM} {D : va_G} {cy : Nat → ClassId} {ad0 K0 : Nat → Nat} {n0 : Nat} {r' : zS} (Z : RZAv M D cy ad0 n0 K0 r') (hC : M.2.2.2.1.cells = r'.2.1 ∧ M.2.2.2.1.slots = r'.2.2.1) (hin : M.2.2.2.2.2.2.2.2.1.name = "<init>") (y0 : Nat) (t0 : Nat) (t1 : Nat) (n c q : Nat) (K N : Nat → Nat) (G : zG) (V : zI) (L : zL) (ad : Nat → Nat) (ls : Array Slot) (X : RXA M D cy ad n c q K N G cX2_init 1 RX2 1 24) (ha : ∀ w, w < n0 → ad w = ad0 w) (hn0 : n0 ≤ n) (hk0 : ∀ w, w < n0 → K w = K0 w) (hy0 : y0 < n ∧ K y0 = 2) (ht0 : t0 < n ∧ K t0 = 2) (ht1 : t1 < n ∧ K t1 = 100) (hl : lv_has ls 1 [(0, .ref (ad y0))]) (hf : f_X2_init_21 y0 t0 t1 n c q K N G V L = some r') : RG (zMb M c q) (zC D cy ad n K N G) V L 21 ls [.ref (ad t1), .ref (ad t0)] := by
  unfold f_X2_init_21 at hf
  refine a_putF (o := (some t1)) X ht0 cz_X2_19 cg_X2 rfl hin rfl rfl (Or.inr ⟨_, rfl, ht1.1, ht1.2⟩) (ct_X2_2) rfl rfl dX2_init_21 (fun X => ?_)
  refine z_aload_n X.1.1 dX2_init_24 rfl (lv_at hl 0 rfl) ?_
  refine z_iconst (v := -1) X.1.1 dX2_init_25 (by decide) ?_
  refine c_puti X.1 hy0 cf_X2_22 cg_X2 cp_X2_3 rfl rfl dX2_init_26 ?_
  refine z_aload_n X.1.1 dX2_init_29 rfl (lv_at hl 0 rfl) ?_
  refine z_iconst (v := 0) X.1.1 dX2_init_30 (by decide) ?_
  refine c_puti X.1 hy0 cf_X2_25 cg_X2 cp_X2_4 (zB_nar (show zB 0 by decide)) (zB_fit (show zB 0 by decide)) dX2_init_31 ?_
  refine z_aload_n X.1.1 dX2_init_34 rfl (lv_at hl 0 rfl) ?_
  refine z_iconst (v := 0) X.1.1 dX2_init_35 (by decide) ?_
  refine c_puti X.1 hy0 cf_X2_29 cg_X2 cp_X2_5 rfl rfl dX2_init_36 ?_
  refine z_aload_n X.1.1 dX2_init_39 rfl (lv_at hl 0 rfl) ?_
  refine z_iconst (v := 0) X.1.1 dX2_init_40 (by decide) ?_
  refine c_puti X.1 hy0 cf_X2_32 cg_X2 cp_X2_6 rfl rfl dX2_init_41 ?_
  refine z_aload_n X.1.1 dX2_init_44 rfl (lv_at hl 0 rfl) ?_
  refine z_iconst (v := 0) X.1.1 dX2_init_45 (by decide) ?_
  refine c_puti X.1 hy0 cf_X2_35 cg_X2 cp_X2_7 rfl rfl dX2_init_46 ?_
  exact a_vret X Z ha hn0 hk0 hf dX2_init_49

set_option maxHeartbeats 4000000 in
set_option maxRecDepth 100000 in
theorem w_X2_init_9 {M : zM} {D : va_G} {cy : Nat → ClassId} {ad0 K0 : Nat → Nat} {n0 : Nat} {r' : zS} (Z : RZAv M D cy ad0 n0 K0 r') (hC : M.2.2.2.1.cells = r'.2.1 ∧ M.2.2.2.1.slots = r'.2.2.1) (hin : M.2.2.2.2.2.2.2.2.1.name = "<init>") (y0 : Nat) (t0 : Nat) (t1 : Nat) (n c q : Nat) (K N : Nat → Nat) (G : zG) (V : zI) (L : zL) (ad : Nat → Nat) (ls : Array Slot) (X : RXA M D cy ad n c q K N G cX2_init 1 RX2 1 24) (ha : ∀ w, w < n0 → ad w = ad0 w) (hn0 : n0 ≤ n) (hk0 : ∀ w, w < n0 → K w = K0 w) (hy0 : y0 < n ∧ K y0 = 2) (ht0 : t0 < n ∧ K t0 = 2) (ht1 : t1 < n ∧ K t1 = 100) (hl : lv_has ls 1 [(0, .ref (ad y0))]) (hf : f_X2_init_9 y0 t0 t1 n c q K N G V L = some r') : RG (zMb M c q) (zC D cy ad n K N G) V L 9 ls [.ref (ad t1), .ref (ad t0)] := by
  unfold f_X2_init_9 at hf
  refine a_putF (o := (some t1)) X ht0 cz_X2_9 cg_X2 rfl hin rfl rfl (Or.inr ⟨_, rfl, ht1.1, ht1.2⟩) (ct_X2_0) rfl rfl dX2_init_9 (fun X => ?_)
  refine z_aload_n X.1.1 dX2_init_12 rfl (lv_at hl 0 rfl) ?_
  refine z_iconst (v := 0) X.1.1 dX2_init_13 (by decide) ?_
  refine c_puti X.1 hy0 cf_X2_15 cg_X2 cp_X2_1 rfl rfl dX2_init_14 ?_
  refine z_aload_n X.1.1 dX2_init_17 rfl (lv_at hl 0 rfl) ?_
  refine z_iconst (v := 3) X.1.1 dX2_init_18 (by decide) ?_
  obtain ⟨hb1, hf⟩ := z_ite hf
  have hm := m_X2_init_21 y0 y0 n (n + 1) (c + 1) (q + (3 : Int32).toNatClampNeg) (kU K n 100) (kU N n (3 : Int32).toNatClampNeg) (kU (gS G t0 0 (some t1)) n zn0) (kU (z_uI V y0 1 0) n (fun _ => 0)) (kU L n (fun _ => 0)) hf
  refine a_newi X hb1 ca_100 ⟨by rw [hC.1]; exact hm.1, by rw [hC.2]; exact hm.2⟩ dX2_init_19 (fun ad' hag X => ?_)
  rw [← hag y0 hy0.1] at hl ⊢
  exact w_X2_init_21 Z hC hin y0 y0 n (n + 1) (c + 1) (q + (3 : Int32).toNatClampNeg) (kU K n 100) (kU N n (3 : Int32).toNatClampNeg) (kU (gS G t0 0 (some t1)) n zn0) (kU (z_uI V y0 1 0) n (fun _ => 0)) (kU L n (fun _ => 0)) ad' ls X (zag_up ha hn0 hag) (by omega) (zag_up hk0 hn0 (fun w h => kU_ne (by omega))) (zh_up hy0) (zh_up hy0) zh_new (lv_sub hl [0] rfl) hf

set_option maxHeartbeats 4000000 in
set_option maxRecDepth 100000 in
theorem w_X2_init {M : zM} {D : va_G} {cy : Nat → ClassId} {ad0 K0 : Nat → Nat} {n0 : Nat} {r' : zS} (Z : RZAv M D cy ad0 n0 K0 r') (hC : M.2.2.2.1.cells = r'.2.1 ∧ M.2.2.2.1.slots = r'.2.2.1) (hin : M.2.2.2.2.2.2.2.2.1.name = "<init>") (y0 : Nat) (n c q : Nat) (K N : Nat → Nat) (G : zG) (V : zI) (L : zL) (ad : Nat → Nat) (ls : Array Slot) (X : RXA M D cy ad n c q K N G cX2_init 1 RX2 1 24) (ha : ∀ w, w < n0 → ad w = ad0 w) (hn0 : n0 ≤ n) (hk0 : ∀ w, w < n0 → K w = K0 w) (hy0 : y0 < n ∧ K y0 = 2) (hl : lv_has ls 1 [(0, .ref (ad y0))]) (hf : g_X2_init y0 n c q K N G V L = some r') : RG (zMb M c q) (zC D cy ad n K N G) V L 0 ls [] := by
  unfold g_X2_init at hf
  refine z_aload_n X.1.1 dX2_init_0 rfl (lv_at hl 0 rfl) ?_
  refine a_obj X hl.1 co_X2_3 ⟨by decide, Nat.le_of_ble_eq_true rfl⟩ dX2_init_1 ?_
  refine z_aload_n X.1.1 dX2_init_4 rfl (lv_at hl 0 rfl) ?_
  refine z_bipush (v := 36) X.1.1 dX2_init_5 (by decide) ?_
  obtain ⟨hb1, hf⟩ := z_ite hf
  have hm := m_X2_init_9 y0 y0 n (n + 1) (c + 1) (q + (36 : Int32).toNatClampNeg) (kU K n 100) (kU N n (36 : Int32).toNatClampNeg) (kU G n zn0) (kU V n (fun _ => 0)) (kU L n (fun _ => 0)) hf
  refine a_newi X hb1 ca_100 ⟨by rw [hC.1]; exact hm.1, by rw [hC.2]; exact hm.2⟩ dX2_init_7 (fun ad' hag X => ?_)
  rw [← hag y0 hy0.1] at hl ⊢
  exact w_X2_init_9 Z hC hin y0 y0 n (n + 1) (c + 1) (q + (36 : Int32).toNatClampNeg) (kU K n 100) (kU N n (36 : Int32).toNatClampNeg) (kU G n zn0) (kU V n (fun _ => 0)) (kU L n (fun _ => 0)) ad' ls X (zag_up ha hn0 hag) (by omega) (zag_up hk0 hn0 (fun w h => kU_ne (by omega))) (zh_up hy0) (zh_up hy0) zh_new (lv_sub hl [0] rfl) hf

theorem c_X2_init (D : va_G) (cy : Nat → ClassId) (ad : Nat → Nat) {n : Nat} {K N : Nat → Nat} {G : zG} (hWF : zWF n K G) {y0 : Nat} {V : zI} {L : zL} (hy0 : y0 < n ∧ K y0 = 2) {r' : zS} (hf : f_X2_init y0 n K N G V L = some r') : RAv D cy ad n K N G yX2_init cX2_init 1 1 24 [.ref (ad y0)] V L r' :=
  RAv.of (by decide) hWF (Nat.le_of_ble_eq_true rfl) (fun M X Z hC hnm ls hl => w_X2_init Z hC hnm y0 n 0 0 K N G V L ad ls X (fun _ _ => rfl) (Nat.le_refl _) (fun _ _ => rfl) hy0 hl hf)
def f_X4_init_10 (t0 : Nat) (t1 : Nat) (n c q : Nat) (K N : Nat → Nat) (G : zG) (V : zI) (L : zL) : Option (zS) :=
  some (n, c, q, K, N, gS G t0 0 (some t1), V, L)
def g_X4_init (y0 : Nat) (n c q : Nat) (K N : Nat → Nat) (G : zG) (V : zI) (L : zL) : Option (zS) :=
  if (¬ (128 : Int32) < 0 ∧ (128 : Int32).toNatClampNeg ≤ 100000) then f_X4_init_10 y0 n (n + 1) (c + 1) (q + (128 : Int32).toNatClampNeg) (kU K n 100) (kU N n (128 : Int32).toNatClampNeg) (kU G n zn0) (kU V n (fun _ => 0)) (kU L n (fun _ => 0)) else none
def f_X4_init (y0 : Nat) (n : Nat) (K N : Nat → Nat) (G : zG) (V : zI) (L : zL) : Option (zS) := g_X4_init y0 n 0 0 K N G V L
set_option maxHeartbeats 4000000 in
set_option maxRecDepth 100000 in
theorem m_X4_init_10 (t0 : Nat) (t1 : Nat) (n c q : Nat) (K N : Nat → Nat) (G : zG) (V : zI) (L : zL) {r' : zS} (hf : f_X4_init_10 t0 t1 n c q K N G V L = some r') : c ≤ r'.2.1 ∧ q ≤ r'.2.2.1 := by
  unfold f_X4_init_10 at hf
  cases hf
  exact ⟨Nat.le_refl _, Nat.le_refl _⟩

set_option maxHeartbeats 4000000 in
set_option maxRecDepth 100000 in
theorem w_X4_init_10 {M : zM} {D : va_G} {cy : Nat → ClassId} {ad0 K0 : Nat → Nat} {n0 : Nat} {r' : zS} (Z : RZAv M D cy ad0 n0 K0 r') (hC : M.2.2.2.1.cells = r'.2.1 ∧ M.2.2.2.1.slots = r'.2.2.1) (hin : M.2.2.2.2.2.2.2.2.1.name = "<init>") (t0 : Nat) (t1 : Nat) (n c q : Nat) (K N : Nat → Nat) (G : zG) (V : zI) (L : zL) (ad : Nat → Nat) (ls : Array Slot) (X : RXA M D cy ad n c q K N G cX4_init 1 RX4 1 24) (ha : ∀ w, w < n0 → ad w = ad0 w) (hn0 : n0 ≤ n) (hk0 : ∀ w, w < n0 → K w = K0 w) (ht0 : t0 < n ∧ K t0 = 3) (ht1 : t1 < n ∧ K t1 = 100) (hl : lv_has ls 1 []) (hf : f_X4_init_10 t0 t1 n c q K N G V L = some r') : RG (zMb M c q) (zC D cy ad n K N G) V L 10 ls [.ref (ad t1), .ref (ad t0)] := by
  unfold f_X4_init_10 at hf
  refine a_putF (o := (some t1)) X ht0 cz_X4_11 cg_X4 rfl hin rfl rfl (Or.inr ⟨_, rfl, ht1.1, ht1.2⟩) (ct_X4_0) rfl rfl dX4_init_10 (fun X => ?_)
  exact a_vret X Z ha hn0 hk0 hf dX4_init_13

set_option maxHeartbeats 4000000 in
set_option maxRecDepth 100000 in
theorem w_X4_init {M : zM} {D : va_G} {cy : Nat → ClassId} {ad0 K0 : Nat → Nat} {n0 : Nat} {r' : zS} (Z : RZAv M D cy ad0 n0 K0 r') (hC : M.2.2.2.1.cells = r'.2.1 ∧ M.2.2.2.1.slots = r'.2.2.1) (hin : M.2.2.2.2.2.2.2.2.1.name = "<init>") (y0 : Nat) (n c q : Nat) (K N : Nat → Nat) (G : zG) (V : zI) (L : zL) (ad : Nat → Nat) (ls : Array Slot) (X : RXA M D cy ad n c q K N G cX4_init 1 RX4 1 24) (ha : ∀ w, w < n0 → ad w = ad0 w) (hn0 : n0 ≤ n) (hk0 : ∀ w, w < n0 → K w = K0 w) (hy0 : y0 < n ∧ K y0 = 3) (hl : lv_has ls 1 [(0, .ref (ad y0))]) (hf : g_X4_init y0 n c q K N G V L = some r') : RG (zMb M c q) (zC D cy ad n K N G) V L 0 ls [] := by
  unfold g_X4_init at hf
  refine z_aload_n X.1.1 dX4_init_0 rfl (lv_at hl 0 rfl) ?_
  refine a_obj X hl.1 co_X4_3 ⟨by decide, Nat.le_of_ble_eq_true rfl⟩ dX4_init_1 ?_
  refine z_aload_n X.1.1 dX4_init_4 rfl (lv_at hl 0 rfl) ?_
  refine z_sipush (v := 128) X.1.1 dX4_init_5 (by decide) ?_
  obtain ⟨hb1, hf⟩ := z_ite hf
  have hm := m_X4_init_10 y0 n (n + 1) (c + 1) (q + (128 : Int32).toNatClampNeg) (kU K n 100) (kU N n (128 : Int32).toNatClampNeg) (kU G n zn0) (kU V n (fun _ => 0)) (kU L n (fun _ => 0)) hf
  refine a_newi X hb1 ca_100 ⟨by rw [hC.1]; exact hm.1, by rw [hC.2]; exact hm.2⟩ dX4_init_8 (fun ad' hag X => ?_)
  rw [← hag y0 hy0.1] at hl ⊢
  exact w_X4_init_10 Z hC hin y0 n (n + 1) (c + 1) (q + (128 : Int32).toNatClampNeg) (kU K n 100) (kU N n (128 : Int32).toNatClampNeg) (kU G n zn0) (kU V n (fun _ => 0)) (kU L n (fun _ => 0)) ad' ls X (zag_up ha hn0 hag) (by omega) (zag_up hk0 hn0 (fun w h => kU_ne (by omega))) (zh_up hy0) zh_new (lv_sub hl [] rfl) hf

theorem c_X4_init (D : va_G) (cy : Nat → ClassId) (ad : Nat → Nat) {n : Nat} {K N : Nat → Nat} {G : zG} (hWF : zWF n K G) {y0 : Nat} {V : zI} {L : zL} (hy0 : y0 < n ∧ K y0 = 3) {r' : zS} (hf : f_X4_init y0 n K N G V L = some r') : RAv D cy ad n K N G yX4_init cX4_init 1 1 24 [.ref (ad y0)] V L r' :=
  RAv.of (by decide) hWF (Nat.le_of_ble_eq_true rfl) (fun M X Z hC hnm ls hl => w_X4_init Z hC hnm y0 n 0 0 K N G V L ad ls X (fun _ _ => rfl) (Nat.le_refl _) (fun _ _ => rfl) hy0 hl hf)
def f_X7_init_64 (y0 : Nat) (t0 : Nat) (t1 : Nat) (n c q : Nat) (K N : Nat → Nat) (G : zG) (V : zI) (L : zL) : Option (zS) :=
  some (n, c, q, K, N, gS G t0 8 (some t1), z_uI (z_uI V y0 10 0) y0 11 0, z_uL L y0 9 0)
def f_X7_init_51 (y0 : Nat) (t0 : Nat) (t1 : Nat) (n c q : Nat) (K N : Nat → Nat) (G : zG) (V : zI) (L : zL) : Option (zS) :=
  if (¬ (50 : Int32) < 0 ∧ (50 : Int32).toNatClampNeg ≤ 100000) then f_X7_init_64 y0 y0 n (n + 1) (c + 1) (q + (50 : Int32).toNatClampNeg) (kU K n 100) (kU N n (50 : Int32).toNatClampNeg) (kU (gS G t0 6 (some t1)) n zn0) (kU (z_uI V y0 7 0) n (fun _ => 0)) (kU L n (fun _ => 0)) else none
def f_X7_init_43 (y0 : Nat) (t0 : Nat) (t1 : Nat) (n c q : Nat) (K N : Nat → Nat) (G : zG) (V : zI) (L : zL) : Option (zS) :=
  if (¬ (60 : Int32) < 0 ∧ (60 : Int32).toNatClampNeg ≤ 100000) then f_X7_init_51 y0 y0 n (n + 1) (c + 1) (q + (60 : Int32).toNatClampNeg) (kU K n 100) (kU N n (60 : Int32).toNatClampNeg) (kU (gS G t0 5 (some t1)) n zn0) (kU V n (fun _ => 0)) (kU L n (fun _ => 0)) else none
def f_X7_init_30 (y0 : Nat) (t0 : Nat) (t1 : Nat) (n c q : Nat) (K N : Nat → Nat) (G : zG) (V : zI) (L : zL) : Option (zS) :=
  if (¬ (60 : Int32) < 0 ∧ (60 : Int32).toNatClampNeg ≤ 100000) then f_X7_init_43 y0 y0 n (n + 1) (c + 1) (q + (60 : Int32).toNatClampNeg) (kU K n 100) (kU N n (60 : Int32).toNatClampNeg) (kU (gS G t0 3 (some t1)) n zn0) (kU (z_uI V y0 4 0) n (fun _ => 0)) (kU L n (fun _ => 0)) else none
def f_X7_init_22 (y0 : Nat) (t0 : Nat) (t1 : Nat) (n c q : Nat) (K N : Nat → Nat) (G : zG) (V : zI) (L : zL) : Option (zS) :=
  if (¬ (36 : Int32) < 0 ∧ (36 : Int32).toNatClampNeg ≤ 100000) then f_X7_init_30 y0 y0 n (n + 1) (c + 1) (q + (36 : Int32).toNatClampNeg) (kU K n 100) (kU N n (36 : Int32).toNatClampNeg) (kU (gS G t0 2 (some t1)) n zn0) (kU V n (fun _ => 0)) (kU L n (fun _ => 0)) else none
def f_X7_init_14 (y0 : Nat) (t0 : Nat) (t1 : Nat) (n c q : Nat) (K N : Nat → Nat) (G : zG) (V : zI) (L : zL) : Option (zS) :=
  if (¬ (36 : Int32) < 0 ∧ (36 : Int32).toNatClampNeg ≤ 100000) then f_X7_init_22 y0 y0 n (n + 1) (c + 1) (q + (36 : Int32).toNatClampNeg) (kU K n 100) (kU N n (36 : Int32).toNatClampNeg) (kU (gS G t0 1 (some t1)) n zn0) (kU V n (fun _ => 0)) (kU L n (fun _ => 0)) else none
def g_X7_init (y0 : Nat) (n c q : Nat) (K N : Nat → Nat) (G : zG) (V : zI) (L : zL) : Option (zS) :=
  if (¬ (36 : Int32) < 0 ∧ (36 : Int32).toNatClampNeg ≤ 100000) then f_X7_init_14 y0 y0 n (n + 1) (c + 1) (q + (36 : Int32).toNatClampNeg) (kU K n 100) (kU N n (36 : Int32).toNatClampNeg) (kU G n zn0) (kU (z_uI V y0 0 0) n (fun _ => 0)) (kU L n (fun _ => 0)) else none
def f_X7_init (y0 : Nat) (n : Nat) (K N : Nat → Nat) (G : zG) (V : zI) (L : zL) : Option (zS) := g_X7_init y0 n 0 0 K N G V L
set_option maxHeartbeats 4000000 in
set_option maxRecDepth 100000 in
theorem m_X7_init_64 (y0 : Nat) (t0 : Nat) (t1 : Nat) (n c q : Nat) (K N : Nat → Nat) (G : zG) (V : zI) (L : zL) {r' : zS} (hf : f_X7_init_64 y0 t0 t1 n c q K N G V L = some r') : c ≤ r'.2.1 ∧ q ≤ r'.2.2.1 := by
  unfold f_X7_init_64 at hf
  cases hf
  exact ⟨Nat.le_refl _, Nat.le_refl _⟩

set_option maxHeartbeats 4000000 in
set_option maxRecDepth 100000 in
theorem m_X7_init_51 (y0 : Nat) (t0 : Nat) (t1 : Nat) (n c q : Nat) (K N : Nat → Nat) (G : zG) (V : zI) (L : zL) {r' : zS} (hf : f_X7_init_51 y0 t0 t1 n c q K N G V L = some r') : c ≤ r'.2.1 ∧ q ≤ r'.2.2.1 := by
  unfold f_X7_init_51 at hf
  obtain ⟨hb1, hf⟩ := z_ite hf
  have hm := m_X7_init_64 y0 y0 n (n + 1) (c + 1) (q + (50 : Int32).toNatClampNeg) (kU K n 100) (kU N n (50 : Int32).toNatClampNeg) (kU (gS G t0 6 (some t1)) n zn0) (kU (z_uI V y0 7 0) n (fun _ => 0)) (kU L n (fun _ => 0)) hf
  exact ⟨by omega, by omega⟩

set_option maxHeartbeats 4000000 in
set_option maxRecDepth 100000 in
theorem m_X7_init_43 (y0 : Nat) (t0 : Nat) (t1 : Nat) (n c q : Nat) (K N : Nat → Nat) (G : zG) (V : zI) (L : zL) {r' : zS} (hf : f_X7_init_43 y0 t0 t1 n c q K N G V L = some r') : c ≤ r'.2.1 ∧ q ≤ r'.2.2.1 := by
  unfold f_X7_init_43 at hf
  obtain ⟨hb1, hf⟩ := z_ite hf
  have hm := m_X7_init_51 y0 y0 n (n + 1) (c + 1) (q + (60 : Int32).toNatClampNeg) (kU K n 100) (kU N n (60 : Int32).toNatClampNeg) (kU (gS G t0 5 (some t1)) n zn0) (kU V n (fun _ => 0)) (kU L n (fun _ => 0)) hf
  exact ⟨by omega, by omega⟩

set_option maxHeartbeats 4000000 in
set_option maxRecDepth 100000 in
theorem m_X7_init_30 (y0 : Nat) (t0 : Nat) (t1 : Nat) (n c q : Nat) (K N : Nat → Nat) (G : zG) (V : zI) (L : zL) {r' : zS} (hf : f_X7_init_30 y0 t0 t1 n c q K N G V L = some r') : c ≤ r'.2.1 ∧ q ≤ r'.2.2.1 := by
  unfold f_X7_init_30 at hf
  obtain ⟨hb1, hf⟩ := z_ite hf
  have hm := m_X7_init_43 y0 y0 n (n + 1) (c + 1) (q + (60 : Int32).toNatClampNeg) (kU K n 100) (kU N n (60 : Int32).toNatClampNeg) (kU (gS G t0 3 (some t1)) n zn0) (kU (z_uI V y0 4 0) n (fun _ => 0)) (kU L n (fun _ => 0)) hf
  exact ⟨by omega, by omega⟩

set_option maxHeartbeats 4000000 in
set_option maxRecDepth 100000 in
theorem m_X7_init_22 (y0 : Nat) (t0 : Nat) (t1 : Nat) (n c q : Nat) (K N : Nat → Nat) (G : zG) (V : zI) (L : zL) {r' : zS} (hf : f_X7_init_22 y0 t0 t1 n c q K N G V L = some r') : c ≤ r'.2.1 ∧ q ≤ r'.2.2.1 := by
  unfold f_X7_init_22 at hf
  obtain ⟨hb1, hf⟩ := z_ite hf
  have hm := m_X7_init_30 y0 y0 n (n + 1) (c + 1) (q + (36 : Int32).toNatClampNeg) (kU K n 100) (kU N n (36 : Int32).toNatClampNeg) (kU (gS G t0 2 (some t1)) n zn0) (kU V n (fun _ => 0)) (kU L n (fun _ => 0)) hf
  exact ⟨by omega, by omega⟩

set_option maxHeartbeats 4000000 in
set_option maxRecDepth 100000 in
theorem m_X7_init_14 (y0 : Nat) (t0 : Nat) (t1 : Nat) (n c q : Nat) (K N : Nat → Nat) (G : zG) (V : zI) (L : zL) {r' : zS} (hf : f_X7_init_14 y0 t0 t1 n c q K N G V L = some r') : c ≤ r'.2.1 ∧ q ≤ r'.2.2.1 := by
  unfold f_X7_init_14 at hf
  obtain ⟨hb1, hf⟩ := z_ite hf
  have hm := m_X7_init_22 y0 y0 n (n + 1) (c + 1) (q + (36 : Int32).toNatClampNeg) (kU K n 100) (kU N n (36 : Int32).toNatClampNeg) (kU (gS G t0 1 (some t1)) n zn0) (kU V n (fun _ => 0)) (kU L n (fun _ => 0)) hf
  exact ⟨by omega, by omega⟩

set_option maxHeartbeats 4000000 in
set_option maxRecDepth 100000 in
theorem w_X7_init_64 {M : zM} {D : va_G} {cy : Nat → ClassId} {ad0 K0 : Nat → Nat} {n0 : Nat} {r' : zS} (Z : RZAv M D cy ad0 n0 K0 r') (hC : M.2.2.2.1.cells = r'.2.1 ∧ M.2.2.2.1.slots = r'.2.2.1) (hin : M.2.2.2.2.2.2.2.2.1.name = "<init>") (y0 : Nat) (t0 : Nat) (t1 : Nat) (n c q : Nat) (K N : Nat → Nat) (G : zG) (V : zI) (L : zL) (ad : Nat → Nat) (ls : Array Slot) (X : RXA M D cy ad n c q K N G cX7_init 1 RX7 1 24) (ha : ∀ w, w < n0 → ad w = ad0 w) (hn0 : n0 ≤ n) (hk0 : ∀ w, w < n0 → K w = K0 w) (hy0 : y0 < n ∧ K y0 = 5) (ht0 : t0 < n ∧ K t0 = 5) (ht1 : t1 < n ∧ K t1 = 100) (hl : lv_has ls 1 [(0, .ref (ad y0))]) (hf : f_X7_init_64 y0 t0 t1 n c q K N G V L = some r') : RG (zMb M c q) (zC D cy ad n K N G) V L 64 ls [.ref (ad t1), .ref (ad t0)] := by
  unfold f_X7_init_64 at hf
  refine a_putF (o := (some t1)) X ht0 cz_X7_37 cg_X7 rfl hin rfl rfl (Or.inr ⟨_, rfl, ht1.1, ht1.2⟩) (ct_X7_8) rfl rfl dX7_init_64 (fun X => ?_)
  refine z_aload_n X.1.1 dX7_init_67 rfl (lv_at hl 0 rfl) ?_
  refine z_lconst (v := 0) X.1.1 dX7_init_68 (by decide) ?_
  refine c_putl X.1 hy0 cf_X7_40 cg_X7 cp_X7_9 rfl rfl dX7_init_69 ?_
  refine z_aload_n X.1.1 dX7_init_72 rfl (lv_at hl 0 rfl) ?_
  refine z_iconst (v := 0) X.1.1 dX7_init_73 (by decide) ?_
  refine c_puti X.1 hy0 cf_X7_44 cg_X7 cp_X7_10 rfl rfl dX7_init_74 ?_
  refine z_aload_n X.1.1 dX7_init_77 rfl (lv_at hl 0 rfl) ?_
  refine z_iconst (v := 0) X.1.1 dX7_init_78 (by decide) ?_
  refine c_puti X.1 hy0 cf_X7_47 cg_X7 cp_X7_11 rfl rfl dX7_init_79 ?_
  exact a_vret X Z ha hn0 hk0 hf dX7_init_82

set_option maxHeartbeats 4000000 in
set_option maxRecDepth 100000 in
theorem w_X7_init_51 {M : zM} {D : va_G} {cy : Nat → ClassId} {ad0 K0 : Nat → Nat} {n0 : Nat} {r' : zS} (Z : RZAv M D cy ad0 n0 K0 r') (hC : M.2.2.2.1.cells = r'.2.1 ∧ M.2.2.2.1.slots = r'.2.2.1) (hin : M.2.2.2.2.2.2.2.2.1.name = "<init>") (y0 : Nat) (t0 : Nat) (t1 : Nat) (n c q : Nat) (K N : Nat → Nat) (G : zG) (V : zI) (L : zL) (ad : Nat → Nat) (ls : Array Slot) (X : RXA M D cy ad n c q K N G cX7_init 1 RX7 1 24) (ha : ∀ w, w < n0 → ad w = ad0 w) (hn0 : n0 ≤ n) (hk0 : ∀ w, w < n0 → K w = K0 w) (hy0 : y0 < n ∧ K y0 = 5) (ht0 : t0 < n ∧ K t0 = 5) (ht1 : t1 < n ∧ K t1 = 100) (hl : lv_has ls 1 [(0, .ref (ad y0))]) (hf : f_X7_init_51 y0 t0 t1 n c q K N G V L = some r') : RG (zMb M c q) (zC D cy ad n K N G) V L 51 ls [.ref (ad t1), .ref (ad t0)] := by
  unfold f_X7_init_51 at hf
  refine a_putF (o := (some t1)) X ht0 cz_X7_31 cg_X7 rfl hin rfl rfl (Or.inr ⟨_, rfl, ht1.1, ht1.2⟩) (ct_X7_6) rfl rfl dX7_init_51 (fun X => ?_)
  refine z_aload_n X.1.1 dX7_init_54 rfl (lv_at hl 0 rfl) ?_
  refine z_iconst (v := 0) X.1.1 dX7_init_55 (by decide) ?_
  refine c_puti X.1 hy0 cf_X7_34 cg_X7 cp_X7_7 rfl rfl dX7_init_56 ?_
  refine z_aload_n X.1.1 dX7_init_59 rfl (lv_at hl 0 rfl) ?_
  refine z_bipush (v := 50) X.1.1 dX7_init_60 (by decide) ?_
  obtain ⟨hb1, hf⟩ := z_ite hf
  have hm := m_X7_init_64 y0 y0 n (n + 1) (c + 1) (q + (50 : Int32).toNatClampNeg) (kU K n 100) (kU N n (50 : Int32).toNatClampNeg) (kU (gS G t0 6 (some t1)) n zn0) (kU (z_uI V y0 7 0) n (fun _ => 0)) (kU L n (fun _ => 0)) hf
  refine a_newi X hb1 ca_100 ⟨by rw [hC.1]; exact hm.1, by rw [hC.2]; exact hm.2⟩ dX7_init_62 (fun ad' hag X => ?_)
  rw [← hag y0 hy0.1] at hl ⊢
  exact w_X7_init_64 Z hC hin y0 y0 n (n + 1) (c + 1) (q + (50 : Int32).toNatClampNeg) (kU K n 100) (kU N n (50 : Int32).toNatClampNeg) (kU (gS G t0 6 (some t1)) n zn0) (kU (z_uI V y0 7 0) n (fun _ => 0)) (kU L n (fun _ => 0)) ad' ls X (zag_up ha hn0 hag) (by omega) (zag_up hk0 hn0 (fun w h => kU_ne (by omega))) (zh_up hy0) (zh_up hy0) zh_new (lv_sub hl [0] rfl) hf

set_option maxHeartbeats 4000000 in
set_option maxRecDepth 100000 in
theorem w_X7_init_43 {M : zM} {D : va_G} {cy : Nat → ClassId} {ad0 K0 : Nat → Nat} {n0 : Nat} {r' : zS} (Z : RZAv M D cy ad0 n0 K0 r') (hC : M.2.2.2.1.cells = r'.2.1 ∧ M.2.2.2.1.slots = r'.2.2.1) (hin : M.2.2.2.2.2.2.2.2.1.name = "<init>") (y0 : Nat) (t0 : Nat) (t1 : Nat) (n c q : Nat) (K N : Nat → Nat) (G : zG) (V : zI) (L : zL) (ad : Nat → Nat) (ls : Array Slot) (X : RXA M D cy ad n c q K N G cX7_init 1 RX7 1 24) (ha : ∀ w, w < n0 → ad w = ad0 w) (hn0 : n0 ≤ n) (hk0 : ∀ w, w < n0 → K w = K0 w) (hy0 : y0 < n ∧ K y0 = 5) (ht0 : t0 < n ∧ K t0 = 5) (ht1 : t1 < n ∧ K t1 = 100) (hl : lv_has ls 1 [(0, .ref (ad y0))]) (hf : f_X7_init_43 y0 t0 t1 n c q K N G V L = some r') : RG (zMb M c q) (zC D cy ad n K N G) V L 43 ls [.ref (ad t1), .ref (ad t0)] := by
  unfold f_X7_init_43 at hf
  refine a_putF (o := (some t1)) X ht0 cz_X7_28 cg_X7 rfl hin rfl rfl (Or.inr ⟨_, rfl, ht1.1, ht1.2⟩) (ct_X7_5) rfl rfl dX7_init_43 (fun X => ?_)
  refine z_aload_n X.1.1 dX7_init_46 rfl (lv_at hl 0 rfl) ?_
  refine z_bipush (v := 60) X.1.1 dX7_init_47 (by decide) ?_
  obtain ⟨hb1, hf⟩ := z_ite hf
  have hm := m_X7_init_51 y0 y0 n (n + 1) (c + 1) (q + (60 : Int32).toNatClampNeg) (kU K n 100) (kU N n (60 : Int32).toNatClampNeg) (kU (gS G t0 5 (some t1)) n zn0) (kU V n (fun _ => 0)) (kU L n (fun _ => 0)) hf
  refine a_newi X hb1 ca_100 ⟨by rw [hC.1]; exact hm.1, by rw [hC.2]; exact hm.2⟩ dX7_init_49 (fun ad' hag X => ?_)
  rw [← hag y0 hy0.1] at hl ⊢
  exact w_X7_init_51 Z hC hin y0 y0 n (n + 1) (c + 1) (q + (60 : Int32).toNatClampNeg) (kU K n 100) (kU N n (60 : Int32).toNatClampNeg) (kU (gS G t0 5 (some t1)) n zn0) (kU V n (fun _ => 0)) (kU L n (fun _ => 0)) ad' ls X (zag_up ha hn0 hag) (by omega) (zag_up hk0 hn0 (fun w h => kU_ne (by omega))) (zh_up hy0) (zh_up hy0) zh_new (lv_sub hl [0] rfl) hf

set_option maxHeartbeats 4000000 in
set_option maxRecDepth 100000 in
theorem w_X7_init_30 {M : zM} {D : va_G} {cy : Nat → ClassId} {ad0 K0 : Nat → Nat} {n0 : Nat} {r' : zS} (Z : RZAv M D cy ad0 n0 K0 r') (hC : M.2.2.2.1.cells = r'.2.1 ∧ M.2.2.2.1.slots = r'.2.2.1) (hin : M.2.2.2.2.2.2.2.2.1.name = "<init>") (y0 : Nat) (t0 : Nat) (t1 : Nat) (n c q : Nat) (K N : Nat → Nat) (G : zG) (V : zI) (L : zL) (ad : Nat → Nat) (ls : Array Slot) (X : RXA M D cy ad n c q K N G cX7_init 1 RX7 1 24) (ha : ∀ w, w < n0 → ad w = ad0 w) (hn0 : n0 ≤ n) (hk0 : ∀ w, w < n0 → K w = K0 w) (hy0 : y0 < n ∧ K y0 = 5) (ht0 : t0 < n ∧ K t0 = 5) (ht1 : t1 < n ∧ K t1 = 100) (hl : lv_has ls 1 [(0, .ref (ad y0))]) (hf : f_X7_init_30 y0 t0 t1 n c q K N G V L = some r') : RG (zMb M c q) (zC D cy ad n K N G) V L 30 ls [.ref (ad t1), .ref (ad t0)] := by
  unfold f_X7_init_30 at hf
  refine a_putF (o := (some t1)) X ht0 cz_X7_22 cg_X7 rfl hin rfl rfl (Or.inr ⟨_, rfl, ht1.1, ht1.2⟩) (ct_X7_3) rfl rfl dX7_init_30 (fun X => ?_)
  refine z_aload_n X.1.1 dX7_init_33 rfl (lv_at hl 0 rfl) ?_
  refine z_iconst (v := 0) X.1.1 dX7_init_34 (by decide) ?_
  refine c_puti X.1 hy0 cf_X7_25 cg_X7 cp_X7_4 rfl rfl dX7_init_35 ?_
  refine z_aload_n X.1.1 dX7_init_38 rfl (lv_at hl 0 rfl) ?_
  refine z_bipush (v := 60) X.1.1 dX7_init_39 (by decide) ?_
  obtain ⟨hb1, hf⟩ := z_ite hf
  have hm := m_X7_init_43 y0 y0 n (n + 1) (c + 1) (q + (60 : Int32).toNatClampNeg) (kU K n 100) (kU N n (60 : Int32).toNatClampNeg) (kU (gS G t0 3 (some t1)) n zn0) (kU (z_uI V y0 4 0) n (fun _ => 0)) (kU L n (fun _ => 0)) hf
  refine a_newi X hb1 ca_100 ⟨by rw [hC.1]; exact hm.1, by rw [hC.2]; exact hm.2⟩ dX7_init_41 (fun ad' hag X => ?_)
  rw [← hag y0 hy0.1] at hl ⊢
  exact w_X7_init_43 Z hC hin y0 y0 n (n + 1) (c + 1) (q + (60 : Int32).toNatClampNeg) (kU K n 100) (kU N n (60 : Int32).toNatClampNeg) (kU (gS G t0 3 (some t1)) n zn0) (kU (z_uI V y0 4 0) n (fun _ => 0)) (kU L n (fun _ => 0)) ad' ls X (zag_up ha hn0 hag) (by omega) (zag_up hk0 hn0 (fun w h => kU_ne (by omega))) (zh_up hy0) (zh_up hy0) zh_new (lv_sub hl [0] rfl) hf

set_option maxHeartbeats 4000000 in
set_option maxRecDepth 100000 in
theorem w_X7_init_22 {M : zM} {D : va_G} {cy : Nat → ClassId} {ad0 K0 : Nat → Nat} {n0 : Nat} {r' : zS} (Z : RZAv M D cy ad0 n0 K0 r') (hC : M.2.2.2.1.cells = r'.2.1 ∧ M.2.2.2.1.slots = r'.2.2.1) (hin : M.2.2.2.2.2.2.2.2.1.name = "<init>") (y0 : Nat) (t0 : Nat) (t1 : Nat) (n c q : Nat) (K N : Nat → Nat) (G : zG) (V : zI) (L : zL) (ad : Nat → Nat) (ls : Array Slot) (X : RXA M D cy ad n c q K N G cX7_init 1 RX7 1 24) (ha : ∀ w, w < n0 → ad w = ad0 w) (hn0 : n0 ≤ n) (hk0 : ∀ w, w < n0 → K w = K0 w) (hy0 : y0 < n ∧ K y0 = 5) (ht0 : t0 < n ∧ K t0 = 5) (ht1 : t1 < n ∧ K t1 = 100) (hl : lv_has ls 1 [(0, .ref (ad y0))]) (hf : f_X7_init_22 y0 t0 t1 n c q K N G V L = some r') : RG (zMb M c q) (zC D cy ad n K N G) V L 22 ls [.ref (ad t1), .ref (ad t0)] := by
  unfold f_X7_init_22 at hf
  refine a_putF (o := (some t1)) X ht0 cz_X7_19 cg_X7 rfl hin rfl rfl (Or.inr ⟨_, rfl, ht1.1, ht1.2⟩) (ct_X7_2) rfl rfl dX7_init_22 (fun X => ?_)
  refine z_aload_n X.1.1 dX7_init_25 rfl (lv_at hl 0 rfl) ?_
  refine z_bipush (v := 36) X.1.1 dX7_init_26 (by decide) ?_
  obtain ⟨hb1, hf⟩ := z_ite hf
  have hm := m_X7_init_30 y0 y0 n (n + 1) (c + 1) (q + (36 : Int32).toNatClampNeg) (kU K n 100) (kU N n (36 : Int32).toNatClampNeg) (kU (gS G t0 2 (some t1)) n zn0) (kU V n (fun _ => 0)) (kU L n (fun _ => 0)) hf
  refine a_newi X hb1 ca_100 ⟨by rw [hC.1]; exact hm.1, by rw [hC.2]; exact hm.2⟩ dX7_init_28 (fun ad' hag X => ?_)
  rw [← hag y0 hy0.1] at hl ⊢
  exact w_X7_init_30 Z hC hin y0 y0 n (n + 1) (c + 1) (q + (36 : Int32).toNatClampNeg) (kU K n 100) (kU N n (36 : Int32).toNatClampNeg) (kU (gS G t0 2 (some t1)) n zn0) (kU V n (fun _ => 0)) (kU L n (fun _ => 0)) ad' ls X (zag_up ha hn0 hag) (by omega) (zag_up hk0 hn0 (fun w h => kU_ne (by omega))) (zh_up hy0) (zh_up hy0) zh_new (lv_sub hl [0] rfl) hf

set_option maxHeartbeats 4000000 in
set_option maxRecDepth 100000 in
theorem w_X7_init_14 {M : zM} {D : va_G} {cy : Nat → ClassId} {ad0 K0 : Nat → Nat} {n0 : Nat} {r' : zS} (Z : RZAv M D cy ad0 n0 K0 r') (hC : M.2.2.2.1.cells = r'.2.1 ∧ M.2.2.2.1.slots = r'.2.2.1) (hin : M.2.2.2.2.2.2.2.2.1.name = "<init>") (y0 : Nat) (t0 : Nat) (t1 : Nat) (n c q : Nat) (K N : Nat → Nat) (G : zG) (V : zI) (L : zL) (ad : Nat → Nat) (ls : Array Slot) (X : RXA M D cy ad n c q K N G cX7_init 1 RX7 1 24) (ha : ∀ w, w < n0 → ad w = ad0 w) (hn0 : n0 ≤ n) (hk0 : ∀ w, w < n0 → K w = K0 w) (hy0 : y0 < n ∧ K y0 = 5) (ht0 : t0 < n ∧ K t0 = 5) (ht1 : t1 < n ∧ K t1 = 100) (hl : lv_has ls 1 [(0, .ref (ad y0))]) (hf : f_X7_init_14 y0 t0 t1 n c q K N G V L = some r') : RG (zMb M c q) (zC D cy ad n K N G) V L 14 ls [.ref (ad t1), .ref (ad t0)] := by
  unfold f_X7_init_14 at hf
  refine a_putF (o := (some t1)) X ht0 cz_X7_15 cg_X7 rfl hin rfl rfl (Or.inr ⟨_, rfl, ht1.1, ht1.2⟩) (ct_X7_1) rfl rfl dX7_init_14 (fun X => ?_)
  refine z_aload_n X.1.1 dX7_init_17 rfl (lv_at hl 0 rfl) ?_
  refine z_bipush (v := 36) X.1.1 dX7_init_18 (by decide) ?_
  obtain ⟨hb1, hf⟩ := z_ite hf
  have hm := m_X7_init_22 y0 y0 n (n + 1) (c + 1) (q + (36 : Int32).toNatClampNeg) (kU K n 100) (kU N n (36 : Int32).toNatClampNeg) (kU (gS G t0 1 (some t1)) n zn0) (kU V n (fun _ => 0)) (kU L n (fun _ => 0)) hf
  refine a_newi X hb1 ca_100 ⟨by rw [hC.1]; exact hm.1, by rw [hC.2]; exact hm.2⟩ dX7_init_20 (fun ad' hag X => ?_)
  rw [← hag y0 hy0.1] at hl ⊢
  exact w_X7_init_22 Z hC hin y0 y0 n (n + 1) (c + 1) (q + (36 : Int32).toNatClampNeg) (kU K n 100) (kU N n (36 : Int32).toNatClampNeg) (kU (gS G t0 1 (some t1)) n zn0) (kU V n (fun _ => 0)) (kU L n (fun _ => 0)) ad' ls X (zag_up ha hn0 hag) (by omega) (zag_up hk0 hn0 (fun w h => kU_ne (by omega))) (zh_up hy0) (zh_up hy0) zh_new (lv_sub hl [0] rfl) hf

set_option maxHeartbeats 4000000 in
set_option maxRecDepth 100000 in
theorem w_X7_init {M : zM} {D : va_G} {cy : Nat → ClassId} {ad0 K0 : Nat → Nat} {n0 : Nat} {r' : zS} (Z : RZAv M D cy ad0 n0 K0 r') (hC : M.2.2.2.1.cells = r'.2.1 ∧ M.2.2.2.1.slots = r'.2.2.1) (hin : M.2.2.2.2.2.2.2.2.1.name = "<init>") (y0 : Nat) (n c q : Nat) (K N : Nat → Nat) (G : zG) (V : zI) (L : zL) (ad : Nat → Nat) (ls : Array Slot) (X : RXA M D cy ad n c q K N G cX7_init 1 RX7 1 24) (ha : ∀ w, w < n0 → ad w = ad0 w) (hn0 : n0 ≤ n) (hk0 : ∀ w, w < n0 → K w = K0 w) (hy0 : y0 < n ∧ K y0 = 5) (hl : lv_has ls 1 [(0, .ref (ad y0))]) (hf : g_X7_init y0 n c q K N G V L = some r') : RG (zMb M c q) (zC D cy ad n K N G) V L 0 ls [] := by
  unfold g_X7_init at hf
  refine z_aload_n X.1.1 dX7_init_0 rfl (lv_at hl 0 rfl) ?_
  refine a_obj X hl.1 co_X7_3 ⟨by decide, Nat.le_of_ble_eq_true rfl⟩ dX7_init_1 ?_
  refine z_aload_n X.1.1 dX7_init_4 rfl (lv_at hl 0 rfl) ?_
  refine z_iconst (v := 0) X.1.1 dX7_init_5 (by decide) ?_
  refine c_puti X.1 hy0 cf_X7_9 cg_X7 cp_X7_0 rfl rfl dX7_init_6 ?_
  refine z_aload_n X.1.1 dX7_init_9 rfl (lv_at hl 0 rfl) ?_
  refine z_bipush (v := 36) X.1.1 dX7_init_10 (by decide) ?_
  obtain ⟨hb1, hf⟩ := z_ite hf
  have hm := m_X7_init_14 y0 y0 n (n + 1) (c + 1) (q + (36 : Int32).toNatClampNeg) (kU K n 100) (kU N n (36 : Int32).toNatClampNeg) (kU G n zn0) (kU (z_uI V y0 0 0) n (fun _ => 0)) (kU L n (fun _ => 0)) hf
  refine a_newi X hb1 ca_100 ⟨by rw [hC.1]; exact hm.1, by rw [hC.2]; exact hm.2⟩ dX7_init_12 (fun ad' hag X => ?_)
  rw [← hag y0 hy0.1] at hl ⊢
  exact w_X7_init_14 Z hC hin y0 y0 n (n + 1) (c + 1) (q + (36 : Int32).toNatClampNeg) (kU K n 100) (kU N n (36 : Int32).toNatClampNeg) (kU G n zn0) (kU (z_uI V y0 0 0) n (fun _ => 0)) (kU L n (fun _ => 0)) ad' ls X (zag_up ha hn0 hag) (by omega) (zag_up hk0 hn0 (fun w h => kU_ne (by omega))) (zh_up hy0) (zh_up hy0) zh_new (lv_sub hl [0] rfl) hf

theorem c_X7_init (D : va_G) (cy : Nat → ClassId) (ad : Nat → Nat) {n : Nat} {K N : Nat → Nat} {G : zG} (hWF : zWF n K G) {y0 : Nat} {V : zI} {L : zL} (hy0 : y0 < n ∧ K y0 = 5) {r' : zS} (hf : f_X7_init y0 n K N G V L = some r') : RAv D cy ad n K N G yX7_init cX7_init 1 1 24 [.ref (ad y0)] V L r' :=
  RAv.of (by decide) hWF (Nat.le_of_ble_eq_true rfl) (fun M X Z hC hnm ls hl => w_X7_init Z hC hnm y0 n 0 0 K N G V L ad ls X (fun _ _ => rfl) (Nat.le_refl _) (fun _ _ => rfl) hy0 hl hf)
def f_X8_init_35 (t0 : Nat) (t1 : Nat) (n c q : Nat) (K N : Nat → Nat) (G : zG) (V : zI) (L : zL) : Option (zS) :=
  some (n, c, q, K, N, gS G t0 2 (some t1), V, L)
def f_X8_init_28 (y0 : Nat) (t0 : Nat) (t1 : Nat) (x2 : Int32) (n c q : Nat) (K N : Nat → Nat) (G : zG) (V : zI) (L : zL) : Option (zS) :=
  if (¬ x2 < 0 ∧ x2.toNatClampNeg ≤ 100000) then f_X8_init_35 y0 n (n + 1) (c + 1) (q + x2.toNatClampNeg) (kU K n 100) (kU N n x2.toNatClampNeg) (kU (gS G t0 1 (some t1)) n zn0) (kU V n (fun _ => 0)) (kU L n (fun _ => 0)) else none
def f_X8_init_21 (y0 : Nat) (t0 : Nat) (t1 : Nat) (x2 : Int32) (n c q : Nat) (K N : Nat → Nat) (G : zG) (V : zI) (L : zL) : Option (zS) :=
  if (¬ x2 < 0 ∧ x2.toNatClampNeg ≤ 100000) then f_X8_init_28 y0 y0 n x2 (n + 1) (c + 1) (q + x2.toNatClampNeg) (kU K n 100) (kU N n x2.toNatClampNeg) (kU (gS G t0 0 (some t1)) n zn0) (kU V n (fun _ => 0)) (kU L n (fun _ => 0)) else none
def g_X8_init (y0 : Nat) (x1 : Int32) (n c q : Nat) (K N : Nat → Nat) (G : zG) (V : zI) (L : zL) : Option (zS) :=
  if (¬ ((if (0 : Int32) < x1 then x1 else (0 : Int32)) + 1) < 0 ∧ ((if (0 : Int32) < x1 then x1 else (0 : Int32)) + 1).toNatClampNeg ≤ 100000) then f_X8_init_21 y0 y0 n ((if (0 : Int32) < x1 then x1 else (0 : Int32)) + 1) (n + 1) (c + 1) (q + ((if (0 : Int32) < x1 then x1 else (0 : Int32)) + 1).toNatClampNeg) (kU K n 100) (kU N n ((if (0 : Int32) < x1 then x1 else (0 : Int32)) + 1).toNatClampNeg) (kU G n zn0) (kU (z_uI V y0 3 0) n (fun _ => 0)) (kU L n (fun _ => 0)) else none
def f_X8_init (y0 : Nat) (x1 : Int32) (n : Nat) (K N : Nat → Nat) (G : zG) (V : zI) (L : zL) : Option (zS) := g_X8_init y0 x1 n 0 0 K N G V L
set_option maxHeartbeats 4000000 in
set_option maxRecDepth 100000 in
theorem m_X8_init_35 (t0 : Nat) (t1 : Nat) (n c q : Nat) (K N : Nat → Nat) (G : zG) (V : zI) (L : zL) {r' : zS} (hf : f_X8_init_35 t0 t1 n c q K N G V L = some r') : c ≤ r'.2.1 ∧ q ≤ r'.2.2.1 := by
  unfold f_X8_init_35 at hf
  cases hf
  exact ⟨Nat.le_refl _, Nat.le_refl _⟩

set_option maxHeartbeats 4000000 in
set_option maxRecDepth 100000 in
theorem m_X8_init_28 (y0 : Nat) (t0 : Nat) (t1 : Nat) (x2 : Int32) (n c q : Nat) (K N : Nat → Nat) (G : zG) (V : zI) (L : zL) {r' : zS} (hf : f_X8_init_28 y0 t0 t1 x2 n c q K N G V L = some r') : c ≤ r'.2.1 ∧ q ≤ r'.2.2.1 := by
  unfold f_X8_init_28 at hf
  obtain ⟨hb1, hf⟩ := z_ite hf
  have hm := m_X8_init_35 y0 n (n + 1) (c + 1) (q + x2.toNatClampNeg) (kU K n 100) (kU N n x2.toNatClampNeg) (kU (gS G t0 1 (some t1)) n zn0) (kU V n (fun _ => 0)) (kU L n (fun _ => 0)) hf
  exact ⟨by omega, by omega⟩

set_option maxHeartbeats 4000000 in
set_option maxRecDepth 100000 in
theorem m_X8_init_21 (y0 : Nat) (t0 : Nat) (t1 : Nat) (x2 : Int32) (n c q : Nat) (K N : Nat → Nat) (G : zG) (V : zI) (L : zL) {r' : zS} (hf : f_X8_init_21 y0 t0 t1 x2 n c q K N G V L = some r') : c ≤ r'.2.1 ∧ q ≤ r'.2.2.1 := by
  unfold f_X8_init_21 at hf
  obtain ⟨hb1, hf⟩ := z_ite hf
  have hm := m_X8_init_28 y0 y0 n x2 (n + 1) (c + 1) (q + x2.toNatClampNeg) (kU K n 100) (kU N n x2.toNatClampNeg) (kU (gS G t0 0 (some t1)) n zn0) (kU V n (fun _ => 0)) (kU L n (fun _ => 0)) hf
  exact ⟨by omega, by omega⟩

set_option maxHeartbeats 4000000 in
set_option maxRecDepth 100000 in
theorem w_X8_init_35 {M : zM} {D : va_G} {cy : Nat → ClassId} {ad0 K0 : Nat → Nat} {n0 : Nat} {r' : zS} (Z : RZAv M D cy ad0 n0 K0 r') (hC : M.2.2.2.1.cells = r'.2.1 ∧ M.2.2.2.1.slots = r'.2.2.1) (hin : M.2.2.2.2.2.2.2.2.1.name = "<init>") (t0 : Nat) (t1 : Nat) (n c q : Nat) (K N : Nat → Nat) (G : zG) (V : zI) (L : zL) (ad : Nat → Nat) (ls : Array Slot) (X : RXA M D cy ad n c q K N G cX8_init 3 RX8 1 25) (ha : ∀ w, w < n0 → ad w = ad0 w) (hn0 : n0 ≤ n) (hk0 : ∀ w, w < n0 → K w = K0 w) (ht0 : t0 < n ∧ K t0 = 6) (ht1 : t1 < n ∧ K t1 = 100) (hl : lv_has ls 3 []) (hf : f_X8_init_35 t0 t1 n c q K N G V L = some r') : RG (zMb M c q) (zC D cy ad n K N G) V L 35 ls [.ref (ad t1), .ref (ad t0)] := by
  unfold f_X8_init_35 at hf
  refine a_putF (o := (some t1)) X ht0 cz_X8_26 cg_X8 rfl hin rfl rfl (Or.inr ⟨_, rfl, ht1.1, ht1.2⟩) (ct_X8_2) rfl rfl dX8_init_35 (fun X => ?_)
  exact a_vret X Z ha hn0 hk0 hf dX8_init_38

set_option maxHeartbeats 4000000 in
set_option maxRecDepth 100000 in
theorem w_X8_init_28 {M : zM} {D : va_G} {cy : Nat → ClassId} {ad0 K0 : Nat → Nat} {n0 : Nat} {r' : zS} (Z : RZAv M D cy ad0 n0 K0 r') (hC : M.2.2.2.1.cells = r'.2.1 ∧ M.2.2.2.1.slots = r'.2.2.1) (hin : M.2.2.2.2.2.2.2.2.1.name = "<init>") (y0 : Nat) (t0 : Nat) (t1 : Nat) (x2 : Int32) (n c q : Nat) (K N : Nat → Nat) (G : zG) (V : zI) (L : zL) (ad : Nat → Nat) (ls : Array Slot) (X : RXA M D cy ad n c q K N G cX8_init 3 RX8 1 25) (ha : ∀ w, w < n0 → ad w = ad0 w) (hn0 : n0 ≤ n) (hk0 : ∀ w, w < n0 → K w = K0 w) (hy0 : y0 < n ∧ K y0 = 6) (ht0 : t0 < n ∧ K t0 = 6) (ht1 : t1 < n ∧ K t1 = 100) (hl : lv_has ls 3 [(0, .ref (ad y0)), (2, .int x2)]) (hf : f_X8_init_28 y0 t0 t1 x2 n c q K N G V L = some r') : RG (zMb M c q) (zC D cy ad n K N G) V L 28 ls [.ref (ad t1), .ref (ad t0)] := by
  unfold f_X8_init_28 at hf
  refine a_putF (o := (some t1)) X ht0 cz_X8_23 cg_X8 rfl hin rfl rfl (Or.inr ⟨_, rfl, ht1.1, ht1.2⟩) (ct_X8_1) rfl rfl dX8_init_28 (fun X => ?_)
  refine z_aload_n X.1.1 dX8_init_31 rfl (lv_at hl 0 rfl) ?_
  refine z_iload_n X.1.1 dX8_init_32 rfl (lv_at hl 1 rfl) ?_
  obtain ⟨hb1, hf⟩ := z_ite hf
  have hm := m_X8_init_35 y0 n (n + 1) (c + 1) (q + x2.toNatClampNeg) (kU K n 100) (kU N n x2.toNatClampNeg) (kU (gS G t0 1 (some t1)) n zn0) (kU V n (fun _ => 0)) (kU L n (fun _ => 0)) hf
  refine a_newi X hb1 ca_100 ⟨by rw [hC.1]; exact hm.1, by rw [hC.2]; exact hm.2⟩ dX8_init_33 (fun ad' hag X => ?_)
  rw [← hag y0 hy0.1] at hl ⊢
  exact w_X8_init_35 Z hC hin y0 n (n + 1) (c + 1) (q + x2.toNatClampNeg) (kU K n 100) (kU N n x2.toNatClampNeg) (kU (gS G t0 1 (some t1)) n zn0) (kU V n (fun _ => 0)) (kU L n (fun _ => 0)) ad' ls X (zag_up ha hn0 hag) (by omega) (zag_up hk0 hn0 (fun w h => kU_ne (by omega))) (zh_up hy0) zh_new (lv_sub hl [] rfl) hf

set_option maxHeartbeats 4000000 in
set_option maxRecDepth 100000 in
theorem w_X8_init_21 {M : zM} {D : va_G} {cy : Nat → ClassId} {ad0 K0 : Nat → Nat} {n0 : Nat} {r' : zS} (Z : RZAv M D cy ad0 n0 K0 r') (hC : M.2.2.2.1.cells = r'.2.1 ∧ M.2.2.2.1.slots = r'.2.2.1) (hin : M.2.2.2.2.2.2.2.2.1.name = "<init>") (y0 : Nat) (t0 : Nat) (t1 : Nat) (x2 : Int32) (n c q : Nat) (K N : Nat → Nat) (G : zG) (V : zI) (L : zL) (ad : Nat → Nat) (ls : Array Slot) (X : RXA M D cy ad n c q K N G cX8_init 3 RX8 1 25) (ha : ∀ w, w < n0 → ad w = ad0 w) (hn0 : n0 ≤ n) (hk0 : ∀ w, w < n0 → K w = K0 w) (hy0 : y0 < n ∧ K y0 = 6) (ht0 : t0 < n ∧ K t0 = 6) (ht1 : t1 < n ∧ K t1 = 100) (hl : lv_has ls 3 [(0, .ref (ad y0)), (2, .int x2)]) (hf : f_X8_init_21 y0 t0 t1 x2 n c q K N G V L = some r') : RG (zMb M c q) (zC D cy ad n K N G) V L 21 ls [.ref (ad t1), .ref (ad t0)] := by
  unfold f_X8_init_21 at hf
  refine a_putF (o := (some t1)) X ht0 cz_X8_19 cg_X8 rfl hin rfl rfl (Or.inr ⟨_, rfl, ht1.1, ht1.2⟩) (ct_X8_0) rfl rfl dX8_init_21 (fun X => ?_)
  refine z_aload_n X.1.1 dX8_init_24 rfl (lv_at hl 0 rfl) ?_
  refine z_iload_n X.1.1 dX8_init_25 rfl (lv_at hl 1 rfl) ?_
  obtain ⟨hb1, hf⟩ := z_ite hf
  have hm := m_X8_init_28 y0 y0 n x2 (n + 1) (c + 1) (q + x2.toNatClampNeg) (kU K n 100) (kU N n x2.toNatClampNeg) (kU (gS G t0 0 (some t1)) n zn0) (kU V n (fun _ => 0)) (kU L n (fun _ => 0)) hf
  refine a_newi X hb1 ca_100 ⟨by rw [hC.1]; exact hm.1, by rw [hC.2]; exact hm.2⟩ dX8_init_26 (fun ad' hag X => ?_)
  rw [← hag y0 hy0.1] at hl ⊢
  exact w_X8_init_28 Z hC hin y0 y0 n x2 (n + 1) (c + 1) (q + x2.toNatClampNeg) (kU K n 100) (kU N n x2.toNatClampNeg) (kU (gS G t0 0 (some t1)) n zn0) (kU V n (fun _ => 0)) (kU L n (fun _ => 0)) ad' ls X (zag_up ha hn0 hag) (by omega) (zag_up hk0 hn0 (fun w h => kU_ne (by omega))) (zh_up hy0) (zh_up hy0) zh_new (lv_sub hl [0, 1] rfl) hf

set_option maxHeartbeats 4000000 in
set_option maxRecDepth 100000 in
theorem w_X8_init {M : zM} {D : va_G} {cy : Nat → ClassId} {ad0 K0 : Nat → Nat} {n0 : Nat} {r' : zS} (Z : RZAv M D cy ad0 n0 K0 r') (hC : M.2.2.2.1.cells = r'.2.1 ∧ M.2.2.2.1.slots = r'.2.2.1) (hin : M.2.2.2.2.2.2.2.2.1.name = "<init>") (y0 : Nat) (x1 : Int32) (n c q : Nat) (K N : Nat → Nat) (G : zG) (V : zI) (L : zL) (ad : Nat → Nat) (ls : Array Slot) (X : RXA M D cy ad n c q K N G cX8_init 3 RX8 1 25) (ha : ∀ w, w < n0 → ad w = ad0 w) (hn0 : n0 ≤ n) (hk0 : ∀ w, w < n0 → K w = K0 w) (hy0 : y0 < n ∧ K y0 = 6) (hl : lv_has ls 3 [(0, .ref (ad y0)), (1, .int x1)]) (hf : g_X8_init y0 x1 n c q K N G V L = some r') : RG (zMb M c q) (zC D cy ad n K N G) V L 0 ls [] := by
  unfold g_X8_init at hf
  refine z_aload_n X.1.1 dX8_init_0 rfl (lv_at hl 0 rfl) ?_
  refine a_obj X hl.1 co_X8_1 ⟨by decide, Nat.le_of_ble_eq_true rfl⟩ dX8_init_1 ?_
  refine z_aload_n X.1.1 dX8_init_4 rfl (lv_at hl 0 rfl) ?_
  refine z_iconst (v := 0) X.1.1 dX8_init_5 (by decide) ?_
  refine c_puti X.1 hy0 cf_X8_7 cg_X8 cp_X8_3 rfl rfl dX8_init_6 ?_
  refine z_iconst (v := 0) X.1.1 dX8_init_9 (by decide) ?_
  refine z_iload_n X.1.1 dX8_init_10 rfl (lv_at hl 1 rfl) ?_
  refine c_max X.1 hl.1 cj_X8_13 ⟨by decide, Nat.le_of_ble_eq_true rfl⟩ dX8_init_11 ?_
  refine z_iconst (v := 1) X.1.1 dX8_init_14 (by decide) ?_
  refine z_iadd X.1.1 dX8_init_15 ?_
  refine z_istore_n (lv' := [(2, .int ((if (0 : Int32) < x1 then x1 else (0 : Int32)) + 1)), (0, .ref (ad y0)), (1, .int x1)]) X.1.1 dX8_init_16 rfl hl (by decide) rfl (fun ls hl => ?_)
  refine z_aload_n X.1.1 dX8_init_17 rfl (lv_at hl 1 rfl) ?_
  refine z_iload_n X.1.1 dX8_init_18 rfl (lv_at hl 0 rfl) ?_
  obtain ⟨hb1, hf⟩ := z_ite hf
  have hm := m_X8_init_21 y0 y0 n ((if (0 : Int32) < x1 then x1 else (0 : Int32)) + 1) (n + 1) (c + 1) (q + ((if (0 : Int32) < x1 then x1 else (0 : Int32)) + 1).toNatClampNeg) (kU K n 100) (kU N n ((if (0 : Int32) < x1 then x1 else (0 : Int32)) + 1).toNatClampNeg) (kU G n zn0) (kU (z_uI V y0 3 0) n (fun _ => 0)) (kU L n (fun _ => 0)) hf
  refine a_newi X hb1 ca_100 ⟨by rw [hC.1]; exact hm.1, by rw [hC.2]; exact hm.2⟩ dX8_init_19 (fun ad' hag X => ?_)
  rw [← hag y0 hy0.1] at hl ⊢
  exact w_X8_init_21 Z hC hin y0 y0 n ((if (0 : Int32) < x1 then x1 else (0 : Int32)) + 1) (n + 1) (c + 1) (q + ((if (0 : Int32) < x1 then x1 else (0 : Int32)) + 1).toNatClampNeg) (kU K n 100) (kU N n ((if (0 : Int32) < x1 then x1 else (0 : Int32)) + 1).toNatClampNeg) (kU G n zn0) (kU (z_uI V y0 3 0) n (fun _ => 0)) (kU L n (fun _ => 0)) ad' ls X (zag_up ha hn0 hag) (by omega) (zag_up hk0 hn0 (fun w h => kU_ne (by omega))) (zh_up hy0) (zh_up hy0) zh_new (lv_sub hl [1, 0] rfl) hf

theorem c_X8_init (D : va_G) (cy : Nat → ClassId) (ad : Nat → Nat) {n : Nat} {K N : Nat → Nat} {G : zG} (hWF : zWF n K G) {y0 : Nat} {x1 : Int32} {V : zI} {L : zL} (hy0 : y0 < n ∧ K y0 = 6) {r' : zS} (hf : f_X8_init y0 x1 n K N G V L = some r') : RAv D cy ad n K N G yX8_init cX8_init 3 1 25 [.ref (ad y0), .int x1] V L r' :=
  RAv.of (by decide) hWF (Nat.le_of_ble_eq_true rfl) (fun M X Z hC hnm ls hl => w_X8_init Z hC hnm y0 x1 n 0 0 K N G V L ad ls X (fun _ _ => rfl) (Nat.le_refl _) (fun _ _ => rfl) hy0 hl hf)
def f_X9_init_50 (y0 : Nat) (t0 : Nat) (t1 : Nat) (n c q : Nat) (K N : Nat → Nat) (G : zG) (V : zI) (L : zL) : Option (zS) :=
  some (n, c, q, K, N, gS (gS (gS (gS G t0 7 (some t1)) y0 8 none) y0 9 none) y0 10 none, V, L)
def f_X9_init_42 (y0 : Nat) (t0 : Nat) (t1 : Nat) (n c q : Nat) (K N : Nat → Nat) (G : zG) (V : zI) (L : zL) : Option (zS) :=
  if (¬ (36 : Int32) < 0 ∧ (36 : Int32).toNatClampNeg ≤ 100000) then f_X9_init_50 y0 y0 n (n + 1) (c + 1) (q + (36 : Int32).toNatClampNeg) (kU K n 100) (kU N n (36 : Int32).toNatClampNeg) (kU (gS G t0 6 (some t1)) n zn0) (kU V n (fun _ => 0)) (kU L n (fun _ => 0)) else none
def f_X9_init_34 (y0 : Nat) (t0 : Nat) (t1 : Nat) (n c q : Nat) (K N : Nat → Nat) (G : zG) (V : zI) (L : zL) : Option (zS) :=
  if (¬ (36 : Int32) < 0 ∧ (36 : Int32).toNatClampNeg ≤ 100000) then f_X9_init_42 y0 y0 n (n + 1) (c + 1) (q + (36 : Int32).toNatClampNeg) (kU K n 100) (kU N n (36 : Int32).toNatClampNeg) (kU (gS G t0 5 (some t1)) n zn0) (kU V n (fun _ => 0)) (kU L n (fun _ => 0)) else none
def g_X9_init (y0 : Nat) (n c q : Nat) (K N : Nat → Nat) (G : zG) (V : zI) (L : zL) : Option (zS) :=
  if (¬ (6 : Int32) < 0 ∧ (6 : Int32).toNatClampNeg ≤ 100000) then f_X9_init_34 y0 y0 n (n + 1) (c + 1) (q + (6 : Int32).toNatClampNeg) (kU K n 100) (kU N n (6 : Int32).toNatClampNeg) (kU G n zn0) (kU (z_uI (z_uI (z_uI (z_uI (z_uI V y0 0 0) y0 1 0) y0 2 0) y0 3 1) y0 4 0) n (fun _ => 0)) (kU L n (fun _ => 0)) else none
def f_X9_init (y0 : Nat) (n : Nat) (K N : Nat → Nat) (G : zG) (V : zI) (L : zL) : Option (zS) := g_X9_init y0 n 0 0 K N G V L
set_option maxHeartbeats 4000000 in
set_option maxRecDepth 100000 in
theorem m_X9_init_50 (y0 : Nat) (t0 : Nat) (t1 : Nat) (n c q : Nat) (K N : Nat → Nat) (G : zG) (V : zI) (L : zL) {r' : zS} (hf : f_X9_init_50 y0 t0 t1 n c q K N G V L = some r') : c ≤ r'.2.1 ∧ q ≤ r'.2.2.1 := by
  unfold f_X9_init_50 at hf
  cases hf
  exact ⟨Nat.le_refl _, Nat.le_refl _⟩

set_option maxHeartbeats 4000000 in
set_option maxRecDepth 100000 in
theorem m_X9_init_42 (y0 : Nat) (t0 : Nat) (t1 : Nat) (n c q : Nat) (K N : Nat → Nat) (G : zG) (V : zI) (L : zL) {r' : zS} (hf : f_X9_init_42 y0 t0 t1 n c q K N G V L = some r') : c ≤ r'.2.1 ∧ q ≤ r'.2.2.1 := by
  unfold f_X9_init_42 at hf
  obtain ⟨hb1, hf⟩ := z_ite hf
  have hm := m_X9_init_50 y0 y0 n (n + 1) (c + 1) (q + (36 : Int32).toNatClampNeg) (kU K n 100) (kU N n (36 : Int32).toNatClampNeg) (kU (gS G t0 6 (some t1)) n zn0) (kU V n (fun _ => 0)) (kU L n (fun _ => 0)) hf
  exact ⟨by omega, by omega⟩

set_option maxHeartbeats 4000000 in
set_option maxRecDepth 100000 in
theorem m_X9_init_34 (y0 : Nat) (t0 : Nat) (t1 : Nat) (n c q : Nat) (K N : Nat → Nat) (G : zG) (V : zI) (L : zL) {r' : zS} (hf : f_X9_init_34 y0 t0 t1 n c q K N G V L = some r') : c ≤ r'.2.1 ∧ q ≤ r'.2.2.1 := by
  unfold f_X9_init_34 at hf
  obtain ⟨hb1, hf⟩ := z_ite hf
  have hm := m_X9_init_42 y0 y0 n (n + 1) (c + 1) (q + (36 : Int32).toNatClampNeg) (kU K n 100) (kU N n (36 : Int32).toNatClampNeg) (kU (gS G t0 5 (some t1)) n zn0) (kU V n (fun _ => 0)) (kU L n (fun _ => 0)) hf
  exact ⟨by omega, by omega⟩

set_option maxHeartbeats 4000000 in
set_option maxRecDepth 100000 in
theorem w_X9_init_50 {M : zM} {D : va_G} {cy : Nat → ClassId} {ad0 K0 : Nat → Nat} {n0 : Nat} {r' : zS} (Z : RZAv M D cy ad0 n0 K0 r') (hC : M.2.2.2.1.cells = r'.2.1 ∧ M.2.2.2.1.slots = r'.2.2.1) (hin : M.2.2.2.2.2.2.2.2.1.name = "<init>") (y0 : Nat) (t0 : Nat) (t1 : Nat) (n c q : Nat) (K N : Nat → Nat) (G : zG) (V : zI) (L : zL) (ad : Nat → Nat) (ls : Array Slot) (X : RXA M D cy ad n c q K N G cX9_init 1 RX9 1 24) (ha : ∀ w, w < n0 → ad w = ad0 w) (hn0 : n0 ≤ n) (hk0 : ∀ w, w < n0 → K w = K0 w) (hy0 : y0 < n ∧ K y0 = 7) (ht0 : t0 < n ∧ K t0 = 7) (ht1 : t1 < n ∧ K t1 = 100) (hl : lv_has ls 1 [(0, .ref (ad y0))]) (hf : f_X9_init_50 y0 t0 t1 n c q K N G V L = some r') : RG (zMb M c q) (zC D cy ad n K N G) V L 50 ls [.ref (ad t1), .ref (ad t0)] := by
  unfold f_X9_init_50 at hf
  refine a_putF (o := (some t1)) X ht0 cz_X9_34 cg_X9 rfl hin rfl rfl (Or.inr ⟨_, rfl, ht1.1, ht1.2⟩) (ct_X9_7) rfl rfl dX9_init_50 (fun X => ?_)
  refine z_aload_n X.1.1 dX9_init_53 rfl (lv_at hl 0 rfl) ?_
  refine c_null X.1 dX9_init_54 ?_
  refine a_put (o := none) X hy0 cf_X9_37 cg_X9 rfl rfl (Or.inl rfl) (ct_X9_8) rfl rfl dX9_init_55 (fun X => ?_)
  refine z_aload_n X.1.1 dX9_init_58 rfl (lv_at hl 0 rfl) ?_
  refine c_null X.1 dX9_init_59 ?_
  refine a_put (o := none) X hy0 cf_X9_40 cg_X9 rfl rfl (Or.inl rfl) (ct_X9_9) rfl rfl dX9_init_60 (fun X => ?_)
  refine z_aload_n X.1.1 dX9_init_63 rfl (lv_at hl 0 rfl) ?_
  refine c_null X.1 dX9_init_64 ?_
  refine a_put (o := none) X hy0 cf_X9_43 cg_X9 rfl rfl (Or.inl rfl) (ct_X9_10) rfl rfl dX9_init_65 (fun X => ?_)
  exact a_vret X Z ha hn0 hk0 hf dX9_init_68

set_option maxHeartbeats 4000000 in
set_option maxRecDepth 100000 in
theorem w_X9_init_42 {M : zM} {D : va_G} {cy : Nat → ClassId} {ad0 K0 : Nat → Nat} {n0 : Nat} {r' : zS} (Z : RZAv M D cy ad0 n0 K0 r') (hC : M.2.2.2.1.cells = r'.2.1 ∧ M.2.2.2.1.slots = r'.2.2.1) (hin : M.2.2.2.2.2.2.2.2.1.name = "<init>") (y0 : Nat) (t0 : Nat) (t1 : Nat) (n c q : Nat) (K N : Nat → Nat) (G : zG) (V : zI) (L : zL) (ad : Nat → Nat) (ls : Array Slot) (X : RXA M D cy ad n c q K N G cX9_init 1 RX9 1 24) (ha : ∀ w, w < n0 → ad w = ad0 w) (hn0 : n0 ≤ n) (hk0 : ∀ w, w < n0 → K w = K0 w) (hy0 : y0 < n ∧ K y0 = 7) (ht0 : t0 < n ∧ K t0 = 7) (ht1 : t1 < n ∧ K t1 = 100) (hl : lv_has ls 1 [(0, .ref (ad y0))]) (hf : f_X9_init_42 y0 t0 t1 n c q K N G V L = some r') : RG (zMb M c q) (zC D cy ad n K N G) V L 42 ls [.ref (ad t1), .ref (ad t0)] := by
  unfold f_X9_init_42 at hf
  refine a_putF (o := (some t1)) X ht0 cz_X9_31 cg_X9 rfl hin rfl rfl (Or.inr ⟨_, rfl, ht1.1, ht1.2⟩) (ct_X9_6) rfl rfl dX9_init_42 (fun X => ?_)
  refine z_aload_n X.1.1 dX9_init_45 rfl (lv_at hl 0 rfl) ?_
  refine z_bipush (v := 36) X.1.1 dX9_init_46 (by decide) ?_
  obtain ⟨hb1, hf⟩ := z_ite hf
  have hm := m_X9_init_50 y0 y0 n (n + 1) (c + 1) (q + (36 : Int32).toNatClampNeg) (kU K n 100) (kU N n (36 : Int32).toNatClampNeg) (kU (gS G t0 6 (some t1)) n zn0) (kU V n (fun _ => 0)) (kU L n (fun _ => 0)) hf
  refine a_newi X hb1 ca_100 ⟨by rw [hC.1]; exact hm.1, by rw [hC.2]; exact hm.2⟩ dX9_init_48 (fun ad' hag X => ?_)
  rw [← hag y0 hy0.1] at hl ⊢
  exact w_X9_init_50 Z hC hin y0 y0 n (n + 1) (c + 1) (q + (36 : Int32).toNatClampNeg) (kU K n 100) (kU N n (36 : Int32).toNatClampNeg) (kU (gS G t0 6 (some t1)) n zn0) (kU V n (fun _ => 0)) (kU L n (fun _ => 0)) ad' ls X (zag_up ha hn0 hag) (by omega) (zag_up hk0 hn0 (fun w h => kU_ne (by omega))) (zh_up hy0) (zh_up hy0) zh_new (lv_sub hl [0] rfl) hf

set_option maxHeartbeats 4000000 in
set_option maxRecDepth 100000 in
theorem w_X9_init_34 {M : zM} {D : va_G} {cy : Nat → ClassId} {ad0 K0 : Nat → Nat} {n0 : Nat} {r' : zS} (Z : RZAv M D cy ad0 n0 K0 r') (hC : M.2.2.2.1.cells = r'.2.1 ∧ M.2.2.2.1.slots = r'.2.2.1) (hin : M.2.2.2.2.2.2.2.2.1.name = "<init>") (y0 : Nat) (t0 : Nat) (t1 : Nat) (n c q : Nat) (K N : Nat → Nat) (G : zG) (V : zI) (L : zL) (ad : Nat → Nat) (ls : Array Slot) (X : RXA M D cy ad n c q K N G cX9_init 1 RX9 1 24) (ha : ∀ w, w < n0 → ad w = ad0 w) (hn0 : n0 ≤ n) (hk0 : ∀ w, w < n0 → K w = K0 w) (hy0 : y0 < n ∧ K y0 = 7) (ht0 : t0 < n ∧ K t0 = 7) (ht1 : t1 < n ∧ K t1 = 100) (hl : lv_has ls 1 [(0, .ref (ad y0))]) (hf : f_X9_init_34 y0 t0 t1 n c q K N G V L = some r') : RG (zMb M c q) (zC D cy ad n K N G) V L 34 ls [.ref (ad t1), .ref (ad t0)] := by
  unfold f_X9_init_34 at hf
  refine a_putF (o := (some t1)) X ht0 cz_X9_27 cg_X9 rfl hin rfl rfl (Or.inr ⟨_, rfl, ht1.1, ht1.2⟩) (ct_X9_5) rfl rfl dX9_init_34 (fun X => ?_)
  refine z_aload_n X.1.1 dX9_init_37 rfl (lv_at hl 0 rfl) ?_
  refine z_bipush (v := 36) X.1.1 dX9_init_38 (by decide) ?_
  obtain ⟨hb1, hf⟩ := z_ite hf
  have hm := m_X9_init_42 y0 y0 n (n + 1) (c + 1) (q + (36 : Int32).toNatClampNeg) (kU K n 100) (kU N n (36 : Int32).toNatClampNeg) (kU (gS G t0 5 (some t1)) n zn0) (kU V n (fun _ => 0)) (kU L n (fun _ => 0)) hf
  refine a_newi X hb1 ca_100 ⟨by rw [hC.1]; exact hm.1, by rw [hC.2]; exact hm.2⟩ dX9_init_40 (fun ad' hag X => ?_)
  rw [← hag y0 hy0.1] at hl ⊢
  exact w_X9_init_42 Z hC hin y0 y0 n (n + 1) (c + 1) (q + (36 : Int32).toNatClampNeg) (kU K n 100) (kU N n (36 : Int32).toNatClampNeg) (kU (gS G t0 5 (some t1)) n zn0) (kU V n (fun _ => 0)) (kU L n (fun _ => 0)) ad' ls X (zag_up ha hn0 hag) (by omega) (zag_up hk0 hn0 (fun w h => kU_ne (by omega))) (zh_up hy0) (zh_up hy0) zh_new (lv_sub hl [0] rfl) hf

set_option maxHeartbeats 4000000 in
set_option maxRecDepth 100000 in
theorem w_X9_init {M : zM} {D : va_G} {cy : Nat → ClassId} {ad0 K0 : Nat → Nat} {n0 : Nat} {r' : zS} (Z : RZAv M D cy ad0 n0 K0 r') (hC : M.2.2.2.1.cells = r'.2.1 ∧ M.2.2.2.1.slots = r'.2.2.1) (hin : M.2.2.2.2.2.2.2.2.1.name = "<init>") (y0 : Nat) (n c q : Nat) (K N : Nat → Nat) (G : zG) (V : zI) (L : zL) (ad : Nat → Nat) (ls : Array Slot) (X : RXA M D cy ad n c q K N G cX9_init 1 RX9 1 24) (ha : ∀ w, w < n0 → ad w = ad0 w) (hn0 : n0 ≤ n) (hk0 : ∀ w, w < n0 → K w = K0 w) (hy0 : y0 < n ∧ K y0 = 7) (hl : lv_has ls 1 [(0, .ref (ad y0))]) (hf : g_X9_init y0 n c q K N G V L = some r') : RG (zMb M c q) (zC D cy ad n K N G) V L 0 ls [] := by
  unfold g_X9_init at hf
  refine z_aload_n X.1.1 dX9_init_0 rfl (lv_at hl 0 rfl) ?_
  refine a_obj X hl.1 co_X9_3 ⟨by decide, Nat.le_of_ble_eq_true rfl⟩ dX9_init_1 ?_
  refine z_aload_n X.1.1 dX9_init_4 rfl (lv_at hl 0 rfl) ?_
  refine z_iconst (v := 0) X.1.1 dX9_init_5 (by decide) ?_
  refine c_puti X.1 hy0 cf_X9_9 cg_X9 cp_X9_0 rfl rfl dX9_init_6 ?_
  refine z_aload_n X.1.1 dX9_init_9 rfl (lv_at hl 0 rfl) ?_
  refine z_iconst (v := 0) X.1.1 dX9_init_10 (by decide) ?_
  refine c_puti X.1 hy0 cf_X9_15 cg_X9 cp_X9_1 rfl rfl dX9_init_11 ?_
  refine z_aload_n X.1.1 dX9_init_14 rfl (lv_at hl 0 rfl) ?_
  refine z_iconst (v := 0) X.1.1 dX9_init_15 (by decide) ?_
  refine c_puti X.1 hy0 cf_X9_18 cg_X9 cp_X9_2 rfl rfl dX9_init_16 ?_
  refine z_aload_n X.1.1 dX9_init_19 rfl (lv_at hl 0 rfl) ?_
  refine z_iconst (v := 1) X.1.1 dX9_init_20 (by decide) ?_
  refine c_puti X.1 hy0 cf_X9_21 cg_X9 cp_X9_3 rfl rfl dX9_init_21 ?_
  refine z_aload_n X.1.1 dX9_init_24 rfl (lv_at hl 0 rfl) ?_
  refine z_iconst (v := 0) X.1.1 dX9_init_25 (by decide) ?_
  refine c_puti X.1 hy0 cf_X9_24 cg_X9 cp_X9_4 rfl rfl dX9_init_26 ?_
  refine z_aload_n X.1.1 dX9_init_29 rfl (lv_at hl 0 rfl) ?_
  refine z_bipush (v := 6) X.1.1 dX9_init_30 (by decide) ?_
  obtain ⟨hb1, hf⟩ := z_ite hf
  have hm := m_X9_init_34 y0 y0 n (n + 1) (c + 1) (q + (6 : Int32).toNatClampNeg) (kU K n 100) (kU N n (6 : Int32).toNatClampNeg) (kU G n zn0) (kU (z_uI (z_uI (z_uI (z_uI (z_uI V y0 0 0) y0 1 0) y0 2 0) y0 3 1) y0 4 0) n (fun _ => 0)) (kU L n (fun _ => 0)) hf
  refine a_newi X hb1 ca_100 ⟨by rw [hC.1]; exact hm.1, by rw [hC.2]; exact hm.2⟩ dX9_init_32 (fun ad' hag X => ?_)
  rw [← hag y0 hy0.1] at hl ⊢
  exact w_X9_init_34 Z hC hin y0 y0 n (n + 1) (c + 1) (q + (6 : Int32).toNatClampNeg) (kU K n 100) (kU N n (6 : Int32).toNatClampNeg) (kU G n zn0) (kU (z_uI (z_uI (z_uI (z_uI (z_uI V y0 0 0) y0 1 0) y0 2 0) y0 3 1) y0 4 0) n (fun _ => 0)) (kU L n (fun _ => 0)) ad' ls X (zag_up ha hn0 hag) (by omega) (zag_up hk0 hn0 (fun w h => kU_ne (by omega))) (zh_up hy0) (zh_up hy0) zh_new (lv_sub hl [0] rfl) hf

theorem c_X9_init (D : va_G) (cy : Nat → ClassId) (ad : Nat → Nat) {n : Nat} {K N : Nat → Nat} {G : zG} (hWF : zWF n K G) {y0 : Nat} {V : zI} {L : zL} (hy0 : y0 < n ∧ K y0 = 7) {r' : zS} (hf : f_X9_init y0 n K N G V L = some r') : RAv D cy ad n K N G yX9_init cX9_init 1 1 24 [.ref (ad y0)] V L r' :=
  RAv.of (by decide) hWF (Nat.le_of_ble_eq_true rfl) (fun M X Z hC hnm ls hl => w_X9_init Z hC hnm y0 n 0 0 K N G V L ad ls X (fun _ _ => rfl) (Nat.le_refl _) (fun _ _ => rfl) hy0 hl hf)
def b_X6_stepsTo_50 (k40 : Nat × Int64 × Int32 × zS → Option (Nat × zS)) (k50 : Nat × Int64 × Int32 × Int32 × zS → Option (Nat × zS)) : Nat × Int64 × Int32 × Int32 × zS → Option (Nat × zS) := fun ⟨y3, x0, x4, x5, n, c, q, K, N, G, V, L⟩ =>
  (if 6 ≤ x5 then k40 (y3, x0, (x4 + 1), n, c, q, K, N, G, V, L) else if inB x5 (N y3) then (f_X6_nearest N G y3 x0 x5 V L).bind fun r2 => if inB x5 (N y3) then k50 (y3, x0, x4, (x5 + 1), n, c, q, K, N, G, z_uI V y3 x5.toNatClampNeg (if ((1 : Int32) + r2) < (V y3 x5.toNatClampNeg) then ((1 : Int32) + r2) else (V y3 x5.toNatClampNeg)), L) else none else none)
def b_X6_stepsTo_40 (k40 : Nat × Int64 × Int32 × zS → Option (Nat × zS)) : Nat × Int64 × Int32 × zS → Option (Nat × zS) := fun ⟨y3, x0, x4, n, c, q, K, N, G, V, L⟩ =>
  (if 6 ≤ x4 then some (y3, n, c, q, K, N, G, V, L) else zfix (b_X6_stepsTo_50 k40) FU (y3, x0, x4, 0, n, c, q, K, N, G, V, L))
def b_X6_stepsTo_8 (k8 : Nat × Int64 × Int32 × Int32 × zS → Option (Nat × zS)) : Nat × Int64 × Int32 × Int32 × zS → Option (Nat × zS) := fun ⟨y3, x0, x2, x4, n, c, q, K, N, G, V, L⟩ =>
  (if 6 ≤ x4 then zfix (b_X6_stepsTo_40) FU (y3, x0, 1, n, c, q, K, N, G, V, L) else (if x4 = x2 then if inB x4 (N y3) then k8 (y3, x0, x2, (x4 + 1), n, c, q, K, N, G, z_uI V y3 x4.toNatClampNeg 0, L) else none else if inB x4 (N y3) then k8 (y3, x0, x2, (x4 + 1), n, c, q, K, N, G, z_uI V y3 x4.toNatClampNeg 99, L) else none))
def f_X6_stepsTo_4 (t0 : Nat) (x0 : Int64) (x2 : Int32) (n c q : Nat) (K N : Nat → Nat) (G : zG) (V : zI) (L : zL) : Option (Nat × zS) :=
  zfix (b_X6_stepsTo_8) FU (t0, x0, x2, 0, n, c, q, K, N, G, V, L)
def g_X6_stepsTo (x0 : Int64) (x2 : Int32) (n c q : Nat) (K N : Nat → Nat) (G : zG) (V : zI) (L : zL) : Option (Nat × zS) :=
  if (¬ (6 : Int32) < 0 ∧ (6 : Int32).toNatClampNeg ≤ 100000) then f_X6_stepsTo_4 n x0 x2 (n + 1) (c + 1) (q + (6 : Int32).toNatClampNeg) (kU K n 100) (kU N n (6 : Int32).toNatClampNeg) (kU G n zn0) (kU V n (fun _ => 0)) (kU L n (fun _ => 0)) else none
def f_X6_stepsTo (x0 : Int64) (x2 : Int32) (n : Nat) (K N : Nat → Nat) (G : zG) (V : zI) (L : zL) : Option (Nat × zS) := g_X6_stepsTo x0 x2 n 0 0 K N G V L
set_option maxHeartbeats 4000000 in
set_option maxRecDepth 100000 in
theorem m_X6_stepsTo_50 {k40 : Nat × Int64 × Int32 × zS → Option (Nat × zS)} (hm40 : ∀ (y3 : Nat) (x0 : Int64) (x4 : Int32) (n c q : Nat) (K N : Nat → Nat) (G : zG) (V : zI) (L : zL) {r' : Nat × zS}, k40 (y3, x0, x4, n, c, q, K, N, G, V, L) = some r' → c ≤ r'.2.2.1 ∧ q ≤ r'.2.2.2.1) (nn : Nat) : ∀ (y3 : Nat) (x0 : Int64) (x4 : Int32) (x5 : Int32) (n c q : Nat) (K N : Nat → Nat) (G : zG) (V : zI) (L : zL) {r' : Nat × zS}, zfix (b_X6_stepsTo_50 k40) nn (y3, x0, x4, x5, n, c, q, K, N, G, V, L) = some r' → c ≤ r'.2.2.1 ∧ q ≤ r'.2.2.2.1 := by
  induction nn with
  | zero => intro y3 x0 x4 x5 n c q K N G V L r' hf; cases hf
  | succ nn ih =>
  intro y3 x0 x4 x5 n c q K N G V L r' hf
  have hm50 : ∀ (y3 : Nat) (x0 : Int64) (x4 : Int32) (x5 : Int32) (n c q : Nat) (K N : Nat → Nat) (G : zG) (V : zI) (L : zL) {r' : Nat × zS}, zfix (b_X6_stepsTo_50 k40) nn (y3, x0, x4, x5, n, c, q, K, N, G, V, L) = some r' → c ≤ r'.2.2.1 ∧ q ≤ r'.2.2.2.1 := ih
  have hf : b_X6_stepsTo_50 k40 (zfix (b_X6_stepsTo_50 k40) nn) (y3, x0, x4, x5, n, c, q, K, N, G, V, L) = some r' := hf
  generalize zfix (b_X6_stepsTo_50 k40) nn = k50 at hm50 hf
  clear ih
  unfold b_X6_stepsTo_50 at hf
  rcases z_iteE hf with hf | hf
  ·
    exact hm40 y3 x0 (x4 + 1) n c q K N G V L hf
  ·
    obtain ⟨hb1, hf⟩ := z_ite hf
    obtain ⟨r2, hc2, hf⟩ := z_bind hf
    obtain ⟨hb3, hf⟩ := z_ite hf
    exact hm50 y3 x0 x4 (x5 + 1) n c q K N G (z_uI V y3 x5.toNatClampNeg (if ((1 : Int32) + r2) < (V y3 x5.toNatClampNeg) then ((1 : Int32) + r2) else (V y3 x5.toNatClampNeg))) L hf

set_option maxHeartbeats 4000000 in
set_option maxRecDepth 100000 in
theorem m_X6_stepsTo_40 (nn : Nat) : ∀ (y3 : Nat) (x0 : Int64) (x4 : Int32) (n c q : Nat) (K N : Nat → Nat) (G : zG) (V : zI) (L : zL) {r' : Nat × zS}, zfix (b_X6_stepsTo_40) nn (y3, x0, x4, n, c, q, K, N, G, V, L) = some r' → c ≤ r'.2.2.1 ∧ q ≤ r'.2.2.2.1 := by
  induction nn with
  | zero => intro y3 x0 x4 n c q K N G V L r' hf; cases hf
  | succ nn ih =>
  intro y3 x0 x4 n c q K N G V L r' hf
  have hm40 : ∀ (y3 : Nat) (x0 : Int64) (x4 : Int32) (n c q : Nat) (K N : Nat → Nat) (G : zG) (V : zI) (L : zL) {r' : Nat × zS}, zfix (b_X6_stepsTo_40) nn (y3, x0, x4, n, c, q, K, N, G, V, L) = some r' → c ≤ r'.2.2.1 ∧ q ≤ r'.2.2.2.1 := ih
  have hf : b_X6_stepsTo_40 (zfix (b_X6_stepsTo_40) nn) (y3, x0, x4, n, c, q, K, N, G, V, L) = some r' := hf
  generalize zfix (b_X6_stepsTo_40) nn = k40 at hm40 hf
  clear ih
  unfold b_X6_stepsTo_40 at hf
  rcases z_iteE hf with hf | hf
  ·
    cases hf
    exact ⟨Nat.le_refl _, Nat.le_refl _⟩
  ·
    exact m_X6_stepsTo_50 hm40 FU y3 x0 x4 0 n c q K N G V L hf

set_option maxHeartbeats 4000000 in
set_option maxRecDepth 100000 in
theorem m_X6_stepsTo_8 (nn : Nat) : ∀ (y3 : Nat) (x0 : Int64) (x2 : Int32) (x4 : Int32) (n c q : Nat) (K N : Nat → Nat) (G : zG) (V : zI) (L : zL) {r' : Nat × zS}, zfix (b_X6_stepsTo_8) nn (y3, x0, x2, x4, n, c, q, K, N, G, V, L) = some r' → c ≤ r'.2.2.1 ∧ q ≤ r'.2.2.2.1 := by
  induction nn with
  | zero => intro y3 x0 x2 x4 n c q K N G V L r' hf; cases hf
  | succ nn ih =>
  intro y3 x0 x2 x4 n c q K N G V L r' hf
  have hm8 : ∀ (y3 : Nat) (x0 : Int64) (x2 : Int32) (x4 : Int32) (n c q : Nat) (K N : Nat → Nat) (G : zG) (V : zI) (L : zL) {r' : Nat × zS}, zfix (b_X6_stepsTo_8) nn (y3, x0, x2, x4, n, c, q, K, N, G, V, L) = some r' → c ≤ r'.2.2.1 ∧ q ≤ r'.2.2.2.1 := ih
  have hf : b_X6_stepsTo_8 (zfix (b_X6_stepsTo_8) nn) (y3, x0, x2, x4, n, c, q, K, N, G, V, L) = some r' := hf
  generalize zfix (b_X6_stepsTo_8) nn = k8 at hm8 hf
  clear ih
  unfold b_X6_stepsTo_8 at hf
  rcases z_iteE hf with hf | hf
  ·
    exact m_X6_stepsTo_40 FU y3 x0 1 n c q K N G V L hf
  ·
    rcases z_iteE hf with hf | hf
    ·
      obtain ⟨hb2, hf⟩ := z_ite hf
      exact hm8 y3 x0 x2 (x4 + 1) n c q K N G (z_uI V y3 x4.toNatClampNeg 0) L hf
    ·
      obtain ⟨hb1, hf⟩ := z_ite hf
      exact hm8 y3 x0 x2 (x4 + 1) n c q K N G (z_uI V y3 x4.toNatClampNeg 99) L hf

set_option maxHeartbeats 4000000 in
set_option maxRecDepth 100000 in
theorem m_X6_stepsTo_4 (t0 : Nat) (x0 : Int64) (x2 : Int32) (n c q : Nat) (K N : Nat → Nat) (G : zG) (V : zI) (L : zL) {r' : Nat × zS} (hf : f_X6_stepsTo_4 t0 x0 x2 n c q K N G V L = some r') : c ≤ r'.2.2.1 ∧ q ≤ r'.2.2.2.1 := by
  unfold f_X6_stepsTo_4 at hf
  exact m_X6_stepsTo_8 FU t0 x0 x2 0 n c q K N G V L hf

set_option maxHeartbeats 4000000 in
set_option maxRecDepth 100000 in
theorem w_X6_stepsTo_50 {M : zM} {D : va_G} {cy : Nat → ClassId} {ad0 K0 : Nat → Nat} {n0 : Nat} {r' : Nat × zS} (Z : RZAr M D cy ad0 n0 K0 r'.1 r'.2) (hC : M.2.2.2.1.cells = r'.2.2.1 ∧ M.2.2.2.1.slots = r'.2.2.2.1) {k40 : Nat × Int64 × Int32 × zS → Option (Nat × zS)} (hk40 : ∀ (y3 : Nat) (x0 : Int64) (x4 : Int32) (n c q : Nat) (K N : Nat → Nat) (G : zG) (V : zI) (L : zL) (ad : Nat → Nat) (ls : Array Slot) (X : RXA M D cy ad n c q K N G cX6_stepsTo 6 RX6 2 50) (ha : ∀ w, w < n0 → ad w = ad0 w) (hn0 : n0 ≤ n) (hk0 : ∀ w, w < n0 → K w = K0 w) (hy3 : y3 < n ∧ K y3 = 100) (hl : lv_has ls 6 [(0, .long x0), (3, .ref (ad y3)), (4, .int x4)]) (hf : k40 (y3, x0, x4, n, c, q, K, N, G, V, L) = some r'), RG (zMb M c q) (zC D cy ad n K N G) V L 40 ls []) (hm40 : ∀ (y3 : Nat) (x0 : Int64) (x4 : Int32) (n c q : Nat) (K N : Nat → Nat) (G : zG) (V : zI) (L : zL) {r' : Nat × zS}, k40 (y3, x0, x4, n, c, q, K, N, G, V, L) = some r' → c ≤ r'.2.2.1 ∧ q ≤ r'.2.2.2.1) (nn : Nat) : ∀ (y3 : Nat) (x0 : Int64) (x4 : Int32) (x5 : Int32) (n c q : Nat) (K N : Nat → Nat) (G : zG) (V : zI) (L : zL) (ad : Nat → Nat) (ls : Array Slot) (X : RXA M D cy ad n c q K N G cX6_stepsTo 6 RX6 2 50) (ha : ∀ w, w < n0 → ad w = ad0 w) (hn0 : n0 ≤ n) (hk0 : ∀ w, w < n0 → K w = K0 w) (hy3 : y3 < n ∧ K y3 = 100) (hl : lv_has ls 6 [(0, .long x0), (3, .ref (ad y3)), (4, .int x4), (5, .int x5)]) (hf : zfix (b_X6_stepsTo_50 k40) nn (y3, x0, x4, x5, n, c, q, K, N, G, V, L) = some r'), RG (zMb M c q) (zC D cy ad n K N G) V L 50 ls [] := by
  induction nn with
  | zero => intro y3 x0 x4 x5 n c q K N G V L ad ls X ha hn0 hk0 hy3 hl hf; cases hf
  | succ nn ih =>
  intro y3 x0 x4 x5 n c q K N G V L ad ls X ha hn0 hk0 hy3 hl hf
  have hk50 : ∀ (y3 : Nat) (x0 : Int64) (x4 : Int32) (x5 : Int32) (n c q : Nat) (K N : Nat → Nat) (G : zG) (V : zI) (L : zL) (ad : Nat → Nat) (ls : Array Slot) (X : RXA M D cy ad n c q K N G cX6_stepsTo 6 RX6 2 50) (ha : ∀ w, w < n0 → ad w = ad0 w) (hn0 : n0 ≤ n) (hk0 : ∀ w, w < n0 → K w = K0 w) (hy3 : y3 < n ∧ K y3 = 100) (hl : lv_has ls 6 [(0, .long x0), (3, .ref (ad y3)), (4, .int x4), (5, .int x5)]) (hf : zfix (b_X6_stepsTo_50 k40) nn (y3, x0, x4, x5, n, c, q, K, N, G, V, L) = some r'), RG (zMb M c q) (zC D cy ad n K N G) V L 50 ls [] := ih
  have hm50 : ∀ (y3 : Nat) (x0 : Int64) (x4 : Int32) (x5 : Int32) (n c q : Nat) (K N : Nat → Nat) (G : zG) (V : zI) (L : zL) {r' : Nat × zS}, zfix (b_X6_stepsTo_50 k40) nn (y3, x0, x4, x5, n, c, q, K, N, G, V, L) = some r' → c ≤ r'.2.2.1 ∧ q ≤ r'.2.2.2.1 := m_X6_stepsTo_50 hm40 nn
  have hf : b_X6_stepsTo_50 k40 (zfix (b_X6_stepsTo_50 k40) nn) (y3, x0, x4, x5, n, c, q, K, N, G, V, L) = some r' := hf
  generalize zfix (b_X6_stepsTo_50 k40) nn = k50 at hk50 hm50 hf
  clear ih
  unfold b_X6_stepsTo_50 at hf
  refine z_iload X.1.1 dX6_stepsTo_50 (lv_at hl 3 rfl) ?_
  refine z_bipush (v := 6) X.1.1 dX6_stepsTo_52 (by decide) ?_
  refine z_icmp_ge (tgt := 83) X.1.1 dX6_stepsTo_54 (by decide) (fun c_ => ?_) (fun c_ => ?_)
  · have hf := (if_pos c_).symm.trans hf
    refine z_iinc (v := x4 + 1) (k0 := 2) (lv' := [(4, .int (x4 + 1)), (0, .long x0), (3, .ref (ad y3)), (5, .int x5)]) X.1.1 dX6_stepsTo_83 hl rfl rfl (by decide) rfl (fun ls hl => ?_)
    refine z_goto (tgt := 40) X.1.1 dX6_stepsTo_86 (by decide) ?_
    exact hk40 y3 x0 (x4 + 1) n c q K N G V L ad ls X ha hn0 hk0 hy3 (lv_sub hl [1, 2, 0] rfl) hf
  · have hf := (if_neg c_).symm.trans hf
    refine z_aload_n X.1.1 dX6_stepsTo_57 rfl (lv_at hl 1 rfl) ?_
    refine z_iload X.1.1 dX6_stepsTo_58 (lv_at hl 3 rfl) ?_
    refine z_aload_n X.1.1 dX6_stepsTo_60 rfl (lv_at hl 1 rfl) ?_
    refine z_iload X.1.1 dX6_stepsTo_61 (lv_at hl 3 rfl) ?_
    obtain ⟨hb1, hf⟩ := z_ite hf
    refine c_iald X.1 hy3 hb1 dX6_stepsTo_63 ?_
    refine z_iconst (v := 1) X.1.1 dX6_stepsTo_64 (by decide) ?_
    refine z_lload_n X.1.1 dX6_stepsTo_65 rfl (lv_at hl 0 rfl) ?_
    refine z_iload X.1.1 dX6_stepsTo_66 (lv_at hl 3 rfl) ?_
    refine z_aload_n X.1.1 dX6_stepsTo_68 rfl (lv_at hl 1 rfl) ?_
    obtain ⟨r2, hc2, hf⟩ := z_bind hf
    refine c_callSi [.long x0, .int x5, .ref (ad y3)] X.1 hl.1 (c_X6_nearest D cy ad X.1.2.2 hy3 hc2) cm_X6_33 cw_X6_nearest rfl cq_X6_nearest ⟨by decide, by decide⟩ (Nat.le_of_ble_eq_true rfl) rfl dX6_stepsTo_69 ?_
    refine z_iadd X.1.1 dX6_stepsTo_72 ?_
    refine c_min X.1 hl.1 cj_X6_41 ⟨by decide, Nat.le_of_ble_eq_true rfl⟩ dX6_stepsTo_73 ?_
    obtain ⟨hb3, hf⟩ := z_ite hf
    refine c_iast X.1 hy3 hb3 dX6_stepsTo_76 ?_
    refine z_iinc (v := x5 + 1) (k0 := 3) (lv' := [(5, .int (x5 + 1)), (0, .long x0), (3, .ref (ad y3)), (4, .int x4)]) X.1.1 dX6_stepsTo_77 hl rfl rfl (by decide) rfl (fun ls hl => ?_)
    refine z_goto (tgt := 50) X.1.1 dX6_stepsTo_80 (by decide) ?_
    exact hk50 y3 x0 x4 (x5 + 1) n c q K N G (z_uI V y3 x5.toNatClampNeg (if ((1 : Int32) + r2) < (V y3 x5.toNatClampNeg) then ((1 : Int32) + r2) else (V y3 x5.toNatClampNeg))) L ad ls X ha hn0 hk0 hy3 (lv_sub hl [1, 2, 3, 0] rfl) hf

set_option maxHeartbeats 4000000 in
set_option maxRecDepth 100000 in
theorem w_X6_stepsTo_40 {M : zM} {D : va_G} {cy : Nat → ClassId} {ad0 K0 : Nat → Nat} {n0 : Nat} {r' : Nat × zS} (Z : RZAr M D cy ad0 n0 K0 r'.1 r'.2) (hC : M.2.2.2.1.cells = r'.2.2.1 ∧ M.2.2.2.1.slots = r'.2.2.2.1) (nn : Nat) : ∀ (y3 : Nat) (x0 : Int64) (x4 : Int32) (n c q : Nat) (K N : Nat → Nat) (G : zG) (V : zI) (L : zL) (ad : Nat → Nat) (ls : Array Slot) (X : RXA M D cy ad n c q K N G cX6_stepsTo 6 RX6 2 50) (ha : ∀ w, w < n0 → ad w = ad0 w) (hn0 : n0 ≤ n) (hk0 : ∀ w, w < n0 → K w = K0 w) (hy3 : y3 < n ∧ K y3 = 100) (hl : lv_has ls 6 [(0, .long x0), (3, .ref (ad y3)), (4, .int x4)]) (hf : zfix (b_X6_stepsTo_40) nn (y3, x0, x4, n, c, q, K, N, G, V, L) = some r'), RG (zMb M c q) (zC D cy ad n K N G) V L 40 ls [] := by
  induction nn with
  | zero => intro y3 x0 x4 n c q K N G V L ad ls X ha hn0 hk0 hy3 hl hf; cases hf
  | succ nn ih =>
  intro y3 x0 x4 n c q K N G V L ad ls X ha hn0 hk0 hy3 hl hf
  have hk40 : ∀ (y3 : Nat) (x0 : Int64) (x4 : Int32) (n c q : Nat) (K N : Nat → Nat) (G : zG) (V : zI) (L : zL) (ad : Nat → Nat) (ls : Array Slot) (X : RXA M D cy ad n c q K N G cX6_stepsTo 6 RX6 2 50) (ha : ∀ w, w < n0 → ad w = ad0 w) (hn0 : n0 ≤ n) (hk0 : ∀ w, w < n0 → K w = K0 w) (hy3 : y3 < n ∧ K y3 = 100) (hl : lv_has ls 6 [(0, .long x0), (3, .ref (ad y3)), (4, .int x4)]) (hf : zfix (b_X6_stepsTo_40) nn (y3, x0, x4, n, c, q, K, N, G, V, L) = some r'), RG (zMb M c q) (zC D cy ad n K N G) V L 40 ls [] := ih
  have hm40 : ∀ (y3 : Nat) (x0 : Int64) (x4 : Int32) (n c q : Nat) (K N : Nat → Nat) (G : zG) (V : zI) (L : zL) {r' : Nat × zS}, zfix (b_X6_stepsTo_40) nn (y3, x0, x4, n, c, q, K, N, G, V, L) = some r' → c ≤ r'.2.2.1 ∧ q ≤ r'.2.2.2.1 := m_X6_stepsTo_40 nn
  have hf : b_X6_stepsTo_40 (zfix (b_X6_stepsTo_40) nn) (y3, x0, x4, n, c, q, K, N, G, V, L) = some r' := hf
  generalize zfix (b_X6_stepsTo_40) nn = k40 at hk40 hm40 hf
  clear ih
  unfold b_X6_stepsTo_40 at hf
  refine z_iload X.1.1 dX6_stepsTo_40 (lv_at hl 2 rfl) ?_
  refine z_bipush (v := 6) X.1.1 dX6_stepsTo_42 (by decide) ?_
  refine z_icmp_ge (tgt := 89) X.1.1 dX6_stepsTo_44 (by decide) (fun c_ => ?_) (fun c_ => ?_)
  · have hf := (if_pos c_).symm.trans hf
    refine z_aload_n X.1.1 dX6_stepsTo_89 rfl (lv_at hl 1 rfl) ?_
    exact a_rret X Z ha hn0 hk0 hy3 hf dX6_stepsTo_90
  · have hf := (if_neg c_).symm.trans hf
    refine z_iconst (v := 0) X.1.1 dX6_stepsTo_47 (by decide) ?_
    refine z_istore (lv' := [(5, .int 0), (0, .long x0), (3, .ref (ad y3)), (4, .int x4)]) X.1.1 dX6_stepsTo_48 hl (by decide) rfl (fun ls hl => ?_)
    exact w_X6_stepsTo_50 Z hC hk40 hm40 FU y3 x0 x4 0 n c q K N G V L ad ls X ha hn0 hk0 hy3 (lv_sub hl [1, 2, 3, 0] rfl) hf

set_option maxHeartbeats 4000000 in
set_option maxRecDepth 100000 in
theorem w_X6_stepsTo_8 {M : zM} {D : va_G} {cy : Nat → ClassId} {ad0 K0 : Nat → Nat} {n0 : Nat} {r' : Nat × zS} (Z : RZAr M D cy ad0 n0 K0 r'.1 r'.2) (hC : M.2.2.2.1.cells = r'.2.2.1 ∧ M.2.2.2.1.slots = r'.2.2.2.1) (nn : Nat) : ∀ (y3 : Nat) (x0 : Int64) (x2 : Int32) (x4 : Int32) (n c q : Nat) (K N : Nat → Nat) (G : zG) (V : zI) (L : zL) (ad : Nat → Nat) (ls : Array Slot) (X : RXA M D cy ad n c q K N G cX6_stepsTo 6 RX6 2 50) (ha : ∀ w, w < n0 → ad w = ad0 w) (hn0 : n0 ≤ n) (hk0 : ∀ w, w < n0 → K w = K0 w) (hy3 : y3 < n ∧ K y3 = 100) (hl : lv_has ls 6 [(0, .long x0), (2, .int x2), (3, .ref (ad y3)), (4, .int x4)]) (hf : zfix (b_X6_stepsTo_8) nn (y3, x0, x2, x4, n, c, q, K, N, G, V, L) = some r'), RG (zMb M c q) (zC D cy ad n K N G) V L 8 ls [] := by
  induction nn with
  | zero => intro y3 x0 x2 x4 n c q K N G V L ad ls X ha hn0 hk0 hy3 hl hf; cases hf
  | succ nn ih =>
  intro y3 x0 x2 x4 n c q K N G V L ad ls X ha hn0 hk0 hy3 hl hf
  have hk8 : ∀ (y3 : Nat) (x0 : Int64) (x2 : Int32) (x4 : Int32) (n c q : Nat) (K N : Nat → Nat) (G : zG) (V : zI) (L : zL) (ad : Nat → Nat) (ls : Array Slot) (X : RXA M D cy ad n c q K N G cX6_stepsTo 6 RX6 2 50) (ha : ∀ w, w < n0 → ad w = ad0 w) (hn0 : n0 ≤ n) (hk0 : ∀ w, w < n0 → K w = K0 w) (hy3 : y3 < n ∧ K y3 = 100) (hl : lv_has ls 6 [(0, .long x0), (2, .int x2), (3, .ref (ad y3)), (4, .int x4)]) (hf : zfix (b_X6_stepsTo_8) nn (y3, x0, x2, x4, n, c, q, K, N, G, V, L) = some r'), RG (zMb M c q) (zC D cy ad n K N G) V L 8 ls [] := ih
  have hm8 : ∀ (y3 : Nat) (x0 : Int64) (x2 : Int32) (x4 : Int32) (n c q : Nat) (K N : Nat → Nat) (G : zG) (V : zI) (L : zL) {r' : Nat × zS}, zfix (b_X6_stepsTo_8) nn (y3, x0, x2, x4, n, c, q, K, N, G, V, L) = some r' → c ≤ r'.2.2.1 ∧ q ≤ r'.2.2.2.1 := m_X6_stepsTo_8 nn
  have hf : b_X6_stepsTo_8 (zfix (b_X6_stepsTo_8) nn) (y3, x0, x2, x4, n, c, q, K, N, G, V, L) = some r' := hf
  generalize zfix (b_X6_stepsTo_8) nn = k8 at hk8 hm8 hf
  clear ih
  unfold b_X6_stepsTo_8 at hf
  refine z_iload X.1.1 dX6_stepsTo_8 (lv_at hl 3 rfl) ?_
  refine z_bipush (v := 6) X.1.1 dX6_stepsTo_10 (by decide) ?_
  refine z_icmp_ge (tgt := 37) X.1.1 dX6_stepsTo_12 (by decide) (fun c_ => ?_) (fun c_ => ?_)
  · have hf := (if_pos c_).symm.trans hf
    refine z_iconst (v := 1) X.1.1 dX6_stepsTo_37 (by decide) ?_
    refine z_istore (lv' := [(4, .int 1), (0, .long x0), (2, .int x2), (3, .ref (ad y3))]) X.1.1 dX6_stepsTo_38 hl (by decide) rfl (fun ls hl => ?_)
    exact w_X6_stepsTo_40 Z hC FU y3 x0 1 n c q K N G V L ad ls X ha hn0 hk0 hy3 (lv_sub hl [1, 3, 0] rfl) hf
  · have hf := (if_neg c_).symm.trans hf
    refine z_aload_n X.1.1 dX6_stepsTo_15 rfl (lv_at hl 2 rfl) ?_
    refine z_iload X.1.1 dX6_stepsTo_16 (lv_at hl 3 rfl) ?_
    refine z_iload X.1.1 dX6_stepsTo_18 (lv_at hl 3 rfl) ?_
    refine z_iload_n X.1.1 dX6_stepsTo_20 rfl (lv_at hl 1 rfl) ?_
    refine z_icmp_ne (tgt := 28) X.1.1 dX6_stepsTo_21 (by decide) (fun c_ => ?_) (fun c_ => ?_)
    · have hf := (if_neg c_).symm.trans hf
      refine z_bipush (v := 99) X.1.1 dX6_stepsTo_28 (by decide) ?_
      obtain ⟨hb1, hf⟩ := z_ite hf
      refine c_iast X.1 hy3 hb1 dX6_stepsTo_30 ?_
      refine z_iinc (v := x4 + 1) (k0 := 3) (lv' := [(4, .int (x4 + 1)), (0, .long x0), (2, .int x2), (3, .ref (ad y3))]) X.1.1 dX6_stepsTo_31 hl rfl rfl (by decide) rfl (fun ls hl => ?_)
      refine z_goto (tgt := 8) X.1.1 dX6_stepsTo_34 (by decide) ?_
      exact hk8 y3 x0 x2 (x4 + 1) n c q K N G (z_uI V y3 x4.toNatClampNeg 99) L ad ls X ha hn0 hk0 hy3 (lv_sub hl [1, 2, 3, 0] rfl) hf
    · have hf := (if_pos c_).symm.trans hf
      refine z_iconst (v := 0) X.1.1 dX6_stepsTo_24 (by decide) ?_
      refine z_goto (tgt := 30) X.1.1 dX6_stepsTo_25 (by decide) ?_
      obtain ⟨hb2, hf⟩ := z_ite hf
      refine c_iast X.1 hy3 hb2 dX6_stepsTo_30 ?_
      refine z_iinc (v := x4 + 1) (k0 := 3) (lv' := [(4, .int (x4 + 1)), (0, .long x0), (2, .int x2), (3, .ref (ad y3))]) X.1.1 dX6_stepsTo_31 hl rfl rfl (by decide) rfl (fun ls hl => ?_)
      refine z_goto (tgt := 8) X.1.1 dX6_stepsTo_34 (by decide) ?_
      exact hk8 y3 x0 x2 (x4 + 1) n c q K N G (z_uI V y3 x4.toNatClampNeg 0) L ad ls X ha hn0 hk0 hy3 (lv_sub hl [1, 2, 3, 0] rfl) hf

set_option maxHeartbeats 4000000 in
set_option maxRecDepth 100000 in
theorem w_X6_stepsTo_4 {M : zM} {D : va_G} {cy : Nat → ClassId} {ad0 K0 : Nat → Nat} {n0 : Nat} {r' : Nat × zS} (Z : RZAr M D cy ad0 n0 K0 r'.1 r'.2) (hC : M.2.2.2.1.cells = r'.2.2.1 ∧ M.2.2.2.1.slots = r'.2.2.2.1) (t0 : Nat) (x0 : Int64) (x2 : Int32) (n c q : Nat) (K N : Nat → Nat) (G : zG) (V : zI) (L : zL) (ad : Nat → Nat) (ls : Array Slot) (X : RXA M D cy ad n c q K N G cX6_stepsTo 6 RX6 2 50) (ha : ∀ w, w < n0 → ad w = ad0 w) (hn0 : n0 ≤ n) (hk0 : ∀ w, w < n0 → K w = K0 w) (ht0 : t0 < n ∧ K t0 = 100) (hl : lv_has ls 6 [(0, .long x0), (2, .int x2)]) (hf : f_X6_stepsTo_4 t0 x0 x2 n c q K N G V L = some r') : RG (zMb M c q) (zC D cy ad n K N G) V L 4 ls [.ref (ad t0)] := by
  unfold f_X6_stepsTo_4 at hf
  refine c_astore_n (lv' := [(3, .ref (ad t0)), (0, .long x0), (2, .int x2)]) X.1 dX6_stepsTo_4 rfl hl (by decide) rfl (fun ls hl => ?_)
  refine z_iconst (v := 0) X.1.1 dX6_stepsTo_5 (by decide) ?_
  refine z_istore (lv' := [(4, .int 0), (3, .ref (ad t0)), (0, .long x0), (2, .int x2)]) X.1.1 dX6_stepsTo_6 hl (by decide) rfl (fun ls hl => ?_)
  exact w_X6_stepsTo_8 Z hC FU t0 x0 x2 0 n c q K N G V L ad ls X ha hn0 hk0 ht0 (lv_sub hl [2, 3, 1, 0] rfl) hf

set_option maxHeartbeats 4000000 in
set_option maxRecDepth 100000 in
theorem w_X6_stepsTo {M : zM} {D : va_G} {cy : Nat → ClassId} {ad0 K0 : Nat → Nat} {n0 : Nat} {r' : Nat × zS} (Z : RZAr M D cy ad0 n0 K0 r'.1 r'.2) (hC : M.2.2.2.1.cells = r'.2.2.1 ∧ M.2.2.2.1.slots = r'.2.2.2.1) (x0 : Int64) (x2 : Int32) (n c q : Nat) (K N : Nat → Nat) (G : zG) (V : zI) (L : zL) (ad : Nat → Nat) (ls : Array Slot) (X : RXA M D cy ad n c q K N G cX6_stepsTo 6 RX6 2 50) (ha : ∀ w, w < n0 → ad w = ad0 w) (hn0 : n0 ≤ n) (hk0 : ∀ w, w < n0 → K w = K0 w) (hl : lv_has ls 6 [(0, .long x0), (2, .int x2)]) (hf : g_X6_stepsTo x0 x2 n c q K N G V L = some r') : RG (zMb M c q) (zC D cy ad n K N G) V L 0 ls [] := by
  unfold g_X6_stepsTo at hf
  refine z_bipush (v := 6) X.1.1 dX6_stepsTo_0 (by decide) ?_
  obtain ⟨hb1, hf⟩ := z_ite hf
  have hm := m_X6_stepsTo_4 n x0 x2 (n + 1) (c + 1) (q + (6 : Int32).toNatClampNeg) (kU K n 100) (kU N n (6 : Int32).toNatClampNeg) (kU G n zn0) (kU V n (fun _ => 0)) (kU L n (fun _ => 0)) hf
  refine a_newi X hb1 ca_100 ⟨by rw [hC.1]; exact hm.1, by rw [hC.2]; exact hm.2⟩ dX6_stepsTo_2 (fun ad' hag X => ?_)
  exact w_X6_stepsTo_4 Z hC n x0 x2 (n + 1) (c + 1) (q + (6 : Int32).toNatClampNeg) (kU K n 100) (kU N n (6 : Int32).toNatClampNeg) (kU G n zn0) (kU V n (fun _ => 0)) (kU L n (fun _ => 0)) ad' ls X (zag_up ha hn0 hag) (by omega) (zag_up hk0 hn0 (fun w h => kU_ne (by omega))) zh_new (lv_sub hl [0, 1] rfl) hf

theorem c_X6_stepsTo (D : va_G) (cy : Nat → ClassId) (ad : Nat → Nat) {n : Nat} {K N : Nat → Nat} {G : zG} (hWF : zWF n K G) {x0 : Int64} {x2 : Int32} {V : zI} {L : zL} {r' : Nat × zS} (hf : f_X6_stepsTo x0 x2 n K N G V L = some r') : RAr D cy ad n K N G yX6_stepsTo cX6_stepsTo 6 2 50 [.long x0, .int x2] V L r'.1 r'.2 :=
  RAr.of (by decide) hWF (Nat.le_of_ble_eq_true rfl) (fun M X Z hC hnm ls hl => w_X6_stepsTo Z hC x0 x2 n 0 0 K N G V L ad ls X (fun _ _ => rfl) (Nat.le_refl _) (fun _ _ => rfl) hl hf)
def b_X6_shortestRing_40 (k40 : Nat × Nat × Int64 × Int32 × Int32 × Int32 × zS → Option (Int32 × zS)) : Nat × Nat × Int64 × Int32 × Int32 × Int32 × zS → Option (Int32 × zS) := fun ⟨y3, y4, x0, x5, x6, x7, n, c, q, K, N, G, V, L⟩ =>
  (if x5 ≤ x7 then some (x5, n, c, q, K, N, G, V, L) else (if x6 = (-1) then some (x5, n, c, q, K, N, G, V, L) else if inB x7 (N y3) then (f_X6_firstWith N G y4 x0 x6 ((x5 - 1) - x7) (z_uI V y3 x7.toNatClampNeg x6) L).bind fun r2 => k40 (y3, y4, x0, x5, r2, (x7 + 1), n, c, q, K, N, G, z_uI V y3 x7.toNatClampNeg x6, L) else none))
def f_X6_shortestRing_5 (y3 : Nat) (t0 : Nat) (x0 : Int64) (x2 : Int32) (n c q : Nat) (K N : Nat → Nat) (G : zG) (V : zI) (L : zL) : Option (Int32 × zS) :=
  (f_X6_nearest N G t0 x0 x2 V L).bind fun r1 => (if 6 < ((1 : Int32) + r1) then some (0, n, c, q, K, N, G, V, L) else (if ((1 : Int32) + r1) ≤ (Int32.ofNat (N y3)) then zfix (b_X6_shortestRing_40) FU (y3, t0, x0, ((1 : Int32) + r1), x2, 0, n, c, q, K, N, G, V, L) else some (0, n, c, q, K, N, G, V, L)))
def g_X6_shortestRing (y3 : Nat) (x0 : Int64) (x2 : Int32) (n c q : Nat) (K N : Nat → Nat) (G : zG) (V : zI) (L : zL) : Option (Int32 × zS) :=
  (f_X6_stepsTo x0 x2 n K N G V L).bind fun r1 => f_X6_shortestRing_5 y3 r1.1 x0 x2 r1.2.1 (c + r1.2.2.1) (q + r1.2.2.2.1) r1.2.2.2.2.1 r1.2.2.2.2.2.1 r1.2.2.2.2.2.2.1 r1.2.2.2.2.2.2.2.1 r1.2.2.2.2.2.2.2.2
def f_X6_shortestRing (y3 : Nat) (x0 : Int64) (x2 : Int32) (n : Nat) (K N : Nat → Nat) (G : zG) (V : zI) (L : zL) : Option (Int32 × zS) := g_X6_shortestRing y3 x0 x2 n 0 0 K N G V L
set_option maxHeartbeats 4000000 in
set_option maxRecDepth 100000 in
theorem m_X6_shortestRing_40 (nn : Nat) : ∀ (y3 : Nat) (y4 : Nat) (x0 : Int64) (x5 : Int32) (x6 : Int32) (x7 : Int32) (n c q : Nat) (K N : Nat → Nat) (G : zG) (V : zI) (L : zL) {r' : Int32 × zS}, zfix (b_X6_shortestRing_40) nn (y3, y4, x0, x5, x6, x7, n, c, q, K, N, G, V, L) = some r' → c ≤ r'.2.2.1 ∧ q ≤ r'.2.2.2.1 := by
  induction nn with
  | zero => intro y3 y4 x0 x5 x6 x7 n c q K N G V L r' hf; cases hf
  | succ nn ih =>
  intro y3 y4 x0 x5 x6 x7 n c q K N G V L r' hf
  have hm40 : ∀ (y3 : Nat) (y4 : Nat) (x0 : Int64) (x5 : Int32) (x6 : Int32) (x7 : Int32) (n c q : Nat) (K N : Nat → Nat) (G : zG) (V : zI) (L : zL) {r' : Int32 × zS}, zfix (b_X6_shortestRing_40) nn (y3, y4, x0, x5, x6, x7, n, c, q, K, N, G, V, L) = some r' → c ≤ r'.2.2.1 ∧ q ≤ r'.2.2.2.1 := ih
  have hf : b_X6_shortestRing_40 (zfix (b_X6_shortestRing_40) nn) (y3, y4, x0, x5, x6, x7, n, c, q, K, N, G, V, L) = some r' := hf
  generalize zfix (b_X6_shortestRing_40) nn = k40 at hm40 hf
  clear ih
  unfold b_X6_shortestRing_40 at hf
  rcases z_iteE hf with hf | hf
  ·
    cases hf
    exact ⟨Nat.le_refl _, Nat.le_refl _⟩
  ·
    rcases z_iteE hf with hf | hf
    ·
      cases hf
      exact ⟨Nat.le_refl _, Nat.le_refl _⟩
    ·
      obtain ⟨hb1, hf⟩ := z_ite hf
      obtain ⟨r2, hc2, hf⟩ := z_bind hf
      exact hm40 y3 y4 x0 x5 r2 (x7 + 1) n c q K N G (z_uI V y3 x7.toNatClampNeg x6) L hf

set_option maxHeartbeats 4000000 in
set_option maxRecDepth 100000 in
theorem m_X6_shortestRing_5 (y3 : Nat) (t0 : Nat) (x0 : Int64) (x2 : Int32) (n c q : Nat) (K N : Nat → Nat) (G : zG) (V : zI) (L : zL) {r' : Int32 × zS} (hf : f_X6_shortestRing_5 y3 t0 x0 x2 n c q K N G V L = some r') : c ≤ r'.2.2.1 ∧ q ≤ r'.2.2.2.1 := by
  unfold f_X6_shortestRing_5 at hf
  obtain ⟨r1, hc1, hf⟩ := z_bind hf
  rcases z_iteE hf with hf | hf
  ·
    cases hf
    exact ⟨Nat.le_refl _, Nat.le_refl _⟩
  ·
    rcases z_iteE hf with hf | hf
    ·
      exact m_X6_shortestRing_40 FU y3 t0 x0 ((1 : Int32) + r1) x2 0 n c q K N G V L hf
    ·
      cases hf
      exact ⟨Nat.le_refl _, Nat.le_refl _⟩

set_option maxHeartbeats 4000000 in
set_option maxRecDepth 100000 in
theorem w_X6_shortestRing_40 {M : zM} {D : va_G} {cy : Nat → ClassId} {ad0 K0 : Nat → Nat} {n0 : Nat} {r' : Int32 × zS} (Z : RZAi M D cy ad0 n0 K0 .int r'.1 r'.2) (hC : M.2.2.2.1.cells = r'.2.2.1 ∧ M.2.2.2.1.slots = r'.2.2.2.1) (nn : Nat) : ∀ (y3 : Nat) (y4 : Nat) (x0 : Int64) (x5 : Int32) (x6 : Int32) (x7 : Int32) (n c q : Nat) (K N : Nat → Nat) (G : zG) (V : zI) (L : zL) (ad : Nat → Nat) (ls : Array Slot) (X : RXA M D cy ad n c q K N G cX6_shortestRing 8 RX6 3 75) (ha : ∀ w, w < n0 → ad w = ad0 w) (hn0 : n0 ≤ n) (hk0 : ∀ w, w < n0 → K w = K0 w) (hy3 : y3 < n ∧ K y3 = 100) (hy4 : y4 < n ∧ K y4 = 100) (hl : lv_has ls 8 [(0, .long x0), (3, .ref (ad y3)), (4, .ref (ad y4)), (5, .int x5), (6, .int x6), (7, .int x7)]) (hf : zfix (b_X6_shortestRing_40) nn (y3, y4, x0, x5, x6, x7, n, c, q, K, N, G, V, L) = some r'), RG (zMb M c q) (zC D cy ad n K N G) V L 40 ls [] := by
  induction nn with
  | zero => intro y3 y4 x0 x5 x6 x7 n c q K N G V L ad ls X ha hn0 hk0 hy3 hy4 hl hf; cases hf
  | succ nn ih =>
  intro y3 y4 x0 x5 x6 x7 n c q K N G V L ad ls X ha hn0 hk0 hy3 hy4 hl hf
  have hk40 : ∀ (y3 : Nat) (y4 : Nat) (x0 : Int64) (x5 : Int32) (x6 : Int32) (x7 : Int32) (n c q : Nat) (K N : Nat → Nat) (G : zG) (V : zI) (L : zL) (ad : Nat → Nat) (ls : Array Slot) (X : RXA M D cy ad n c q K N G cX6_shortestRing 8 RX6 3 75) (ha : ∀ w, w < n0 → ad w = ad0 w) (hn0 : n0 ≤ n) (hk0 : ∀ w, w < n0 → K w = K0 w) (hy3 : y3 < n ∧ K y3 = 100) (hy4 : y4 < n ∧ K y4 = 100) (hl : lv_has ls 8 [(0, .long x0), (3, .ref (ad y3)), (4, .ref (ad y4)), (5, .int x5), (6, .int x6), (7, .int x7)]) (hf : zfix (b_X6_shortestRing_40) nn (y3, y4, x0, x5, x6, x7, n, c, q, K, N, G, V, L) = some r'), RG (zMb M c q) (zC D cy ad n K N G) V L 40 ls [] := ih
  have hm40 : ∀ (y3 : Nat) (y4 : Nat) (x0 : Int64) (x5 : Int32) (x6 : Int32) (x7 : Int32) (n c q : Nat) (K N : Nat → Nat) (G : zG) (V : zI) (L : zL) {r' : Int32 × zS}, zfix (b_X6_shortestRing_40) nn (y3, y4, x0, x5, x6, x7, n, c, q, K, N, G, V, L) = some r' → c ≤ r'.2.2.1 ∧ q ≤ r'.2.2.2.1 := m_X6_shortestRing_40 nn
  have hf : b_X6_shortestRing_40 (zfix (b_X6_shortestRing_40) nn) (y3, y4, x0, x5, x6, x7, n, c, q, K, N, G, V, L) = some r' := hf
  generalize zfix (b_X6_shortestRing_40) nn = k40 at hk40 hm40 hf
  clear ih
  unfold b_X6_shortestRing_40 at hf
  refine z_iload X.1.1 dX6_shortestRing_40 (lv_at hl 5 rfl) ?_
  refine z_iload X.1.1 dX6_shortestRing_42 (lv_at hl 3 rfl) ?_
  refine z_icmp_ge (tgt := 82) X.1.1 dX6_shortestRing_44 (by decide) (fun c_ => ?_) (fun c_ => ?_)
  · have hf := (if_pos c_).symm.trans hf
    refine z_iload X.1.1 dX6_shortestRing_82 (lv_at hl 3 rfl) ?_
    exact a_iret X Z ha hn0 hk0 hf rfl dX6_shortestRing_84
  · have hf := (if_neg c_).symm.trans hf
    refine z_iload X.1.1 dX6_shortestRing_47 (lv_at hl 4 rfl) ?_
    refine z_iconst (v := -1) X.1.1 dX6_shortestRing_49 (by decide) ?_
    refine z_icmp_eq (tgt := 82) X.1.1 dX6_shortestRing_50 (by decide) (fun c_ => ?_) (fun c_ => ?_)
    · have hf := (if_pos c_).symm.trans hf
      refine z_iload X.1.1 dX6_shortestRing_82 (lv_at hl 3 rfl) ?_
      exact a_iret X Z ha hn0 hk0 hf rfl dX6_shortestRing_84
    · have hf := (if_neg c_).symm.trans hf
      refine z_aload_n X.1.1 dX6_shortestRing_53 rfl (lv_at hl 1 rfl) ?_
      refine z_iload X.1.1 dX6_shortestRing_54 (lv_at hl 5 rfl) ?_
      refine z_iload X.1.1 dX6_shortestRing_56 (lv_at hl 4 rfl) ?_
      obtain ⟨hb1, hf⟩ := z_ite hf
      refine c_iast X.1 hy3 hb1 dX6_shortestRing_58 ?_
      refine z_lload_n X.1.1 dX6_shortestRing_59 rfl (lv_at hl 0 rfl) ?_
      refine z_iload X.1.1 dX6_shortestRing_60 (lv_at hl 4 rfl) ?_
      refine z_aload X.1.1 dX6_shortestRing_62 (lv_at hl 2 rfl) ?_
      refine z_iload X.1.1 dX6_shortestRing_64 (lv_at hl 3 rfl) ?_
      refine z_iconst (v := 1) X.1.1 dX6_shortestRing_66 (by decide) ?_
      refine z_isub X.1.1 dX6_shortestRing_67 ?_
      refine z_iload X.1.1 dX6_shortestRing_68 (lv_at hl 5 rfl) ?_
      refine z_isub X.1.1 dX6_shortestRing_70 ?_
      obtain ⟨r2, hc2, hf⟩ := z_bind hf
      refine c_callSi [.long x0, .int x6, .ref (ad y4), .int ((x5 - 1) - x7)] X.1 hl.1 (c_X6_firstWith D cy ad X.1.2.2 hy4 hc2) cm_X6_37 cw_X6_firstWith rfl cq_X6_firstWith ⟨by decide, by decide⟩ (Nat.le_of_ble_eq_true rfl) rfl dX6_shortestRing_71 ?_
      refine z_istore (lv' := [(6, .int r2), (0, .long x0), (3, .ref (ad y3)), (4, .ref (ad y4)), (5, .int x5), (7, .int x7)]) X.1.1 dX6_shortestRing_74 hl (by decide) rfl (fun ls hl => ?_)
      refine z_iinc (v := x7 + 1) (k0 := 5) (lv' := [(7, .int (x7 + 1)), (6, .int r2), (0, .long x0), (3, .ref (ad y3)), (4, .ref (ad y4)), (5, .int x5)]) X.1.1 dX6_shortestRing_76 hl rfl rfl (by decide) rfl (fun ls hl => ?_)
      refine z_goto (tgt := 40) X.1.1 dX6_shortestRing_79 (by decide) ?_
      exact hk40 y3 y4 x0 x5 r2 (x7 + 1) n c q K N G (z_uI V y3 x7.toNatClampNeg x6) L ad ls X ha hn0 hk0 hy3 hy4 (lv_sub hl [2, 3, 4, 5, 1, 0] rfl) hf

set_option maxHeartbeats 4000000 in
set_option maxRecDepth 100000 in
theorem w_X6_shortestRing_5 {M : zM} {D : va_G} {cy : Nat → ClassId} {ad0 K0 : Nat → Nat} {n0 : Nat} {r' : Int32 × zS} (Z : RZAi M D cy ad0 n0 K0 .int r'.1 r'.2) (hC : M.2.2.2.1.cells = r'.2.2.1 ∧ M.2.2.2.1.slots = r'.2.2.2.1) (y3 : Nat) (t0 : Nat) (x0 : Int64) (x2 : Int32) (n c q : Nat) (K N : Nat → Nat) (G : zG) (V : zI) (L : zL) (ad : Nat → Nat) (ls : Array Slot) (X : RXA M D cy ad n c q K N G cX6_shortestRing 8 RX6 3 75) (ha : ∀ w, w < n0 → ad w = ad0 w) (hn0 : n0 ≤ n) (hk0 : ∀ w, w < n0 → K w = K0 w) (hy3 : y3 < n ∧ K y3 = 100) (ht0 : t0 < n ∧ K t0 = 100) (hl : lv_has ls 8 [(0, .long x0), (2, .int x2), (3, .ref (ad y3))]) (hf : f_X6_shortestRing_5 y3 t0 x0 x2 n c q K N G V L = some r') : RG (zMb M c q) (zC D cy ad n K N G) V L 5 ls [.ref (ad t0)] := by
  unfold f_X6_shortestRing_5 at hf
  refine c_astore (lv' := [(4, .ref (ad t0)), (0, .long x0), (2, .int x2), (3, .ref (ad y3))]) X.1 dX6_shortestRing_5 hl (by decide) rfl (fun ls hl => ?_)
  refine z_iconst (v := 1) X.1.1 dX6_shortestRing_7 (by decide) ?_
  refine z_lload_n X.1.1 dX6_shortestRing_8 rfl (lv_at hl 1 rfl) ?_
  refine z_iload_n X.1.1 dX6_shortestRing_9 rfl (lv_at hl 2 rfl) ?_
  refine z_aload X.1.1 dX6_shortestRing_10 (lv_at hl 0 rfl) ?_
  obtain ⟨r1, hc1, hf⟩ := z_bind hf
  refine c_callSi [.long x0, .int x2, .ref (ad t0)] X.1 hl.1 (c_X6_nearest D cy ad X.1.2.2 ht0 hc1) cm_X6_33 cw_X6_nearest rfl cq_X6_nearest ⟨by decide, by decide⟩ (Nat.le_of_ble_eq_true rfl) rfl dX6_shortestRing_12 ?_
  refine z_iadd X.1.1 dX6_shortestRing_15 ?_
  refine z_istore (lv' := [(5, .int ((1 : Int32) + r1)), (4, .ref (ad t0)), (0, .long x0), (2, .int x2), (3, .ref (ad y3))]) X.1.1 dX6_shortestRing_16 hl (by decide) rfl (fun ls hl => ?_)
  refine z_iload X.1.1 dX6_shortestRing_18 (lv_at hl 0 rfl) ?_
  refine z_bipush (v := 6) X.1.1 dX6_shortestRing_20 (by decide) ?_
  refine z_icmp_gt (tgt := 32) X.1.1 dX6_shortestRing_22 (by decide) (fun c_ => ?_) (fun c_ => ?_)
  · have hf := (if_pos c_).symm.trans hf
    refine z_iconst (v := 0) X.1.1 dX6_shortestRing_32 (by decide) ?_
    exact a_iret X Z ha hn0 hk0 hf rfl dX6_shortestRing_33
  · have hf := (if_neg c_).symm.trans hf
    refine z_iload X.1.1 dX6_shortestRing_25 (lv_at hl 0 rfl) ?_
    refine z_aload_n X.1.1 dX6_shortestRing_27 rfl (lv_at hl 4 rfl) ?_
    refine c_alen100 X.1 hy3 dX6_shortestRing_28 ?_
    refine z_icmp_le (tgt := 34) X.1.1 dX6_shortestRing_29 (by decide) (fun c_ => ?_) (fun c_ => ?_)
    · have hf := (if_pos c_).symm.trans hf
      refine z_iload_n X.1.1 dX6_shortestRing_34 rfl (lv_at hl 3 rfl) ?_
      refine z_istore (lv' := [(6, .int x2), (5, .int ((1 : Int32) + r1)), (4, .ref (ad t0)), (0, .long x0), (2, .int x2), (3, .ref (ad y3))]) X.1.1 dX6_shortestRing_35 hl (by decide) rfl (fun ls hl => ?_)
      refine z_iconst (v := 0) X.1.1 dX6_shortestRing_37 (by decide) ?_
      refine z_istore (lv' := [(7, .int 0), (6, .int x2), (5, .int ((1 : Int32) + r1)), (4, .ref (ad t0)), (0, .long x0), (2, .int x2), (3, .ref (ad y3))]) X.1.1 dX6_shortestRing_38 hl (by decide) rfl (fun ls hl => ?_)
      exact w_X6_shortestRing_40 Z hC FU y3 t0 x0 ((1 : Int32) + r1) x2 0 n c q K N G V L ad ls X ha hn0 hk0 hy3 ht0 (lv_sub hl [4, 6, 3, 2, 1, 0] rfl) hf
    · have hf := (if_neg c_).symm.trans hf
      refine z_iconst (v := 0) X.1.1 dX6_shortestRing_32 (by decide) ?_
      exact a_iret X Z ha hn0 hk0 hf rfl dX6_shortestRing_33

set_option maxHeartbeats 4000000 in
set_option maxRecDepth 100000 in
theorem w_X6_shortestRing {M : zM} {D : va_G} {cy : Nat → ClassId} {ad0 K0 : Nat → Nat} {n0 : Nat} {r' : Int32 × zS} (Z : RZAi M D cy ad0 n0 K0 .int r'.1 r'.2) (hC : M.2.2.2.1.cells = r'.2.2.1 ∧ M.2.2.2.1.slots = r'.2.2.2.1) (y3 : Nat) (x0 : Int64) (x2 : Int32) (n c q : Nat) (K N : Nat → Nat) (G : zG) (V : zI) (L : zL) (ad : Nat → Nat) (ls : Array Slot) (X : RXA M D cy ad n c q K N G cX6_shortestRing 8 RX6 3 75) (ha : ∀ w, w < n0 → ad w = ad0 w) (hn0 : n0 ≤ n) (hk0 : ∀ w, w < n0 → K w = K0 w) (hy3 : y3 < n ∧ K y3 = 100) (hl : lv_has ls 8 [(0, .long x0), (2, .int x2), (3, .ref (ad y3))]) (hf : g_X6_shortestRing y3 x0 x2 n c q K N G V L = some r') : RG (zMb M c q) (zC D cy ad n K N G) V L 0 ls [] := by
  unfold g_X6_shortestRing at hf
  refine z_lload_n X.1.1 dX6_shortestRing_0 rfl (lv_at hl 0 rfl) ?_
  refine z_iload_n X.1.1 dX6_shortestRing_1 rfl (lv_at hl 1 rfl) ?_
  obtain ⟨r1, hc1, hf⟩ := z_bind hf
  have hm := m_X6_shortestRing_5 y3 r1.1 x0 x2 r1.2.1 (c + r1.2.2.1) (q + r1.2.2.2.1) r1.2.2.2.2.1 r1.2.2.2.2.2.1 r1.2.2.2.2.2.2.1 r1.2.2.2.2.2.2.2.1 r1.2.2.2.2.2.2.2.2 hf
  refine a_callSr [.long x0, .int x2] X hl.1 (c_X6_stepsTo D cy ad X.1.2.2 hc1) cm_X6_29 cw_X6_stepsTo rfl cq_X6_stepsTo ⟨by decide, by decide⟩ (Nat.le_of_ble_eq_true rfl) rfl ⟨by rw [hC.1]; exact hm.1, by rw [hC.2]; exact hm.2⟩ dX6_shortestRing_2 (fun ad' hag hnn hKg hv X => ?_)
  rw [← hag y3 hy3.1] at hl
  exact w_X6_shortestRing_5 Z hC y3 r1.1 x0 x2 r1.2.1 (c + r1.2.2.1) (q + r1.2.2.2.1) r1.2.2.2.2.1 r1.2.2.2.2.2.1 r1.2.2.2.2.2.2.1 r1.2.2.2.2.2.2.2.1 r1.2.2.2.2.2.2.2.2 ad' ls X (zag_up ha hn0 hag) (by omega) (zag_up hk0 hn0 hKg) (zh_ext hy3 hnn hKg) hv (lv_sub hl [0, 1, 2] rfl) hf

theorem c_X6_shortestRing (D : va_G) (cy : Nat → ClassId) (ad : Nat → Nat) {n : Nat} {K N : Nat → Nat} {G : zG} (hWF : zWF n K G) {y3 : Nat} {x0 : Int64} {x2 : Int32} {V : zI} {L : zL} (hy3 : y3 < n ∧ K y3 = 100) {r' : Int32 × zS} (hf : f_X6_shortestRing y3 x0 x2 n K N G V L = some r') : RAi D cy ad n K N G yX6_shortestRing cX6_shortestRing 8 .int 3 75 [.long x0, .int x2, .ref (ad y3)] V L r'.1 r'.2 :=
  RAi.of (by decide) hWF (Nat.le_of_ble_eq_true rfl) (fun M X Z hC hnm ls hl => w_X6_shortestRing Z hC y3 x0 x2 n 0 0 K N G V L ad ls X (fun _ _ => rfl) (Nat.le_refl _) (fun _ _ => rfl) hy3 hl hf)
