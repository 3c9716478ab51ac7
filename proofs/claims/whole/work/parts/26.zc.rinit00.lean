def b_X11_isDefault_24 (N : Nat → Nat) (G : zG) (p0 : Nat) (p0_16 : Nat) (p0_18 : Nat) (p0_19 : Nat) (k24 : Int32 × Int32 × zI × zL → Option (zI × zL)) : Int32 × Int32 × zI × zL → Option (zI × zL) := fun ⟨x1, x2, V, L⟩ =>
  (if 36 ≤ x2 then some (V, L) else if inB (((36 : Int32) * x1) + x2) (N p0_16) then if inB (((36 : Int32) * x1) + x2) (N p0_18) then k24 (x1, (x2 + 1), z_uI (z_uI V p0_16 (((36 : Int32) * x1) + x2).toNatClampNeg 0) p0_18 (((36 : Int32) * x1) + x2).toNatClampNeg 0, L) else none else none)
def g_X11_isDefault (N : Nat → Nat) (G : zG) (p0 : Nat) (p0_16 : Nat) (p0_18 : Nat) (p0_19 : Nat) (x1 : Int32) (V : zI) (L : zL) : Option (zI × zL) :=
  if inB (((2 : Int32) * x1) + 0) (N p0_19) then if inB (((2 : Int32) * x1) + 1) (N p0_19) then zfix (b_X11_isDefault_24 N G p0 p0_16 p0_18 p0_19) FU (x1, 0, z_uI (z_uI V p0_19 (((2 : Int32) * x1) + 0).toNatClampNeg 1) p0_19 (((2 : Int32) * x1) + 1).toNatClampNeg 0, L) else none else none
def f_X11_isDefault (N : Nat → Nat) (G : zG) (p0 : Nat) (x1 : Int32) (V : zI) (L : zL) : Option (zI × zL) :=
  (G p0 16).bind fun p0_16 => (G p0 18).bind fun p0_18 => (G p0 19).bind fun p0_19 => g_X11_isDefault N G p0 p0_16 p0_18 p0_19 x1 V L
set_option maxHeartbeats 4000000 in
set_option maxRecDepth 100000 in
theorem w_X11_isDefault_24 {M : zM} {D : va_G} {cy : Nat → ClassId} {ad : Nat → Nat} {n : Nat} {K N : Nat → Nat} {G : zG} {r' : zI × zL} (X : RXc M D cy ad n K N G cX11_isDefault 3 RX11 0 0) (Z : RZv M (zC D cy ad n K N G) r'.1 r'.2) {p0 : Nat} (hp0 : p0 < n ∧ K p0 = 9) {p0_16 : Nat} (hp0_16 : p0_16 < n ∧ K p0_16 = 100) (ep0_16 : G p0 16 = some p0_16) {p0_18 : Nat} (hp0_18 : p0_18 < n ∧ K p0_18 = 100) (ep0_18 : G p0 18 = some p0_18) {p0_19 : Nat} (hp0_19 : p0_19 < n ∧ K p0_19 = 100) (ep0_19 : G p0 19 = some p0_19) (nn : Nat) : ∀ (x1 : Int32) (x2 : Int32) (V : zI) (L : zL) (ls : Array Slot) (hl : lv_has ls 3 [(0, .ref (ad p0)), (1, .int x1), (2, .int x2)]) (hf : zfix (b_X11_isDefault_24 N G p0 p0_16 p0_18 p0_19) nn (x1, x2, V, L) = some r'), RG M (zC D cy ad n K N G) V L 24 ls [] := by
  induction nn with
  | zero => intro x1 x2 V L ls hl hf; cases hf
  | succ nn ih =>
  intro x1 x2 V L ls hl hf
  have hk24 : ∀ (x1 : Int32) (x2 : Int32) (V : zI) (L : zL) (ls : Array Slot), lv_has ls 3 [(0, .ref (ad p0)), (1, .int x1), (2, .int x2)] → zfix (b_X11_isDefault_24 N G p0 p0_16 p0_18 p0_19) nn (x1, x2, V, L) = some r' → RG M (zC D cy ad n K N G) V L 24 ls [] := ih
  have hf : b_X11_isDefault_24 N G p0 p0_16 p0_18 p0_19 (zfix (b_X11_isDefault_24 N G p0 p0_16 p0_18 p0_19) nn) (x1, x2, V, L) = some r' := hf
  generalize zfix (b_X11_isDefault_24 N G p0 p0_16 p0_18 p0_19) nn = k24 at hk24 hf
  clear ih
  unfold b_X11_isDefault_24 at hf
  refine z_iload_n X.1 dX11_isDefault_24 rfl (lv_at hl 2 rfl) ?_
  refine z_bipush (v := 36) X.1 dX11_isDefault_25 (by decide) ?_
  refine z_icmp_ge (tgt := 60) X.1 dX11_isDefault_27 (by decide) (fun c_ => ?_) (fun c_ => ?_)
  · have hf := (if_pos c_).symm.trans hf
    exact c_vret X Z hf dX11_isDefault_60
  · have hf := (if_neg c_).symm.trans hf
    refine z_aload_n X.1 dX11_isDefault_30 rfl (lv_at hl 0 rfl) ?_
    refine c_geta X hp0 cf_X11_60 ep0_16 dX11_isDefault_31 ?_
    refine z_bipush (v := 36) X.1 dX11_isDefault_34 (by decide) ?_
    refine z_iload_n X.1 dX11_isDefault_36 rfl (lv_at hl 1 rfl) ?_
    refine z_imul X.1 dX11_isDefault_37 ?_
    refine z_iload_n X.1 dX11_isDefault_38 rfl (lv_at hl 2 rfl) ?_
    refine z_iadd X.1 dX11_isDefault_39 ?_
    refine z_iconst (v := 0) X.1 dX11_isDefault_40 (by decide) ?_
    obtain ⟨hb1, hf⟩ := z_ite hf
    refine c_iast X hp0_16 hb1 dX11_isDefault_41 ?_
    refine z_aload_n X.1 dX11_isDefault_42 rfl (lv_at hl 0 rfl) ?_
    refine c_geta X hp0 cf_X11_66 ep0_18 dX11_isDefault_43 ?_
    refine z_bipush (v := 36) X.1 dX11_isDefault_46 (by decide) ?_
    refine z_iload_n X.1 dX11_isDefault_48 rfl (lv_at hl 1 rfl) ?_
    refine z_imul X.1 dX11_isDefault_49 ?_
    refine z_iload_n X.1 dX11_isDefault_50 rfl (lv_at hl 2 rfl) ?_
    refine z_iadd X.1 dX11_isDefault_51 ?_
    refine z_iconst (v := 0) X.1 dX11_isDefault_52 (by decide) ?_
    obtain ⟨hb2, hf⟩ := z_ite hf
    refine c_iast X hp0_18 hb2 dX11_isDefault_53 ?_
    refine z_iinc (v := x2 + 1) (k0 := 2) (lv' := [(2, .int (x2 + 1)), (0, .ref (ad p0)), (1, .int x1)]) X.1 dX11_isDefault_54 hl rfl rfl (by decide) rfl (fun ls hl => ?_)
    refine z_goto (tgt := 24) X.1 dX11_isDefault_57 (by decide) ?_
    exact hk24 x1 (x2 + 1) (z_uI (z_uI V p0_16 (((36 : Int32) * x1) + x2).toNatClampNeg 0) p0_18 (((36 : Int32) * x1) + x2).toNatClampNeg 0) L ls (lv_sub hl [1, 2, 0] rfl) hf

set_option maxHeartbeats 4000000 in
set_option maxRecDepth 100000 in
theorem w_X11_isDefault {M : zM} {D : va_G} {cy : Nat → ClassId} {ad : Nat → Nat} {n : Nat} {K N : Nat → Nat} {G : zG} {r' : zI × zL} (X : RXc M D cy ad n K N G cX11_isDefault 3 RX11 0 0) (Z : RZv M (zC D cy ad n K N G) r'.1 r'.2) {p0 : Nat} (hp0 : p0 < n ∧ K p0 = 9) {p0_16 : Nat} (hp0_16 : p0_16 < n ∧ K p0_16 = 100) (ep0_16 : G p0 16 = some p0_16) {p0_18 : Nat} (hp0_18 : p0_18 < n ∧ K p0_18 = 100) (ep0_18 : G p0 18 = some p0_18) {p0_19 : Nat} (hp0_19 : p0_19 < n ∧ K p0_19 = 100) (ep0_19 : G p0 19 = some p0_19) (x1 : Int32) (V : zI) (L : zL) (ls : Array Slot) (hl : lv_has ls 3 [(0, .ref (ad p0)), (1, .int x1)]) (hf : g_X11_isDefault N G p0 p0_16 p0_18 p0_19 x1 V L = some r') : RG M (zC D cy ad n K N G) V L 0 ls [] := by
  unfold g_X11_isDefault at hf
  refine z_aload_n X.1 dX11_isDefault_0 rfl (lv_at hl 0 rfl) ?_
  refine c_geta X hp0 cf_X11_69 ep0_19 dX11_isDefault_1 ?_
  refine z_iconst (v := 2) X.1 dX11_isDefault_4 (by decide) ?_
  refine z_iload_n X.1 dX11_isDefault_5 rfl (lv_at hl 1 rfl) ?_
  refine z_imul X.1 dX11_isDefault_6 ?_
  refine z_iconst (v := 0) X.1 dX11_isDefault_7 (by decide) ?_
  refine z_iadd X.1 dX11_isDefault_8 ?_
  refine z_iconst (v := 1) X.1 dX11_isDefault_9 (by decide) ?_
  obtain ⟨hb1, hf⟩ := z_ite hf
  refine c_iast X hp0_19 hb1 dX11_isDefault_10 ?_
  refine z_aload_n X.1 dX11_isDefault_11 rfl (lv_at hl 0 rfl) ?_
  refine c_geta X hp0 cf_X11_69 ep0_19 dX11_isDefault_12 ?_
  refine z_iconst (v := 2) X.1 dX11_isDefault_15 (by decide) ?_
  refine z_iload_n X.1 dX11_isDefault_16 rfl (lv_at hl 1 rfl) ?_
  refine z_imul X.1 dX11_isDefault_17 ?_
  refine z_iconst (v := 1) X.1 dX11_isDefault_18 (by decide) ?_
  refine z_iadd X.1 dX11_isDefault_19 ?_
  refine z_iconst (v := 0) X.1 dX11_isDefault_20 (by decide) ?_
  obtain ⟨hb2, hf⟩ := z_ite hf
  refine c_iast X hp0_19 hb2 dX11_isDefault_21 ?_
  refine z_iconst (v := 0) X.1 dX11_isDefault_22 (by decide) ?_
  refine z_istore_n (lv' := [(2, .int 0), (0, .ref (ad p0)), (1, .int x1)]) X.1 dX11_isDefault_23 rfl hl (by decide) rfl (fun ls hl => ?_)
  exact w_X11_isDefault_24 X Z hp0 hp0_16 ep0_16 hp0_18 ep0_18 hp0_19 ep0_19 FU x1 0 (z_uI (z_uI V p0_19 (((2 : Int32) * x1) + 0).toNatClampNeg 1) p0_19 (((2 : Int32) * x1) + 1).toNatClampNeg 0) L ls (lv_sub hl [1, 2, 0] rfl) hf

theorem c_X11_isDefault (D : va_G) (cy : Nat → ClassId) (ad : Nat → Nat) {n : Nat} {K N : Nat → Nat} {G : zG} (hWF : zWF n K G) {p0 : Nat} {x1 : Int32} {V : zI} {L : zL} (hp0 : p0 < n ∧ K p0 = 9) {r' : zI × zL} (hf : f_X11_isDefault N G p0 x1 V L = some r') : RCv (zC D cy ad n K N G) yX11_isDefault cX11_isDefault 3 0 0 [.ref (ad p0), .int x1] V L r'.1 r'.2 := by
  unfold f_X11_isDefault at hf
  obtain ⟨p0_16, ep0_16, hf⟩ := z_bind hf
  have hp0_16 := hWF.get hp0 (k := 16) (c := 100) rfl ep0_16
  obtain ⟨p0_18, ep0_18, hf⟩ := z_bind hf
  have hp0_18 := hWF.get hp0 (k := 18) (c := 100) rfl ep0_18
  obtain ⟨p0_19, ep0_19, hf⟩ := z_bind hf
  have hp0_19 := hWF.get hp0 (k := 19) (c := 100) rfl ep0_19
  exact RCv.of (by decide) hWF (Nat.le_of_ble_eq_true rfl) (fun M X Z ls hl => w_X11_isDefault X Z hp0 hp0_16 ep0_16 hp0_18 ep0_18 hp0_19 ep0_19 x1 V L ls hl hf)
def b_X11_init_464 (k464 : Nat × Int32 × zS → Option (zS)) : Nat × Int32 × zS → Option (zS) := fun ⟨y0, x1, n, c, q, K, N, G, V, L⟩ =>
  (if 2 ≤ x1 then some (n, c, q, K, N, G, V, L) else (f_X11_isDefault N G y0 x1 V L).bind fun r1 => k464 (y0, (x1 + 1), n, c, q, K, N, G, r1.1, r1.2))
def b_X11_init_443 (k443 : Nat × Int32 × zS → Option (zS)) : Nat × Int32 × zS → Option (zS) := fun ⟨y0, x1, n, c, q, K, N, G, V, L⟩ =>
  (if 6 ≤ x1 then zfix (b_X11_init_464) FU (y0, 0, n, c, q, K, N, G, V, L) else (G y0 20).bind fun v1 => if inB x1 (N v1) then k443 (y0, (x1 + 1), n, c, q, K, N, G, z_uI V v1 x1.toNatClampNeg (-1), L) else none)
def f_X11_init_433 (y0 : Nat) (t0 : Nat) (t1 : Nat) (n c q : Nat) (K N : Nat → Nat) (G : zG) (V : zI) (L : zL) : Option (zS) :=
  zfix (b_X11_init_443) FU (y0, 0, n, c, q, K, N, gS G t0 63 (some t1), z_uI V y0 64 0, L)
def f_X11_init_424 (y0 : Nat) (t0 : Nat) (t1 : Nat) (n c q : Nat) (K N : Nat → Nat) (G : zG) (V : zI) (L : zL) : Option (zS) :=
  if (¬ (280 : Int32) < 0 ∧ (280 : Int32).toNatClampNeg ≤ 100000) then f_X11_init_433 y0 y0 n (n + 1) (c + 1) (q + (280 : Int32).toNatClampNeg) (kU K n 100) (kU N n (280 : Int32).toNatClampNeg) (kU (gS G t0 62 (some t1)) n zn0) (kU V n (fun _ => 0)) (kU L n (fun _ => 0)) else none
def f_X11_init_416 (y0 : Nat) (t0 : Nat) (t1 : Nat) (n c q : Nat) (K N : Nat → Nat) (G : zG) (V : zI) (L : zL) : Option (zS) :=
  if (¬ (16 : Int32) < 0 ∧ (16 : Int32).toNatClampNeg ≤ 100000) then f_X11_init_424 y0 y0 n (n + 1) (c + 1) (q + (16 : Int32).toNatClampNeg) (kU K n 100) (kU N n (16 : Int32).toNatClampNeg) (kU (gS G t0 61 (some t1)) n zn0) (kU V n (fun _ => 0)) (kU L n (fun _ => 0)) else none
def f_X11_init_403 (y0 : Nat) (t0 : Nat) (t1 : Nat) (n c q : Nat) (K N : Nat → Nat) (G : zG) (V : zI) (L : zL) : Option (zS) :=
  if (¬ (16 : Int32) < 0 ∧ (16 : Int32).toNatClampNeg ≤ 100000) then f_X11_init_416 y0 y0 n (n + 1) (c + 1) (q + (16 : Int32).toNatClampNeg) (kU K n 100) (kU N n (16 : Int32).toNatClampNeg) (kU (gS G t0 59 (some t1)) n zn0) (kU (z_uI V y0 60 0) n (fun _ => 0)) (kU L n (fun _ => 0)) else none
def f_X11_init_385 (y0 : Nat) (t0 : Nat) (t1 : Nat) (n c q : Nat) (K N : Nat → Nat) (G : zG) (V : zI) (L : zL) : Option (zS) :=
  if (¬ (6 : Int32) < 0 ∧ (6 : Int32).toNatClampNeg ≤ 100000) then f_X11_init_403 y0 y0 n (n + 1) (c + 1) (q + (6 : Int32).toNatClampNeg) (kU K n 100) (kU N n (6 : Int32).toNatClampNeg) (kU (gS G t0 56 (some t1)) n zn0) (kU (z_uI (z_uI V y0 57 (-1)) y0 58 (-1)) n (fun _ => 0)) (kU L n (fun _ => 0)) else none
def f_X11_init_378 (y0 : Nat) (t0 : Nat) (t1 : Nat) (n c q : Nat) (K N : Nat → Nat) (G : zG) (V : zI) (L : zL) : Option (zS) :=
  if (¬ (3 : Int32) < 0 ∧ (3 : Int32).toNatClampNeg ≤ 100000) then f_X11_init_385 y0 y0 n (n + 1) (c + 1) (q + (3 : Int32).toNatClampNeg) (kU K n 100) (kU N n (3 : Int32).toNatClampNeg) (kU (gS G t0 55 (some t1)) n zn0) (kU V n (fun _ => 0)) (kU L n (fun _ => 0)) else none
def f_X11_init_355 (y0 : Nat) (t0 : Nat) (t1 : Nat) (n c q : Nat) (K N : Nat → Nat) (G : zG) (V : zI) (L : zL) : Option (zS) :=
  if (¬ (36 : Int32) < 0 ∧ (36 : Int32).toNatClampNeg ≤ 100000) then f_X11_init_378 y0 y0 n (n + 1) (c + 1) (q + (36 : Int32).toNatClampNeg) (kU K n 102) (kU N n (36 : Int32).toNatClampNeg) (kU (gS G t0 51 (some t1)) n zn0) (kU (z_uI (z_uI V y0 52 0) y0 53 0) n (fun _ => 0)) (kU (z_uL L y0 54 0) n (fun _ => 0)) else none
def f_X11_init_347 (y0 : Nat) (t0 : Nat) (t1 : Nat) (n c q : Nat) (K N : Nat → Nat) (G : zG) (V : zI) (L : zL) : Option (zS) :=
  if (¬ (12 : Int32) < 0 ∧ (12 : Int32).toNatClampNeg ≤ 100000) then f_X11_init_355 y0 y0 n (n + 1) (c + 1) (q + (12 : Int32).toNatClampNeg) (kU K n 100) (kU N n (12 : Int32).toNatClampNeg) (kU (gS G t0 50 (some t1)) n zn0) (kU V n (fun _ => 0)) (kU L n (fun _ => 0)) else none
def f_X11_init_323 (y0 : Nat) (t0 : Nat) (t1 : Nat) (n c q : Nat) (K N : Nat → Nat) (G : zG) (V : zI) (L : zL) : Option (zS) :=
  if (¬ (500 : Int32) < 0 ∧ (500 : Int32).toNatClampNeg ≤ 100000) then f_X11_init_347 y0 y0 n (n + 1) (c + 1) (q + (500 : Int32).toNatClampNeg) (kU K n 103) (kU N n (500 : Int32).toNatClampNeg) (kU (gS G t0 46 (some t1)) n zn0) (kU (z_uI (z_uI V y0 47 0) y0 48 0) n (fun _ => 0)) (kU (z_uL L y0 49 1) n (fun _ => 0)) else none
def f_X11_init_314 (y0 : Nat) (t0 : Nat) (t1 : Nat) (n c q : Nat) (K N : Nat → Nat) (G : zG) (V : zI) (L : zL) : Option (zS) :=
  if (¬ (4400 : Int32) < 0 ∧ (4400 : Int32).toNatClampNeg ≤ 100000) then f_X11_init_323 y0 y0 n (n + 1) (c + 1) (q + (4400 : Int32).toNatClampNeg) (kU K n 100) (kU N n (4400 : Int32).toNatClampNeg) (kU (gS G t0 45 (some t1)) n zn0) (kU V n (fun _ => 0)) (kU L n (fun _ => 0)) else none
def f_X11_init_306 (y0 : Nat) (t0 : Nat) (t1 : Nat) (n c q : Nat) (K N : Nat → Nat) (G : zG) (V : zI) (L : zL) : Option (zS) :=
  if (¬ (22 : Int32) < 0 ∧ (22 : Int32).toNatClampNeg ≤ 100000) then f_X11_init_314 y0 y0 n (n + 1) (c + 1) (q + (22 : Int32).toNatClampNeg) (kU K n 100) (kU N n (22 : Int32).toNatClampNeg) (kU (gS G t0 44 (some t1)) n zn0) (kU V n (fun _ => 0)) (kU L n (fun _ => 0)) else none
def f_X11_init_297 (y0 : Nat) (t0 : Nat) (t1 : Nat) (n c q : Nat) (K N : Nat → Nat) (G : zG) (V : zI) (L : zL) : Option (zS) :=
  if (¬ (3960 : Int32) < 0 ∧ (3960 : Int32).toNatClampNeg ≤ 100000) then f_X11_init_306 y0 y0 n (n + 1) (c + 1) (q + (3960 : Int32).toNatClampNeg) (kU K n 100) (kU N n (3960 : Int32).toNatClampNeg) (kU (gS G t0 43 (some t1)) n zn0) (kU V n (fun _ => 0)) (kU L n (fun _ => 0)) else none
def f_X11_init_289 (y0 : Nat) (t0 : Nat) (t1 : Nat) (n c q : Nat) (K N : Nat → Nat) (G : zG) (V : zI) (L : zL) : Option (zS) :=
  if (¬ (22 : Int32) < 0 ∧ (22 : Int32).toNatClampNeg ≤ 100000) then f_X11_init_297 y0 y0 n (n + 1) (c + 1) (q + (22 : Int32).toNatClampNeg) (kU K n 100) (kU N n (22 : Int32).toNatClampNeg) (kU (gS G t0 42 (some t1)) n zn0) (kU V n (fun _ => 0)) (kU L n (fun _ => 0)) else none
def f_X11_init_280 (y0 : Nat) (t0 : Nat) (t1 : Nat) (n c q : Nat) (K N : Nat → Nat) (G : zG) (V : zI) (L : zL) : Option (zS) :=
  if (¬ (792 : Int32) < 0 ∧ (792 : Int32).toNatClampNeg ≤ 100000) then f_X11_init_289 y0 y0 n (n + 1) (c + 1) (q + (792 : Int32).toNatClampNeg) (kU K n 100) (kU N n (792 : Int32).toNatClampNeg) (kU (gS G t0 41 (some t1)) n zn0) (kU V n (fun _ => 0)) (kU L n (fun _ => 0)) else none
def f_X11_init_271 (y0 : Nat) (t0 : Nat) (t1 : Nat) (n c q : Nat) (K N : Nat → Nat) (G : zG) (V : zI) (L : zL) : Option (zS) :=
  if (¬ (792 : Int32) < 0 ∧ (792 : Int32).toNatClampNeg ≤ 100000) then f_X11_init_280 y0 y0 n (n + 1) (c + 1) (q + (792 : Int32).toNatClampNeg) (kU K n 100) (kU N n (792 : Int32).toNatClampNeg) (kU (gS G t0 40 (some t1)) n zn0) (kU V n (fun _ => 0)) (kU L n (fun _ => 0)) else none
def f_X11_init_262 (y0 : Nat) (t0 : Nat) (t1 : Nat) (n c q : Nat) (K N : Nat → Nat) (G : zG) (V : zI) (L : zL) : Option (zS) :=
  if (¬ (792 : Int32) < 0 ∧ (792 : Int32).toNatClampNeg ≤ 100000) then f_X11_init_271 y0 y0 n (n + 1) (c + 1) (q + (792 : Int32).toNatClampNeg) (kU K n 100) (kU N n (792 : Int32).toNatClampNeg) (kU (gS G t0 39 (some t1)) n zn0) (kU V n (fun _ => 0)) (kU L n (fun _ => 0)) else none
def f_X11_init_254 (y0 : Nat) (t0 : Nat) (t1 : Nat) (n c q : Nat) (K N : Nat → Nat) (G : zG) (V : zI) (L : zL) : Option (zS) :=
  if (¬ (22 : Int32) < 0 ∧ (22 : Int32).toNatClampNeg ≤ 100000) then f_X11_init_262 y0 y0 n (n + 1) (c + 1) (q + (22 : Int32).toNatClampNeg) (kU K n 100) (kU N n (22 : Int32).toNatClampNeg) (kU (gS G t0 38 (some t1)) n zn0) (kU V n (fun _ => 0)) (kU L n (fun _ => 0)) else none
def f_X11_init_236 (y0 : Nat) (t0 : Nat) (t1 : Nat) (n c q : Nat) (K N : Nat → Nat) (G : zG) (V : zI) (L : zL) : Option (zS) :=
  if (¬ (6 : Int32) < 0 ∧ (6 : Int32).toNatClampNeg ≤ 100000) then f_X11_init_254 y0 y0 n (n + 1) (c + 1) (q + (6 : Int32).toNatClampNeg) (kU K n 100) (kU N n (6 : Int32).toNatClampNeg) (kU (gS G t0 35 (some t1)) n zn0) (kU (z_uI (z_uI V y0 36 0) y0 37 0) n (fun _ => 0)) (kU L n (fun _ => 0)) else none
def f_X11_init_217 (y0 : Nat) (t0 : Nat) (t1 : Nat) (n c q : Nat) (K N : Nat → Nat) (G : zG) (V : zI) (L : zL) : Option (zS) :=
  if (¬ (500 : Int32) < 0 ∧ (500 : Int32).toNatClampNeg ≤ 100000) then f_X11_init_236 y0 y0 n (n + 1) (c + 1) (q + (500 : Int32).toNatClampNeg) (kU K n 100) (kU N n (500 : Int32).toNatClampNeg) (kU (gS G t0 32 (some t1)) n zn0) (kU (z_uI (z_uI V y0 33 0) y0 34 0) n (fun _ => 0)) (kU L n (fun _ => 0)) else none
def f_X11_init_209 (y0 : Nat) (t0 : Nat) (t1 : Nat) (n c q : Nat) (K N : Nat → Nat) (G : zG) (V : zI) (L : zL) : Option (zS) :=
  if (¬ (20 : Int32) < 0 ∧ (20 : Int32).toNatClampNeg ≤ 100000) then f_X11_init_217 y0 y0 n (n + 1) (c + 1) (q + (20 : Int32).toNatClampNeg) (kU K n 100) (kU N n (20 : Int32).toNatClampNeg) (kU (gS G t0 31 (some t1)) n zn0) (kU V n (fun _ => 0)) (kU L n (fun _ => 0)) else none
def f_X11_init_201 (y0 : Nat) (t0 : Nat) (t1 : Nat) (n c q : Nat) (K N : Nat → Nat) (G : zG) (V : zI) (L : zL) : Option (zS) :=
  if (¬ (20 : Int32) < 0 ∧ (20 : Int32).toNatClampNeg ≤ 100000) then f_X11_init_209 y0 y0 n (n + 1) (c + 1) (q + (20 : Int32).toNatClampNeg) (kU K n 100) (kU N n (20 : Int32).toNatClampNeg) (kU (gS G t0 30 (some t1)) n zn0) (kU V n (fun _ => 0)) (kU L n (fun _ => 0)) else none
def f_X11_init_193 (y0 : Nat) (t0 : Nat) (t1 : Nat) (n c q : Nat) (K N : Nat → Nat) (G : zG) (V : zI) (L : zL) : Option (zS) :=
  if (¬ (20 : Int32) < 0 ∧ (20 : Int32).toNatClampNeg ≤ 100000) then f_X11_init_201 y0 y0 n (n + 1) (c + 1) (q + (20 : Int32).toNatClampNeg) (kU K n 102) (kU N n (20 : Int32).toNatClampNeg) (kU (gS G t0 29 (some t1)) n zn0) (kU V n (fun _ => 0)) (kU L n (fun _ => 0)) else none
def f_X11_init_185 (y0 : Nat) (t0 : Nat) (t1 : Nat) (n c q : Nat) (K N : Nat → Nat) (G : zG) (V : zI) (L : zL) : Option (zS) :=
  if (¬ (20 : Int32) < 0 ∧ (20 : Int32).toNatClampNeg ≤ 100000) then f_X11_init_193 y0 y0 n (n + 1) (c + 1) (q + (20 : Int32).toNatClampNeg) (kU K n 100) (kU N n (20 : Int32).toNatClampNeg) (kU (gS G t0 28 (some t1)) n zn0) (kU V n (fun _ => 0)) (kU L n (fun _ => 0)) else none
def f_X11_init_162 (y0 : Nat) (t0 : Nat) (t1 : Nat) (n c q : Nat) (K N : Nat → Nat) (G : zG) (V : zI) (L : zL) : Option (zS) :=
  if (¬ (20 : Int32) < 0 ∧ (20 : Int32).toNatClampNeg ≤ 100000) then f_X11_init_185 y0 y0 n (n + 1) (c + 1) (q + (20 : Int32).toNatClampNeg) (kU K n 100) (kU N n (20 : Int32).toNatClampNeg) (kU (gS G t0 24 (some t1)) n zn0) (kU (z_uI (z_uI (z_uI V y0 25 0) y0 26 1) y0 27 0) n (fun _ => 0)) (kU L n (fun _ => 0)) else none
def f_X11_init_154 (y0 : Nat) (t0 : Nat) (t1 : Nat) (n c q : Nat) (K N : Nat → Nat) (G : zG) (V : zI) (L : zL) : Option (zS) :=
  if (¬ (12 : Int32) < 0 ∧ (12 : Int32).toNatClampNeg ≤ 100000) then f_X11_init_162 y0 y0 n (n + 1) (c + 1) (q + (12 : Int32).toNatClampNeg) (kU K n 103) (kU N n (12 : Int32).toNatClampNeg) (kU (gS G t0 23 (some t1)) n zn0) (kU V n (fun _ => 0)) (kU L n (fun _ => 0)) else none
def f_X11_init_145 (y0 : Nat) (t0 : Nat) (t1 : Nat) (n c q : Nat) (K N : Nat → Nat) (G : zG) (V : zI) (L : zL) : Option (zS) :=
  if (¬ (3200 : Int32) < 0 ∧ (3200 : Int32).toNatClampNeg ≤ 100000) then f_X11_init_154 y0 y0 n (n + 1) (c + 1) (q + (3200 : Int32).toNatClampNeg) (kU K n 100) (kU N n (3200 : Int32).toNatClampNeg) (kU (gS G t0 22 (some t1)) n zn0) (kU V n (fun _ => 0)) (kU L n (fun _ => 0)) else none
def f_X11_init_136 (y0 : Nat) (t0 : Nat) (t1 : Nat) (n c q : Nat) (K N : Nat → Nat) (G : zG) (V : zI) (L : zL) : Option (zS) :=
  if (¬ (3200 : Int32) < 0 ∧ (3200 : Int32).toNatClampNeg ≤ 100000) then f_X11_init_145 y0 y0 n (n + 1) (c + 1) (q + (3200 : Int32).toNatClampNeg) (kU K n 100) (kU N n (3200 : Int32).toNatClampNeg) (kU (gS G t0 21 (some t1)) n zn0) (kU V n (fun _ => 0)) (kU L n (fun _ => 0)) else none
def f_X11_init_128 (y0 : Nat) (t0 : Nat) (t1 : Nat) (n c q : Nat) (K N : Nat → Nat) (G : zG) (V : zI) (L : zL) : Option (zS) :=
  if (¬ (6 : Int32) < 0 ∧ (6 : Int32).toNatClampNeg ≤ 100000) then f_X11_init_136 y0 y0 n (n + 1) (c + 1) (q + (6 : Int32).toNatClampNeg) (kU K n 100) (kU N n (6 : Int32).toNatClampNeg) (kU (gS G t0 20 (some t1)) n zn0) (kU V n (fun _ => 0)) (kU L n (fun _ => 0)) else none
def f_X11_init_120 (y0 : Nat) (t0 : Nat) (t1 : Nat) (n c q : Nat) (K N : Nat → Nat) (G : zG) (V : zI) (L : zL) : Option (zS) :=
  if (¬ (6 : Int32) < 0 ∧ (6 : Int32).toNatClampNeg ≤ 100000) then f_X11_init_128 y0 y0 n (n + 1) (c + 1) (q + (6 : Int32).toNatClampNeg) (kU K n 100) (kU N n (6 : Int32).toNatClampNeg) (kU (gS G t0 19 (some t1)) n zn0) (kU V n (fun _ => 0)) (kU L n (fun _ => 0)) else none
def f_X11_init_113 (y0 : Nat) (t0 : Nat) (t1 : Nat) (n c q : Nat) (K N : Nat → Nat) (G : zG) (V : zI) (L : zL) : Option (zS) :=
  if (¬ (4 : Int32) < 0 ∧ (4 : Int32).toNatClampNeg ≤ 100000) then f_X11_init_120 y0 y0 n (n + 1) (c + 1) (q + (4 : Int32).toNatClampNeg) (kU K n 100) (kU N n (4 : Int32).toNatClampNeg) (kU (gS G t0 18 (some t1)) n zn0) (kU V n (fun _ => 0)) (kU L n (fun _ => 0)) else none
def f_X11_init_105 (y0 : Nat) (t0 : Nat) (t1 : Nat) (n c q : Nat) (K N : Nat → Nat) (G : zG) (V : zI) (L : zL) : Option (zS) :=
  if (¬ (72 : Int32) < 0 ∧ (72 : Int32).toNatClampNeg ≤ 100000) then f_X11_init_113 y0 y0 n (n + 1) (c + 1) (q + (72 : Int32).toNatClampNeg) (kU K n 100) (kU N n (72 : Int32).toNatClampNeg) (kU (gS G t0 17 (some t1)) n zn0) (kU V n (fun _ => 0)) (kU L n (fun _ => 0)) else none
def f_X11_init_97 (y0 : Nat) (t0 : Nat) (t1 : Nat) (n c q : Nat) (K N : Nat → Nat) (G : zG) (V : zI) (L : zL) : Option (zS) :=
  if (¬ (72 : Int32) < 0 ∧ (72 : Int32).toNatClampNeg ≤ 100000) then f_X11_init_105 y0 y0 n (n + 1) (c + 1) (q + (72 : Int32).toNatClampNeg) (kU K n 100) (kU N n (72 : Int32).toNatClampNeg) (kU (gS G t0 16 (some t1)) n zn0) (kU V n (fun _ => 0)) (kU L n (fun _ => 0)) else none
def f_X11_init_89 (y0 : Nat) (t0 : Nat) (t1 : Nat) (n c q : Nat) (K N : Nat → Nat) (G : zG) (V : zI) (L : zL) : Option (zS) :=
  if (¬ (72 : Int32) < 0 ∧ (72 : Int32).toNatClampNeg ≤ 100000) then f_X11_init_97 y0 y0 n (n + 1) (c + 1) (q + (72 : Int32).toNatClampNeg) (kU K n 100) (kU N n (72 : Int32).toNatClampNeg) (kU (gS G t0 15 (some t1)) n zn0) (kU V n (fun _ => 0)) (kU L n (fun _ => 0)) else none
def f_X11_init_82 (y0 : Nat) (t0 : Nat) (t1 : Nat) (n c q : Nat) (K N : Nat → Nat) (G : zG) (V : zI) (L : zL) : Option (zS) :=
  if (¬ (2 : Int32) < 0 ∧ (2 : Int32).toNatClampNeg ≤ 100000) then f_X11_init_89 y0 y0 n (n + 1) (c + 1) (q + (2 : Int32).toNatClampNeg) (kU K n 100) (kU N n (2 : Int32).toNatClampNeg) (kU (gS G t0 14 (some t1)) n zn0) (kU V n (fun _ => 0)) (kU L n (fun _ => 0)) else none
def f_X11_init_10 (y0 : Nat) (t0 : Nat) (t1 : Nat) (n c q : Nat) (K N : Nat → Nat) (G : zG) (V : zI) (L : zL) : Option (zS) :=
  if (¬ (2 : Int32) < 0 ∧ (2 : Int32).toNatClampNeg ≤ 100000) then f_X11_init_82 y0 y0 n (n + 1) (c + 1) (q + (2 : Int32).toNatClampNeg) (kU K n 100) (kU N n (2 : Int32).toNatClampNeg) (kU (gS G t0 0 (some t1)) n zn0) (kU (z_uI (z_uI (z_uI (z_uI (z_uI (z_uI (z_uI (z_uI (z_uI (z_uI (z_uI (z_uI V y0 1 0) y0 2 0) y0 3 0) y0 4 0) y0 5 0) y0 6 0) y0 8 0) y0 9 (-1)) y0 10 0) y0 11 (-1)) y0 12 (-1)) y0 13 0) n (fun _ => 0)) (kU (z_uL L y0 7 0) n (fun _ => 0)) else none
def g_X11_init (y0 : Nat) (n c q : Nat) (K N : Nat → Nat) (G : zG) (V : zI) (L : zL) : Option (zS) :=
  if (¬ (1800 : Int32) < 0 ∧ (1800 : Int32).toNatClampNeg ≤ 100000) then f_X11_init_10 y0 y0 n (n + 1) (c + 1) (q + (1800 : Int32).toNatClampNeg) (kU K n 100) (kU N n (1800 : Int32).toNatClampNeg) (kU G n zn0) (kU V n (fun _ => 0)) (kU L n (fun _ => 0)) else none
def f_X11_init (y0 : Nat) (n : Nat) (K N : Nat → Nat) (G : zG) (V : zI) (L : zL) : Option (zS) := g_X11_init y0 n 0 0 K N G V L
set_option maxHeartbeats 4000000 in
set_option maxRecDepth 100000 in
theorem m_X11_init_464 (nn : Nat) : ∀ (y0 : Nat) (x1 : Int32) (n c q : Nat) (K N : Nat → Nat) (G : zG) (V : zI) (L : zL) {r' : zS}, zfix (b_X11_init_464) nn (y0, x1, n, c, q, K, N, G, V, L) = some r' → c ≤ r'.2.1 ∧ q ≤ r'.2.2.1 := by
  induction nn with
  | zero => intro y0 x1 n c q K N G V L r' hf; cases hf
  | succ nn ih =>
  intro y0 x1 n c q K N G V L r' hf
  have hm464 : ∀ (y0 : Nat) (x1 : Int32) (n c q : Nat) (K N : Nat → Nat) (G : zG) (V : zI) (L : zL) {r' : zS}, zfix (b_X11_init_464) nn (y0, x1, n, c, q, K, N, G, V, L) = some r' → c ≤ r'.2.1 ∧ q ≤ r'.2.2.1 := ih
  have hf : b_X11_init_464 (zfix (b_X11_init_464) nn) (y0, x1, n, c, q, K, N, G, V, L) = some r' := hf
  generalize zfix (b_X11_init_464) nn = k464 at hm464 hf
  clear ih
  unfold b_X11_init_464 at hf
  rcases z_iteE hf with hf | hf
  ·
    cases hf
    exact ⟨Nat.le_refl _, Nat.le_refl _⟩
  ·
    obtain ⟨r1, hc1, hf⟩ := z_bind hf
    exact hm464 y0 (x1 + 1) n c q K N G r1.1 r1.2 hf

set_option maxHeartbeats 4000000 in
set_option maxRecDepth 100000 in
theorem m_X11_init_443 (nn : Nat) : ∀ (y0 : Nat) (x1 : Int32) (n c q : Nat) (K N : Nat → Nat) (G : zG) (V : zI) (L : zL) {r' : zS}, zfix (b_X11_init_443) nn (y0, x1, n, c, q, K, N, G, V, L) = some r' → c ≤ r'.2.1 ∧ q ≤ r'.2.2.1 := by
  induction nn with
  | zero => intro y0 x1 n c q K N G V L r' hf; cases hf
  | succ nn ih =>
  intro y0 x1 n c q K N G V L r' hf
  have hm443 : ∀ (y0 : Nat) (x1 : Int32) (n c q : Nat) (K N : Nat → Nat) (G : zG) (V : zI) (L : zL) {r' : zS}, zfix (b_X11_init_443) nn (y0, x1, n, c, q, K, N, G, V, L) = some r' → c ≤ r'.2.1 ∧ q ≤ r'.2.2.1 := ih
  have hf : b_X11_init_443 (zfix (b_X11_init_443) nn) (y0, x1, n, c, q, K, N, G, V, L) = some r' := hf
  generalize zfix (b_X11_init_443) nn = k443 at hm443 hf
  clear ih
  unfold b_X11_init_443 at hf
  rcases z_iteE hf with hf | hf
  ·
    exact m_X11_init_464 FU y0 0 n c q K N G V L hf
  ·
    obtain ⟨v1, hG1, hf⟩ := z_bind hf
    obtain ⟨hb2, hf⟩ := z_ite hf
    exact hm443 y0 (x1 + 1) n c q K N G (z_uI V v1 x1.toNatClampNeg (-1)) L hf

set_option maxHeartbeats 4000000 in
set_option maxRecDepth 100000 in
theorem m_X11_init_433 (y0 : Nat) (t0 : Nat) (t1 : Nat) (n c q : Nat) (K N : Nat → Nat) (G : zG) (V : zI) (L : zL) {r' : zS} (hf : f_X11_init_433 y0 t0 t1 n c q K N G V L = some r') : c ≤ r'.2.1 ∧ q ≤ r'.2.2.1 := by
  unfold f_X11_init_433 at hf
  exact m_X11_init_443 FU y0 0 n c q K N (gS G t0 63 (some t1)) (z_uI V y0 64 0) L hf

set_option maxHeartbeats 4000000 in
set_option maxRecDepth 100000 in
theorem m_X11_init_424 (y0 : Nat) (t0 : Nat) (t1 : Nat) (n c q : Nat) (K N : Nat → Nat) (G : zG) (V : zI) (L : zL) {r' : zS} (hf : f_X11_init_424 y0 t0 t1 n c q K N G V L = some r') : c ≤ r'.2.1 ∧ q ≤ r'.2.2.1 := by
  unfold f_X11_init_424 at hf
  obtain ⟨hb1, hf⟩ := z_ite hf
  have hm := m_X11_init_433 y0 y0 n (n + 1) (c + 1) (q + (280 : Int32).toNatClampNeg) (kU K n 100) (kU N n (280 : Int32).toNatClampNeg) (kU (gS G t0 62 (some t1)) n zn0) (kU V n (fun _ => 0)) (kU L n (fun _ => 0)) hf
  exact ⟨by omega, by omega⟩

set_option maxHeartbeats 4000000 in
set_option maxRecDepth 100000 in
theorem m_X11_init_416 (y0 : Nat) (t0 : Nat) (t1 : Nat) (n c q : Nat) (K N : Nat → Nat) (G : zG) (V : zI) (L : zL) {r' : zS} (hf : f_X11_init_416 y0 t0 t1 n c q K N G V L = some r') : c ≤ r'.2.1 ∧ q ≤ r'.2.2.1 := by
  unfold f_X11_init_416 at hf
  obtain ⟨hb1, hf⟩ := z_ite hf
  have hm := m_X11_init_424 y0 y0 n (n + 1) (c + 1) (q + (16 : Int32).toNatClampNeg) (kU K n 100) (kU N n (16 : Int32).toNatClampNeg) (kU (gS G t0 61 (some t1)) n zn0) (kU V n (fun _ => 0)) (kU L n (fun _ => 0)) hf
  exact ⟨by omega, by omega⟩

set_option maxHeartbeats 4000000 in
set_option maxRecDepth 100000 in
theorem m_X11_init_403 (y0 : Nat) (t0 : Nat) (t1 : Nat) (n c q : Nat) (K N : Nat → Nat) (G : zG) (V : zI) (L : zL) {r' : zS} (hf : f_X11_init_403 y0 t0 t1 n c q K N G V L = some r') : c ≤ r'.2.1 ∧ q ≤ r'.2.2.1 := by
  unfold f_X11_init_403 at hf
  obtain ⟨hb1, hf⟩ := z_ite hf
  have hm := m_X11_init_416 y0 y0 n (n + 1) (c + 1) (q + (16 : Int32).toNatClampNeg) (kU K n 100) (kU N n (16 : Int32).toNatClampNeg) (kU (gS G t0 59 (some t1)) n zn0) (kU (z_uI V y0 60 0) n (fun _ => 0)) (kU L n (fun _ => 0)) hf
  exact ⟨by omega, by omega⟩

set_option maxHeartbeats 4000000 in
set_option maxRecDepth 100000 in
theorem m_X11_init_385 (y0 : Nat) (t0 : Nat) (t1 : Nat) (n c q : Nat) (K N : Nat → Nat) (G : zG) (V : zI) (L : zL) {r' : zS} (hf : f_X11_init_385 y0 t0 t1 n c q K N G V L = some r') : c ≤ r'.2.1 ∧ q ≤ r'.2.2.1 := by
  unfold f_X11_init_385 at hf
  obtain ⟨hb1, hf⟩ := z_ite hf
  have hm := m_X11_init_403 y0 y0 n (n + 1) (c + 1) (q + (6 : Int32).toNatClampNeg) (kU K n 100) (kU N n (6 : Int32).toNatClampNeg) (kU (gS G t0 56 (some t1)) n zn0) (kU (z_uI (z_uI V y0 57 (-1)) y0 58 (-1)) n (fun _ => 0)) (kU L n (fun _ => 0)) hf
  exact ⟨by omega, by omega⟩

set_option maxHeartbeats 4000000 in
set_option maxRecDepth 100000 in
theorem m_X11_init_378 (y0 : Nat) (t0 : Nat) (t1 : Nat) (n c q : Nat) (K N : Nat → Nat) (G : zG) (V : zI) (L : zL) {r' : zS} (hf : f_X11_init_378 y0 t0 t1 n c q K N G V L = some r') : c ≤ r'.2.1 ∧ q ≤ r'.2.2.1 := by
  unfold f_X11_init_378 at hf
  obtain ⟨hb1, hf⟩ := z_ite hf
  have hm := m_X11_init_385 y0 y0 n (n + 1) (c + 1) (q + (3 : Int32).toNatClampNeg) (kU K n 100) (kU N n (3 : Int32).toNatClampNeg) (kU (gS G t0 55 (some t1)) n zn0) (kU V n (fun _ => 0)) (kU L n (fun _ => 0)) hf
  exact ⟨by omega, by omega⟩

set_option maxHeartbeats 4000000 in
set_option maxRecDepth 100000 in
theorem m_X11_init_355 (y0 : Nat) (t0 : Nat) (t1 : Nat) (n c q : Nat) (K N : Nat → Nat) (G : zG) (V : zI) (L : zL) {r' : zS} (hf : f_X11_init_355 y0 t0 t1 n c q K N G V L = some r') : c ≤ r'.2.1 ∧ q ≤ r'.2.2.1 := by
  unfold f_X11_init_355 at hf
  obtain ⟨hb1, hf⟩ := z_ite hf
  have hm := m_X11_init_378 y0 y0 n (n + 1) (c + 1) (q + (36 : Int32).toNatClampNeg) (kU K n 102) (kU N n (36 : Int32).toNatClampNeg) (kU (gS G t0 51 (some t1)) n zn0) (kU (z_uI (z_uI V y0 52 0) y0 53 0) n (fun _ => 0)) (kU (z_uL L y0 54 0) n (fun _ => 0)) hf
  exact ⟨by omega, by omega⟩

set_option maxHeartbeats 4000000 in
set_option maxRecDepth 100000 in
theorem m_X11_init_347 (y0 : Nat) (t0 : Nat) (t1 : Nat) (n c q : Nat) (K N : Nat → Nat) (G : zG) (V : zI) (L : zL) {r' : zS} (hf : f_X11_init_347 y0 t0 t1 n c q K N G V L = some r') : c ≤ r'.2.1 ∧ q ≤ r'.2.2.1 := by
  unfold f_X11_init_347 at hf
  obtain ⟨hb1, hf⟩ := z_ite hf
  have hm := m_X11_init_355 y0 y0 n (n + 1) (c + 1) (q + (12 : Int32).toNatClampNeg) (kU K n 100) (kU N n (12 : Int32).toNatClampNeg) (kU (gS G t0 50 (some t1)) n zn0) (kU V n (fun _ => 0)) (kU L n (fun _ => 0)) hf
  exact ⟨by omega, by omega⟩

set_option maxHeartbeats 4000000 in
set_option maxRecDepth 100000 in
theorem m_X11_init_323 (y0 : Nat) (t0 : Nat) (t1 : Nat) (n c q : Nat) (K N : Nat → Nat) (G : zG) (V : zI) (L : zL) {r' : zS} (hf : f_X11_init_323 y0 t0 t1 n c q K N G V L = some r') : c ≤ r'.2.1 ∧ q ≤ r'.2.2.1 := by
  unfold f_X11_init_323 at hf
  obtain ⟨hb1, hf⟩ := z_ite hf
  have hm := m_X11_init_347 y0 y0 n (n + 1) (c + 1) (q + (500 : Int32).toNatClampNeg) (kU K n 103) (kU N n (500 : Int32).toNatClampNeg) (kU (gS G t0 46 (some t1)) n zn0) (kU (z_uI (z_uI V y0 47 0) y0 48 0) n (fun _ => 0)) (kU (z_uL L y0 49 1) n (fun _ => 0)) hf
  exact ⟨by omega, by omega⟩

set_option maxHeartbeats 4000000 in
set_option maxRecDepth 100000 in
theorem m_X11_init_314 (y0 : Nat) (t0 : Nat) (t1 : Nat) (n c q : Nat) (K N : Nat → Nat) (G : zG) (V : zI) (L : zL) {r' : zS} (hf : f_X11_init_314 y0 t0 t1 n c q K N G V L = some r') : c ≤ r'.2.1 ∧ q ≤ r'.2.2.1 := by
  unfold f_X11_init_314 at hf
  obtain ⟨hb1, hf⟩ := z_ite hf
  have hm := m_X11_init_323 y0 y0 n (n + 1) (c + 1) (q + (4400 : Int32).toNatClampNeg) (kU K n 100) (kU N n (4400 : Int32).toNatClampNeg) (kU (gS G t0 45 (some t1)) n zn0) (kU V n (fun _ => 0)) (kU L n (fun _ => 0)) hf
  exact ⟨by omega, by omega⟩

set_option maxHeartbeats 4000000 in
set_option maxRecDepth 100000 in
theorem m_X11_init_306 (y0 : Nat) (t0 : Nat) (t1 : Nat) (n c q : Nat) (K N : Nat → Nat) (G : zG) (V : zI) (L : zL) {r' : zS} (hf : f_X11_init_306 y0 t0 t1 n c q K N G V L = some r') : c ≤ r'.2.1 ∧ q ≤ r'.2.2.1 := by
  unfold f_X11_init_306 at hf
  obtain ⟨hb1, hf⟩ := z_ite hf
  have hm := m_X11_init_314 y0 y0 n (n + 1) (c + 1) (q + (22 : Int32).toNatClampNeg) (kU K n 100) (kU N n (22 : Int32).toNatClampNeg) (kU (gS G t0 44 (some t1)) n zn0) (kU V n (fun _ => 0)) (kU L n (fun _ => 0)) hf
  exact ⟨by omega, by omega⟩

set_option maxHeartbeats 4000000 in
set_option maxRecDepth 100000 in
theorem m_X11_init_297 (y0 : Nat) (t0 : Nat) (t1 : Nat) (n c q : Nat) (K N : Nat → Nat) (G : zG) (V : zI) (L : zL) {r' : zS} (hf : f_X11_init_297 y0 t0 t1 n c q K N G V L = some r') : c ≤ r'.2.1 ∧ q ≤ r'.2.2.1 := by
  unfold f_X11_init_297 at hf
  obtain ⟨hb1, hf⟩ := z_ite hf
  have hm := m_X11_init_306 y0 y0 n (n + 1) (c + 1) (q + (3960 : Int32).toNatClampNeg) (kU K n 100) (kU N n (3960 : Int32).toNatClampNeg) (kU (gS G t0 43 (some t1)) n zn0) (kU V n (fun _ => 0)) (kU L n (fun _ => 0)) hf
  exact ⟨by omega, by omega⟩

set_option maxHeartbeats 4000000 in
set_option maxRecDepth 100000 in
theorem m_X11_init_289 (y0 : Nat) (t0 : Nat) (t1 : Nat) (n c q : Nat) (K N : Nat → Nat) (G : zG) (V : zI) (L : zL) {r' : zS} (hf : f_X11_init_289 y0 t0 t1 n c q K N G V L = some r') : c ≤ r'.2.1 ∧ q ≤ r'.2.2.1 := by
  unfold f_X11_init_289 at hf
  obtain ⟨hb1, hf⟩ := z_ite hf
  have hm := m_X11_init_297 y0 y0 n (n + 1) (c + 1) (q + (22 : Int32).toNatClampNeg) (kU K n 100) (kU N n (22 : Int32).toNatClampNeg) (kU (gS G t0 42 (some t1)) n zn0) (kU V n (fun _ => 0)) (kU L n (fun _ => 0)) hf
  exact ⟨by omega, by omega⟩

set_option maxHeartbeats 4000000 in
set_option maxRecDepth 100000 in
theorem m_X11_init_280 (y0 : Nat) (t0 : Nat) (t1 : Nat) (n c q : Nat) (K N : Nat → Nat) (G : zG) (V : zI) (L : zL) {r' : zS} (hf : f_X11_init_280 y0 t0 t1 n c q K N G V L = some r') : c ≤ r'.2.1 ∧ q ≤ r'.2.2.1 := by
  unfold f_X11_init_280 at hf
  obtain ⟨hb1, hf⟩ := z_ite hf
  have hm := m_X11_init_289 y0 y0 n (n + 1) (c + 1) (q + (792 : Int32).toNatClampNeg) (kU K n 100) (kU N n (792 : Int32).toNatClampNeg) (kU (gS G t0 41 (some t1)) n zn0) (kU V n (fun _ => 0)) (kU L n (fun _ => 0)) hf
  exact ⟨by omega, by omega⟩

set_option maxHeartbeats 4000000 in
set_option maxRecDepth 100000 in
theorem m_X11_init_271 (y0 : Nat) (t0 : Nat) (t1 : Nat) (n c q : Nat) (K N : Nat → Nat) (G : zG) (V : zI) (L : zL) {r' : zS} (hf : f_X11_init_271 y0 t0 t1 n c q K N G V L = some r') : c ≤ r'.2.1 ∧ q ≤ r'.2.2.1 := by
  unfold f_X11_init_271 at hf
  obtain ⟨hb1, hf⟩ := z_ite hf
  have hm := m_X11_init_280 y0 y0 n (n + 1) (c + 1) (q + (792 : Int32).toNatClampNeg) (kU K n 100) (kU N n (792 : Int32).toNatClampNeg) (kU (gS G t0 40 (some t1)) n zn0) (kU V n (fun _ => 0)) (kU L n (fun _ => 0)) hf
  exact ⟨by omega, by omega⟩

set_option maxHeartbeats 4000000 in
set_option maxRecDepth 100000 in
theorem m_X11_init_262 (y0 : Nat) (t0 : Nat) (t1 : Nat) (n c q : Nat) (K N : Nat → Nat) (G : zG) (V : zI) (L : zL) {r' : zS} (hf : f_X11_init_262 y0 t0 t1 n c q K N G V L = some r') : c ≤ r'.2.1 ∧ q ≤ r'.2.2.1 := by
  unfold f_X11_init_262 at hf
  obtain ⟨hb1, hf⟩ := z_ite hf
  have hm := m_X11_init_271 y0 y0 n (n + 1) (c + 1) (q + (792 : Int32).toNatClampNeg) (kU K n 100) (kU N n (792 : Int32).toNatClampNeg) (kU (gS G t0 39 (some t1)) n zn0) (kU V n (fun _ => 0)) (kU L n (fun _ => 0)) hf
  exact ⟨by omega, by omega⟩

set_option maxHeartbeats 4000000 in
set_option maxRecDepth 100000 in
theorem m_X11_init_254 (y0 : Nat) (t0 : Nat) (t1 : Nat) (n c q : Nat) (K N : Nat → Nat) (G : zG) (V : zI) (L : zL) {r' : zS} (hf : f_X11_init_254 y0 t0 t1 n c q K N G V L = some r') : c ≤ r'.2.1 ∧ q ≤ r'.2.2.1 := by
  unfold f_X11_init_254 at hf
  obtain ⟨hb1, hf⟩ := z_ite hf
  have hm := m_X11_init_262 y0 y0 n (n + 1) (c + 1) (q + (22 : Int32).toNatClampNeg) (kU K n 100) (kU N n (22 : Int32).toNatClampNeg) (kU (gS G t0 38 (some t1)) n zn0) (kU V n (fun _ => 0)) (kU L n (fun _ => 0)) hf
  exact ⟨by omega, by omega⟩

set_option maxHeartbeats 4000000 in
set_option maxRecDepth 100000 in
theorem m_X11_init_236 (y0 : Nat) (t0 : Nat) (t1 : Nat) (n c q : Nat) (K N : Nat → Nat) (G : zG) (V : zI) (L : zL) {r' : zS} (hf : f_X11_init_236 y0 t0 t1 n c q K N G V L = some r') : c ≤ r'.2.1 ∧ q ≤ r'.2.2.1 := by
  unfold f_X11_init_236 at hf
  obtain ⟨hb1, hf⟩ := z_ite hf
  have hm := m_X11_init_254 y0 y0 n (n + 1) (c + 1) (q + (6 : Int32).toNatClampNeg) (kU K n 100) (kU N n (6 : Int32).toNatClampNeg) (kU (gS G t0 35 (some t1)) n zn0) (kU (z_uI (z_uI V y0 36 0) y0 37 0) n (fun _ => 0)) (kU L n (fun _ => 0)) hf
  exact ⟨by omega, by omega⟩

set_option maxHeartbeats 4000000 in
set_option maxRecDepth 100000 in
theorem m_X11_init_217 (y0 : Nat) (t0 : Nat) (t1 : Nat) (n c q : Nat) (K N : Nat → Nat) (G : zG) (V : zI) (L : zL) {r' : zS} (hf : f_X11_init_217 y0 t0 t1 n c q K N G V L = some r') : c ≤ r'.2.1 ∧ q ≤ r'.2.2.1 := by
  unfold f_X11_init_217 at hf
  obtain ⟨hb1, hf⟩ := z_ite hf
  have hm := m_X11_init_236 y0 y0 n (n + 1) (c + 1) (q + (500 : Int32).toNatClampNeg) (kU K n 100) (kU N n (500 : Int32).toNatClampNeg) (kU (gS G t0 32 (some t1)) n zn0) (kU (z_uI (z_uI V y0 33 0) y0 34 0) n (fun _ => 0)) (kU L n (fun _ => 0)) hf
  exact ⟨by omega, by omega⟩

set_option maxHeartbeats 4000000 in
set_option maxRecDepth 100000 in
theorem m_X11_init_209 (y0 : Nat) (t0 : Nat) (t1 : Nat) (n c q : Nat) (K N : Nat → Nat) (G : zG) (V : zI) (L : zL) {r' : zS} (hf : f_X11_init_209 y0 t0 t1 n c q K N G V L = some r') : c ≤ r'.2.1 ∧ q ≤ r'.2.2.1 := by
  unfold f_X11_init_209 at hf
  obtain ⟨hb1, hf⟩ := z_ite hf
  have hm := m_X11_init_217 y0 y0 n (n + 1) (c + 1) (q + (20 : Int32).toNatClampNeg) (kU K n 100) (kU N n (20 : Int32).toNatClampNeg) (kU (gS G t0 31 (some t1)) n zn0) (kU V n (fun _ => 0)) (kU L n (fun _ => 0)) hf
  exact ⟨by omega, by omega⟩

set_option maxHeartbeats 4000000 in
set_option maxRecDepth 100000 in
theorem m_X11_init_201 (y0 : Nat) (t0 : Nat) (t1 : Nat) (n c q : Nat) (K N : Nat → Nat) (G : zG) (V : zI) (L : zL) {r' : zS} (hf : f_X11_init_201 y0 t0 t1 n c q K N G V L = some r') : c ≤ r'.2.1 ∧ q ≤ r'.2.2.1 := by
  unfold f_X11_init_201 at hf
  obtain ⟨hb1, hf⟩ := z_ite hf
  have hm := m_X11_init_209 y0 y0 n (n + 1) (c + 1) (q + (20 : Int32).toNatClampNeg) (kU K n 100) (kU N n (20 : Int32).toNatClampNeg) (kU (gS G t0 30 (some t1)) n zn0) (kU V n (fun _ => 0)) (kU L n (fun _ => 0)) hf
  exact ⟨by omega, by omega⟩

set_option maxHeartbeats 4000000 in
set_option maxRecDepth 100000 in
theorem m_X11_init_193 (y0 : Nat) (t0 : Nat) (t1 : Nat) (n c q : Nat) (K N : Nat → Nat) (G : zG) (V : zI) (L : zL) {r' : zS} (hf : f_X11_init_193 y0 t0 t1 n c q K N G V L = some r') : c ≤ r'.2.1 ∧ q ≤ r'.2.2.1 := by
  unfold f_X11_init_193 at hf
  obtain ⟨hb1, hf⟩ := z_ite hf
  have hm := m_X11_init_201 y0 y0 n (n + 1) (c + 1) (q + (20 : Int32).toNatClampNeg) (kU K n 102) (kU N n (20 : Int32).toNatClampNeg) (kU (gS G t0 29 (some t1)) n zn0) (kU V n (fun _ => 0)) (kU L n (fun _ => 0)) hf
  exact ⟨by omega, by omega⟩

set_option maxHeartbeats 4000000 in
set_option maxRecDepth 100000 in
theorem m_X11_init_185 (y0 : Nat) (t0 : Nat) (t1 : Nat) (n c q : Nat) (K N : Nat → Nat) (G : zG) (V : zI) (L : zL) {r' : zS} (hf : f_X11_init_185 y0 t0 t1 n c q K N G V L = some r') : c ≤ r'.2.1 ∧ q ≤ r'.2.2.1 := by
  unfold f_X11_init_185 at hf
  obtain ⟨hb1, hf⟩ := z_ite hf
  have hm := m_X11_init_193 y0 y0 n (n + 1) (c + 1) (q + (20 : Int32).toNatClampNeg) (kU K n 100) (kU N n (20 : Int32).toNatClampNeg) (kU (gS G t0 28 (some t1)) n zn0) (kU V n (fun _ => 0)) (kU L n (fun _ => 0)) hf
  exact ⟨by omega, by omega⟩

set_option maxHeartbeats 4000000 in
set_option maxRecDepth 100000 in
theorem m_X11_init_162 (y0 : Nat) (t0 : Nat) (t1 : Nat) (n c q : Nat) (K N : Nat → Nat) (G : zG) (V : zI) (L : zL) {r' : zS} (hf : f_X11_init_162 y0 t0 t1 n c q K N G V L = some r') : c ≤ r'.2.1 ∧ q ≤ r'.2.2.1 := by
  unfold f_X11_init_162 at hf
  obtain ⟨hb1, hf⟩ := z_ite hf
  have hm := m_X11_init_185 y0 y0 n (n + 1) (c + 1) (q + (20 : Int32).toNatClampNeg) (kU K n 100) (kU N n (20 : Int32).toNatClampNeg) (kU (gS G t0 24 (some t1)) n zn0) (kU (z_uI (z_uI (z_uI V y0 25 0) y0 26 1) y0 27 0) n (fun _ => 0)) (kU L n (fun _ => 0)) hf
  exact ⟨by omega, by omega⟩

set_option maxHeartbeats 4000000 in
set_option maxRecDepth 100000 in
theorem m_X11_init_154 (y0 : Nat) (t0 : Nat) (t1 : Nat) (n c q : Nat) (K N : Nat → Nat) (G : zG) (V : zI) (L : zL) {r' : zS} (hf : f_X11_init_154 y0 t0 t1 n c q K N G V L = some r') : c ≤ r'.2.1 ∧ q ≤ r'.2.2.1 := by
  unfold f_X11_init_154 at hf
  obtain ⟨hb1, hf⟩ := z_ite hf
  have hm := m_X11_init_162 y0 y0 n (n + 1) (c + 1) (q + (12 : Int32).toNatClampNeg) (kU K n 103) (kU N n (12 : Int32).toNatClampNeg) (kU (gS G t0 23 (some t1)) n zn0) (kU V n (fun _ => 0)) (kU L n (fun _ => 0)) hf
  exact ⟨by omega, by omega⟩

set_option maxHeartbeats 4000000 in
set_option maxRecDepth 100000 in
theorem m_X11_init_145 (y0 : Nat) (t0 : Nat) (t1 : Nat) (n c q : Nat) (K N : Nat → Nat) (G : zG) (V : zI) (L : zL) {r' : zS} (hf : f_X11_init_145 y0 t0 t1 n c q K N G V L = some r') : c ≤ r'.2.1 ∧ q ≤ r'.2.2.1 := by
  unfold f_X11_init_145 at hf
  obtain ⟨hb1, hf⟩ := z_ite hf
  have hm := m_X11_init_154 y0 y0 n (n + 1) (c + 1) (q + (3200 : Int32).toNatClampNeg) (kU K n 100) (kU N n (3200 : Int32).toNatClampNeg) (kU (gS G t0 22 (some t1)) n zn0) (kU V n (fun _ => 0)) (kU L n (fun _ => 0)) hf
  exact ⟨by omega, by omega⟩

set_option maxHeartbeats 4000000 in
set_option maxRecDepth 100000 in
theorem m_X11_init_136 (y0 : Nat) (t0 : Nat) (t1 : Nat) (n c q : Nat) (K N : Nat → Nat) (G : zG) (V : zI) (L : zL) {r' : zS} (hf : f_X11_init_136 y0 t0 t1 n c q K N G V L = some r') : c ≤ r'.2.1 ∧ q ≤ r'.2.2.1 := by
  unfold f_X11_init_136 at hf
  obtain ⟨hb1, hf⟩ := z_ite hf
  have hm := m_X11_init_145 y0 y0 n (n + 1) (c + 1) (q + (3200 : Int32).toNatClampNeg) (kU K n 100) (kU N n (3200 : Int32).toNatClampNeg) (kU (gS G t0 21 (some t1)) n zn0) (kU V n (fun _ => 0)) (kU L n (fun _ => 0)) hf
  exact ⟨by omega, by omega⟩

set_option maxHeartbeats 4000000 in
set_option maxRecDepth 100000 in
theorem m_X11_init_128 (y0 : Nat) (t0 : Nat) (t1 : Nat) (n c q : Nat) (K N : Nat → Nat) (G : zG) (V : zI) (L : zL) {r' : zS} (hf : f_X11_init_128 y0 t0 t1 n c q K N G V L = some r') : c ≤ r'.2.1 ∧ q ≤ r'.2.2.1 := by
  unfold f_X11_init_128 at hf
  obtain ⟨hb1, hf⟩ := z_ite hf
  have hm := m_X11_init_136 y0 y0 n (n + 1) (c + 1) (q + (6 : Int32).toNatClampNeg) (kU K n 100) (kU N n (6 : Int32).toNatClampNeg) (kU (gS G t0 20 (some t1)) n zn0) (kU V n (fun _ => 0)) (kU L n (fun _ => 0)) hf
  exact ⟨by omega, by omega⟩

set_option maxHeartbeats 4000000 in
set_option maxRecDepth 100000 in
theorem m_X11_init_120 (y0 : Nat) (t0 : Nat) (t1 : Nat) (n c q : Nat) (K N : Nat → Nat) (G : zG) (V : zI) (L : zL) {r' : zS} (hf : f_X11_init_120 y0 t0 t1 n c q K N G V L = some r') : c ≤ r'.2.1 ∧ q ≤ r'.2.2.1 := by
  unfold f_X11_init_120 at hf
  obtain ⟨hb1, hf⟩ := z_ite hf
  have hm := m_X11_init_128 y0 y0 n (n + 1) (c + 1) (q + (6 : Int32).toNatClampNeg) (kU K n 100) (kU N n (6 : Int32).toNatClampNeg) (kU (gS G t0 19 (some t1)) n zn0) (kU V n (fun _ => 0)) (kU L n (fun _ => 0)) hf
  exact ⟨by omega, by omega⟩

set_option maxHeartbeats 4000000 in
set_option maxRecDepth 100000 in
theorem m_X11_init_113 (y0 : Nat) (t0 : Nat) (t1 : Nat) (n c q : Nat) (K N : Nat → Nat) (G : zG) (V : zI) (L : zL) {r' : zS} (hf : f_X11_init_113 y0 t0 t1 n c q K N G V L = some r') : c ≤ r'.2.1 ∧ q ≤ r'.2.2.1 := by
  unfold f_X11_init_113 at hf
  obtain ⟨hb1, hf⟩ := z_ite hf
  have hm := m_X11_init_120 y0 y0 n (n + 1) (c + 1) (q + (4 : Int32).toNatClampNeg) (kU K n 100) (kU N n (4 : Int32).toNatClampNeg) (kU (gS G t0 18 (some t1)) n zn0) (kU V n (fun _ => 0)) (kU L n (fun _ => 0)) hf
  exact ⟨by omega, by omega⟩

set_option maxHeartbeats 4000000 in
set_option maxRecDepth 100000 in
theorem m_X11_init_105 (y0 : Nat) (t0 : Nat) (t1 : Nat) (n c q : Nat) (K N : Nat → Nat) (G : zG) (V : zI) (L : zL) {r' : zS} (hf : f_X11_init_105 y0 t0 t1 n c q K N G V L = some r') : c ≤ r'.2.1 ∧ q ≤ r'.2.2.1 := by
  unfold f_X11_init_105 at hf
  obtain ⟨hb1, hf⟩ := z_ite hf
  have hm := m_X11_init_113 y0 y0 n (n + 1) (c + 1) (q + (72 : Int32).toNatClampNeg) (kU K n 100) (kU N n (72 : Int32).toNatClampNeg) (kU (gS G t0 17 (some t1)) n zn0) (kU V n (fun _ => 0)) (kU L n (fun _ => 0)) hf
  exact ⟨by omega, by omega⟩

set_option maxHeartbeats 4000000 in
set_option maxRecDepth 100000 in
theorem m_X11_init_97 (y0 : Nat) (t0 : Nat) (t1 : Nat) (n c q : Nat) (K N : Nat → Nat) (G : zG) (V : zI) (L : zL) {r' : zS} (hf : f_X11_init_97 y0 t0 t1 n c q K N G V L = some r') : c ≤ r'.2.1 ∧ q ≤ r'.2.2.1 := by
  unfold f_X11_init_97 at hf
  obtain ⟨hb1, hf⟩ := z_ite hf
  have hm := m_X11_init_105 y0 y0 n (n + 1) (c + 1) (q + (72 : Int32).toNatClampNeg) (kU K n 100) (kU N n (72 : Int32).toNatClampNeg) (kU (gS G t0 16 (some t1)) n zn0) (kU V n (fun _ => 0)) (kU L n (fun _ => 0)) hf
  exact ⟨by omega, by omega⟩

set_option maxHeartbeats 4000000 in
set_option maxRecDepth 100000 in
theorem m_X11_init_89 (y0 : Nat) (t0 : Nat) (t1 : Nat) (n c q : Nat) (K N : Nat → Nat) (G : zG) (V : zI) (L : zL) {r' : zS} (hf : f_X11_init_89 y0 t0 t1 n c q K N G V L = some r') : c ≤ r'.2.1 ∧ q ≤ r'.2.2.1 := by
  unfold f_X11_init_89 at hf
  obtain ⟨hb1, hf⟩ := z_ite hf
  have hm := m_X11_init_97 y0 y0 n (n + 1) (c + 1) (q + (72 : Int32).toNatClampNeg) (kU K n 100) (kU N n (72 : Int32).toNatClampNeg) (kU (gS G t0 15 (some t1)) n zn0) (kU V n (fun _ => 0)) (kU L n (fun _ => 0)) hf
  exact ⟨by omega, by omega⟩

set_option maxHeartbeats 4000000 in
set_option maxRecDepth 100000 in
theorem m_X11_init_82 (y0 : Nat) (t0 : Nat) (t1 : Nat) (n c q : Nat) (K N : Nat → Nat) (G : zG) (V : zI) (L : zL) {r' : zS} (hf : f_X11_init_82 y0 t0 t1 n c q K N G V L = some r') : c ≤ r'.2.1 ∧ q ≤ r'.2.2.1 := by
  unfold f_X11_init_82 at hf
  obtain ⟨hb1, hf⟩ := z_ite hf
  have hm := m_X11_init_89 y0 y0 n (n + 1) (c + 1) (q + (2 : Int32).toNatClampNeg) (kU K n 100) (kU N n (2 : Int32).toNatClampNeg) (kU (gS G t0 14 (some t1)) n zn0) (kU V n (fun _ => 0)) (kU L n (fun _ => 0)) hf
  exact ⟨by omega, by omega⟩

set_option maxHeartbeats 4000000 in
set_option maxRecDepth 100000 in
theorem m_X11_init_10 (y0 : Nat) (t0 : Nat) (t1 : Nat) (n c q : Nat) (K N : Nat → Nat) (G : zG) (V : zI) (L : zL) {r' : zS} (hf : f_X11_init_10 y0 t0 t1 n c q K N G V L = some r') : c ≤ r'.2.1 ∧ q ≤ r'.2.2.1 := by
  unfold f_X11_init_10 at hf
  obtain ⟨hb1, hf⟩ := z_ite hf
  have hm := m_X11_init_82 y0 y0 n (n + 1) (c + 1) (q + (2 : Int32).toNatClampNeg) (kU K n 100) (kU N n (2 : Int32).toNatClampNeg) (kU (gS G t0 0 (some t1)) n zn0) (kU (z_uI (z_uI (z_uI (z_uI (z_uI (z_uI (z_uI (z_uI (z_uI (z_uI (z_uI (z_uI V y0 1 0) y0 2 0) y0 3 0) y0 4 0) y0 5 0) y0 6 0) y0 8 0) y0 9 (-1)) y0 10 0) y0 11 (-1)) y0 12 (-1)) y0 13 0) n (fun _ => 0)) (kU (z_uL L y0 7 0) n (fun _ => 0)) hf
  exact ⟨by omega, by omega⟩

set_option maxHeartbeats 4000000 in
set_option maxRecDepth 100000 in
theorem w_X11_init_464 {M : zM} {D : va_G} {cy : Nat → ClassId} {ad0 K0 : Nat → Nat} {n0 : Nat} {r' : zS} (Z : RZAv M D cy ad0 n0 K0 r') (hC : M.2.2.2.1.cells = r'.2.1 ∧ M.2.2.2.1.slots = r'.2.2.1) (hin : M.2.2.2.2.2.2.2.2.1.name = "<init>") (nn : Nat) : ∀ (y0 : Nat) (x1 : Int32) (n c q : Nat) (K N : Nat → Nat) (G : zG) (V : zI) (L : zL) (ad : Nat → Nat) (ls : Array Slot) (X : RXA M D cy ad n c q K N G cX11_init 2 RX11 1 24) (ha : ∀ w, w < n0 → ad w = ad0 w) (hn0 : n0 ≤ n) (hk0 : ∀ w, w < n0 → K w = K0 w) (hy0 : y0 < n ∧ K y0 = 9) (hl : lv_has ls 2 [(0, .ref (ad y0)), (1, .int x1)]) (hf : zfix (b_X11_init_464) nn (y0, x1, n, c, q, K, N, G, V, L) = some r'), RG (zMb M c q) (zC D cy ad n K N G) V L 464 ls [] := by
  induction nn with
  | zero => intro y0 x1 n c q K N G V L ad ls X ha hn0 hk0 hy0 hl hf; cases hf
  | succ nn ih =>
  intro y0 x1 n c q K N G V L ad ls X ha hn0 hk0 hy0 hl hf
  have hk464 : ∀ (y0 : Nat) (x1 : Int32) (n c q : Nat) (K N : Nat → Nat) (G : zG) (V : zI) (L : zL) (ad : Nat → Nat) (ls : Array Slot) (X : RXA M D cy ad n c q K N G cX11_init 2 RX11 1 24) (ha : ∀ w, w < n0 → ad w = ad0 w) (hn0 : n0 ≤ n) (hk0 : ∀ w, w < n0 → K w = K0 w) (hy0 : y0 < n ∧ K y0 = 9) (hl : lv_has ls 2 [(0, .ref (ad y0)), (1, .int x1)]) (hf : zfix (b_X11_init_464) nn (y0, x1, n, c, q, K, N, G, V, L) = some r'), RG (zMb M c q) (zC D cy ad n K N G) V L 464 ls [] := ih
  have hm464 : ∀ (y0 : Nat) (x1 : Int32) (n c q : Nat) (K N : Nat → Nat) (G : zG) (V : zI) (L : zL) {r' : zS}, zfix (b_X11_init_464) nn (y0, x1, n, c, q, K, N, G, V, L) = some r' → c ≤ r'.2.1 ∧ q ≤ r'.2.2.1 := m_X11_init_464 nn
  have hf : b_X11_init_464 (zfix (b_X11_init_464) nn) (y0, x1, n, c, q, K, N, G, V, L) = some r' := hf
  generalize zfix (b_X11_init_464) nn = k464 at hk464 hm464 hf
  clear ih
  unfold b_X11_init_464 at hf
  refine z_iload_n X.1.1 dX11_init_464 rfl (lv_at hl 1 rfl) ?_
  refine z_iconst (v := 2) X.1.1 dX11_init_465 (by decide) ?_
  refine z_icmp_ge (tgt := 480) X.1.1 dX11_init_466 (by decide) (fun c_ => ?_) (fun c_ => ?_)
  · have hf := (if_pos c_).symm.trans hf
    exact a_vret X Z ha hn0 hk0 hf dX11_init_480
  · have hf := (if_neg c_).symm.trans hf
    refine z_aload_n X.1.1 dX11_init_469 rfl (lv_at hl 0 rfl) ?_
    refine z_iload_n X.1.1 dX11_init_470 rfl (lv_at hl 1 rfl) ?_
    obtain ⟨r1, hc1, hf⟩ := z_bind hf
    refine c_callVv [.int x1] X.1 hl.1 (c_X11_isDefault D cy ad X.1.2.2 hy0 hc1) hy0 ⟨by decide, rfl⟩ cm_X11_210 cw_X11_isDefault rfl cq_X11_isDefault ⟨by decide, by decide⟩ (Nat.le_of_ble_eq_true rfl) rfl dX11_init_471 ?_
    refine z_iinc (v := x1 + 1) (k0 := 1) (lv' := [(1, .int (x1 + 1)), (0, .ref (ad y0))]) X.1.1 dX11_init_474 hl rfl rfl (by decide) rfl (fun ls hl => ?_)
    refine z_goto (tgt := 464) X.1.1 dX11_init_477 (by decide) ?_
    exact hk464 y0 (x1 + 1) n c q K N G r1.1 r1.2 ad ls X ha hn0 hk0 hy0 (lv_sub hl [1, 0] rfl) hf

set_option maxHeartbeats 4000000 in
set_option maxRecDepth 100000 in
theorem w_X11_init_443 {M : zM} {D : va_G} {cy : Nat → ClassId} {ad0 K0 : Nat → Nat} {n0 : Nat} {r' : zS} (Z : RZAv M D cy ad0 n0 K0 r') (hC : M.2.2.2.1.cells = r'.2.1 ∧ M.2.2.2.1.slots = r'.2.2.1) (hin : M.2.2.2.2.2.2.2.2.1.name = "<init>") (nn : Nat) : ∀ (y0 : Nat) (x1 : Int32) (n c q : Nat) (K N : Nat → Nat) (G : zG) (V : zI) (L : zL) (ad : Nat → Nat) (ls : Array Slot) (X : RXA M D cy ad n c q K N G cX11_init 2 RX11 1 24) (ha : ∀ w, w < n0 → ad w = ad0 w) (hn0 : n0 ≤ n) (hk0 : ∀ w, w < n0 → K w = K0 w) (hy0 : y0 < n ∧ K y0 = 9) (hl : lv_has ls 2 [(0, .ref (ad y0)), (1, .int x1)]) (hf : zfix (b_X11_init_443) nn (y0, x1, n, c, q, K, N, G, V, L) = some r'), RG (zMb M c q) (zC D cy ad n K N G) V L 443 ls [] := by
  induction nn with
  | zero => intro y0 x1 n c q K N G V L ad ls X ha hn0 hk0 hy0 hl hf; cases hf
  | succ nn ih =>
  intro y0 x1 n c q K N G V L ad ls X ha hn0 hk0 hy0 hl hf
  have hk443 : ∀ (y0 : Nat) (x1 : Int32) (n c q : Nat) (K N : Nat → Nat) (G : zG) (V : zI) (L : zL) (ad : Nat → Nat) (ls : Array Slot) (X : RXA M D cy ad n c q K N G cX11_init 2 RX11 1 24) (ha : ∀ w, w < n0 → ad w = ad0 w) (hn0 : n0 ≤ n) (hk0 : ∀ w, w < n0 → K w = K0 w) (hy0 : y0 < n ∧ K y0 = 9) (hl : lv_has ls 2 [(0, .ref (ad y0)), (1, .int x1)]) (hf : zfix (b_X11_init_443) nn (y0, x1, n, c, q, K, N, G, V, L) = some r'), RG (zMb M c q) (zC D cy ad n K N G) V L 443 ls [] := ih
  have hm443 : ∀ (y0 : Nat) (x1 : Int32) (n c q : Nat) (K N : Nat → Nat) (G : zG) (V : zI) (L : zL) {r' : zS}, zfix (b_X11_init_443) nn (y0, x1, n, c, q, K, N, G, V, L) = some r' → c ≤ r'.2.1 ∧ q ≤ r'.2.2.1 := m_X11_init_443 nn
  have hf : b_X11_init_443 (zfix (b_X11_init_443) nn) (y0, x1, n, c, q, K, N, G, V, L) = some r' := hf
  generalize zfix (b_X11_init_443) nn = k443 at hk443 hm443 hf
  clear ih
  unfold b_X11_init_443 at hf
  refine z_iload_n X.1.1 dX11_init_443 rfl (lv_at hl 1 rfl) ?_
  refine z_bipush (v := 6) X.1.1 dX11_init_444 (by decide) ?_
  refine z_icmp_ge (tgt := 462) X.1.1 dX11_init_446 (by decide) (fun c_ => ?_) (fun c_ => ?_)
  · have hf := (if_pos c_).symm.trans hf
    refine z_iconst (v := 0) X.1.1 dX11_init_462 (by decide) ?_
    refine z_istore_n (lv' := [(1, .int 0), (0, .ref (ad y0))]) X.1.1 dX11_init_463 rfl hl (by decide) rfl (fun ls hl => ?_)
    exact w_X11_init_464 Z hC hin FU y0 0 n c q K N G V L ad ls X ha hn0 hk0 hy0 (lv_sub hl [1, 0] rfl) hf
  · have hf := (if_neg c_).symm.trans hf
    refine z_aload_n X.1.1 dX11_init_449 rfl (lv_at hl 0 rfl) ?_
    obtain ⟨v1, hG1, hf⟩ := z_bind hf
    have hv1 := X.1.2.2.get hy0 (k := 20) (c := 100) rfl hG1
    refine c_geta X.1 hy0 cf_X11_72 hG1 dX11_init_450 ?_
    refine z_iload_n X.1.1 dX11_init_453 rfl (lv_at hl 1 rfl) ?_
    refine z_iconst (v := -1) X.1.1 dX11_init_454 (by decide) ?_
    obtain ⟨hb2, hf⟩ := z_ite hf
    refine c_iast X.1 hv1 hb2 dX11_init_455 ?_
    refine z_iinc (v := x1 + 1) (k0 := 1) (lv' := [(1, .int (x1 + 1)), (0, .ref (ad y0))]) X.1.1 dX11_init_456 hl rfl rfl (by decide) rfl (fun ls hl => ?_)
    refine z_goto (tgt := 443) X.1.1 dX11_init_459 (by decide) ?_
    exact hk443 y0 (x1 + 1) n c q K N G (z_uI V v1 x1.toNatClampNeg (-1)) L ad ls X ha hn0 hk0 hy0 (lv_sub hl [1, 0] rfl) hf

set_option maxHeartbeats 4000000 in
set_option maxRecDepth 100000 in
theorem w_X11_init_433 {M : zM} {D : va_G} {cy : Nat → ClassId} {ad0 K0 : Nat → Nat} {n0 : Nat} {r' : zS} (Z : RZAv M D cy ad0 n0 K0 r') (hC : M.2.2.2.1.cells = r'.2.1 ∧ M.2.2.2.1.slots = r'.2.2.1) (hin : M.2.2.2.2.2.2.2.2.1.name = "<init>") (y0 : Nat) (t0 : Nat) (t1 : Nat) (n c q : Nat) (K N : Nat → Nat) (G : zG) (V : zI) (L : zL) (ad : Nat → Nat) (ls : Array Slot) (X : RXA M D cy ad n c q K N G cX11_init 2 RX11 1 24) (ha : ∀ w, w < n0 → ad w = ad0 w) (hn0 : n0 ≤ n) (hk0 : ∀ w, w < n0 → K w = K0 w) (hy0 : y0 < n ∧ K y0 = 9) (ht0 : t0 < n ∧ K t0 = 9) (ht1 : t1 < n ∧ K t1 = 100) (hl : lv_has ls 2 [(0, .ref (ad y0))]) (hf : f_X11_init_433 y0 t0 t1 n c q K N G V L = some r') : RG (zMb M c q) (zC D cy ad n K N G) V L 433 ls [.ref (ad t1), .ref (ad t0)] := by
  unfold f_X11_init_433 at hf
  refine a_putF (o := (some t1)) X ht0 cz_X11_204 cg_X11 rfl hin rfl rfl (Or.inr ⟨_, rfl, ht1.1, ht1.2⟩) (ct_X11_63) rfl rfl dX11_init_433 (fun X => ?_)
  refine z_aload_n X.1.1 dX11_init_436 rfl (lv_at hl 0 rfl) ?_
  refine z_iconst (v := 0) X.1.1 dX11_init_437 (by decide) ?_
  refine c_puti X.1 hy0 cf_X11_207 cg_X11 cp_X11_64 rfl rfl dX11_init_438 ?_
  refine z_iconst (v := 0) X.1.1 dX11_init_441 (by decide) ?_
  refine z_istore_n (lv' := [(1, .int 0), (0, .ref (ad y0))]) X.1.1 dX11_init_442 rfl hl (by decide) rfl (fun ls hl => ?_)
  exact w_X11_init_443 Z hC hin FU y0 0 n c q K N (gS G t0 63 (some t1)) (z_uI V y0 64 0) L ad ls X ha hn0 hk0 hy0 (lv_sub hl [1, 0] rfl) hf

set_option maxHeartbeats 4000000 in
set_option maxRecDepth 100000 in
theorem w_X11_init_424 {M : zM} {D : va_G} {cy : Nat → ClassId} {ad0 K0 : Nat → Nat} {n0 : Nat} {r' : zS} (Z : RZAv M D cy ad0 n0 K0 r') (hC : M.2.2.2.1.cells = r'.2.1 ∧ M.2.2.2.1.slots = r'.2.2.1) (hin : M.2.2.2.2.2.2.2.2.1.name = "<init>") (y0 : Nat) (t0 : Nat) (t1 : Nat) (n c q : Nat) (K N : Nat → Nat) (G : zG) (V : zI) (L : zL) (ad : Nat → Nat) (ls : Array Slot) (X : RXA M D cy ad n c q K N G cX11_init 2 RX11 1 24) (ha : ∀ w, w < n0 → ad w = ad0 w) (hn0 : n0 ≤ n) (hk0 : ∀ w, w < n0 → K w = K0 w) (hy0 : y0 < n ∧ K y0 = 9) (ht0 : t0 < n ∧ K t0 = 9) (ht1 : t1 < n ∧ K t1 = 100) (hl : lv_has ls 2 [(0, .ref (ad y0))]) (hf : f_X11_init_424 y0 t0 t1 n c q K N G V L = some r') : RG (zMb M c q) (zC D cy ad n K N G) V L 424 ls [.ref (ad t1), .ref (ad t0)] := by
  unfold f_X11_init_424 at hf
  refine a_putF (o := (some t1)) X ht0 cz_X11_201 cg_X11 rfl hin rfl rfl (Or.inr ⟨_, rfl, ht1.1, ht1.2⟩) (ct_X11_62) rfl rfl dX11_init_424 (fun X => ?_)
  refine z_aload_n X.1.1 dX11_init_427 rfl (lv_at hl 0 rfl) ?_
  refine z_sipush (v := 280) X.1.1 dX11_init_428 (by decide) ?_
  obtain ⟨hb1, hf⟩ := z_ite hf
  have hm := m_X11_init_433 y0 y0 n (n + 1) (c + 1) (q + (280 : Int32).toNatClampNeg) (kU K n 100) (kU N n (280 : Int32).toNatClampNeg) (kU (gS G t0 62 (some t1)) n zn0) (kU V n (fun _ => 0)) (kU L n (fun _ => 0)) hf
  refine a_newi X hb1 ca_100 ⟨by rw [hC.1]; exact hm.1, by rw [hC.2]; exact hm.2⟩ dX11_init_431 (fun ad' hag X => ?_)
  rw [← hag y0 hy0.1] at hl ⊢
  exact w_X11_init_433 Z hC hin y0 y0 n (n + 1) (c + 1) (q + (280 : Int32).toNatClampNeg) (kU K n 100) (kU N n (280 : Int32).toNatClampNeg) (kU (gS G t0 62 (some t1)) n zn0) (kU V n (fun _ => 0)) (kU L n (fun _ => 0)) ad' ls X (zag_up ha hn0 hag) (by omega) (zag_up hk0 hn0 (fun w h => kU_ne (by omega))) (zh_up hy0) (zh_up hy0) zh_new (lv_sub hl [0] rfl) hf

set_option maxHeartbeats 4000000 in
set_option maxRecDepth 100000 in
theorem w_X11_init_416 {M : zM} {D : va_G} {cy : Nat → ClassId} {ad0 K0 : Nat → Nat} {n0 : Nat} {r' : zS} (Z : RZAv M D cy ad0 n0 K0 r') (hC : M.2.2.2.1.cells = r'.2.1 ∧ M.2.2.2.1.slots = r'.2.2.1) (hin : M.2.2.2.2.2.2.2.2.1.name = "<init>") (y0 : Nat) (t0 : Nat) (t1 : Nat) (n c q : Nat) (K N : Nat → Nat) (G : zG) (V : zI) (L : zL) (ad : Nat → Nat) (ls : Array Slot) (X : RXA M D cy ad n c q K N G cX11_init 2 RX11 1 24) (ha : ∀ w, w < n0 → ad w = ad0 w) (hn0 : n0 ≤ n) (hk0 : ∀ w, w < n0 → K w = K0 w) (hy0 : y0 < n ∧ K y0 = 9) (ht0 : t0 < n ∧ K t0 = 9) (ht1 : t1 < n ∧ K t1 = 100) (hl : lv_has ls 2 [(0, .ref (ad y0))]) (hf : f_X11_init_416 y0 t0 t1 n c q K N G V L = some r') : RG (zMb M c q) (zC D cy ad n K N G) V L 416 ls [.ref (ad t1), .ref (ad t0)] := by
  unfold f_X11_init_416 at hf
  refine a_putF (o := (some t1)) X ht0 cz_X11_198 cg_X11 rfl hin rfl rfl (Or.inr ⟨_, rfl, ht1.1, ht1.2⟩) (ct_X11_61) rfl rfl dX11_init_416 (fun X => ?_)
  refine z_aload_n X.1.1 dX11_init_419 rfl (lv_at hl 0 rfl) ?_
  refine z_bipush (v := 16) X.1.1 dX11_init_420 (by decide) ?_
  obtain ⟨hb1, hf⟩ := z_ite hf
  have hm := m_X11_init_424 y0 y0 n (n + 1) (c + 1) (q + (16 : Int32).toNatClampNeg) (kU K n 100) (kU N n (16 : Int32).toNatClampNeg) (kU (gS G t0 61 (some t1)) n zn0) (kU V n (fun _ => 0)) (kU L n (fun _ => 0)) hf
  refine a_newi X hb1 ca_100 ⟨by rw [hC.1]; exact hm.1, by rw [hC.2]; exact hm.2⟩ dX11_init_422 (fun ad' hag X => ?_)
  rw [← hag y0 hy0.1] at hl ⊢
  exact w_X11_init_424 Z hC hin y0 y0 n (n + 1) (c + 1) (q + (16 : Int32).toNatClampNeg) (kU K n 100) (kU N n (16 : Int32).toNatClampNeg) (kU (gS G t0 61 (some t1)) n zn0) (kU V n (fun _ => 0)) (kU L n (fun _ => 0)) ad' ls X (zag_up ha hn0 hag) (by omega) (zag_up hk0 hn0 (fun w h => kU_ne (by omega))) (zh_up hy0) (zh_up hy0) zh_new (lv_sub hl [0] rfl) hf

set_option maxHeartbeats 4000000 in
set_option maxRecDepth 100000 in
theorem w_X11_init_403 {M : zM} {D : va_G} {cy : Nat → ClassId} {ad0 K0 : Nat → Nat} {n0 : Nat} {r' : zS} (Z : RZAv M D cy ad0 n0 K0 r') (hC : M.2.2.2.1.cells = r'.2.1 ∧ M.2.2.2.1.slots = r'.2.2.1) (hin : M.2.2.2.2.2.2.2.2.1.name = "<init>") (y0 : Nat) (t0 : Nat) (t1 : Nat) (n c q : Nat) (K N : Nat → Nat) (G : zG) (V : zI) (L : zL) (ad : Nat → Nat) (ls : Array Slot) (X : RXA M D cy ad n c q K N G cX11_init 2 RX11 1 24) (ha : ∀ w, w < n0 → ad w = ad0 w) (hn0 : n0 ≤ n) (hk0 : ∀ w, w < n0 → K w = K0 w) (hy0 : y0 < n ∧ K y0 = 9) (ht0 : t0 < n ∧ K t0 = 9) (ht1 : t1 < n ∧ K t1 = 100) (hl : lv_has ls 2 [(0, .ref (ad y0))]) (hf : f_X11_init_403 y0 t0 t1 n c q K N G V L = some r') : RG (zMb M c q) (zC D cy ad n K N G) V L 403 ls [.ref (ad t1), .ref (ad t0)] := by
  unfold f_X11_init_403 at hf
  refine a_putF (o := (some t1)) X ht0 cz_X11_192 cg_X11 rfl hin rfl rfl (Or.inr ⟨_, rfl, ht1.1, ht1.2⟩) (ct_X11_59) rfl rfl dX11_init_403 (fun X => ?_)
  refine z_aload_n X.1.1 dX11_init_406 rfl (lv_at hl 0 rfl) ?_
  refine z_iconst (v := 0) X.1.1 dX11_init_407 (by decide) ?_
  refine c_puti X.1 hy0 cf_X11_195 cg_X11 cp_X11_60 rfl rfl dX11_init_408 ?_
  refine z_aload_n X.1.1 dX11_init_411 rfl (lv_at hl 0 rfl) ?_
  refine z_bipush (v := 16) X.1.1 dX11_init_412 (by decide) ?_
  obtain ⟨hb1, hf⟩ := z_ite hf
  have hm := m_X11_init_416 y0 y0 n (n + 1) (c + 1) (q + (16 : Int32).toNatClampNeg) (kU K n 100) (kU N n (16 : Int32).toNatClampNeg) (kU (gS G t0 59 (some t1)) n zn0) (kU (z_uI V y0 60 0) n (fun _ => 0)) (kU L n (fun _ => 0)) hf
  refine a_newi X hb1 ca_100 ⟨by rw [hC.1]; exact hm.1, by rw [hC.2]; exact hm.2⟩ dX11_init_414 (fun ad' hag X => ?_)
  rw [← hag y0 hy0.1] at hl ⊢
  exact w_X11_init_416 Z hC hin y0 y0 n (n + 1) (c + 1) (q + (16 : Int32).toNatClampNeg) (kU K n 100) (kU N n (16 : Int32).toNatClampNeg) (kU (gS G t0 59 (some t1)) n zn0) (kU (z_uI V y0 60 0) n (fun _ => 0)) (kU L n (fun _ => 0)) ad' ls X (zag_up ha hn0 hag) (by omega) (zag_up hk0 hn0 (fun w h => kU_ne (by omega))) (zh_up hy0) (zh_up hy0) zh_new (lv_sub hl [0] rfl) hf

set_option maxHeartbeats 4000000 in
set_option maxRecDepth 100000 in
theorem w_X11_init_385 {M : zM} {D : va_G} {cy : Nat → ClassId} {ad0 K0 : Nat → Nat} {n0 : Nat} {r' : zS} (Z : RZAv M D cy ad0 n0 K0 r') (hC : M.2.2.2.1.cells = r'.2.1 ∧ M.2.2.2.1.slots = r'.2.2.1) (hin : M.2.2.2.2.2.2.2.2.1.name = "<init>") (y0 : Nat) (t0 : Nat) (t1 : Nat) (n c q : Nat) (K N : Nat → Nat) (G : zG) (V : zI) (L : zL) (ad : Nat → Nat) (ls : Array Slot) (X : RXA M D cy ad n c q K N G cX11_init 2 RX11 1 24) (ha : ∀ w, w < n0 → ad w = ad0 w) (hn0 : n0 ≤ n) (hk0 : ∀ w, w < n0 → K w = K0 w) (hy0 : y0 < n ∧ K y0 = 9) (ht0 : t0 < n ∧ K t0 = 9) (ht1 : t1 < n ∧ K t1 = 100) (hl : lv_has ls 2 [(0, .ref (ad y0))]) (hf : f_X11_init_385 y0 t0 t1 n c q K N G V L = some r') : RG (zMb M c q) (zC D cy ad n K N G) V L 385 ls [.ref (ad t1), .ref (ad t0)] := by
  unfold f_X11_init_385 at hf
  refine a_putF (o := (some t1)) X ht0 cz_X11_183 cg_X11 rfl hin rfl rfl (Or.inr ⟨_, rfl, ht1.1, ht1.2⟩) (ct_X11_56) rfl rfl dX11_init_385 (fun X => ?_)
  refine z_aload_n X.1.1 dX11_init_388 rfl (lv_at hl 0 rfl) ?_
  refine z_iconst (v := -1) X.1.1 dX11_init_389 (by decide) ?_
  refine c_puti X.1 hy0 cf_X11_186 cg_X11 cp_X11_57 rfl rfl dX11_init_390 ?_
  refine z_aload_n X.1.1 dX11_init_393 rfl (lv_at hl 0 rfl) ?_
  refine z_iconst (v := -1) X.1.1 dX11_init_394 (by decide) ?_
  refine c_puti X.1 hy0 cf_X11_189 cg_X11 cp_X11_58 rfl rfl dX11_init_395 ?_
  refine z_aload_n X.1.1 dX11_init_398 rfl (lv_at hl 0 rfl) ?_
  refine z_bipush (v := 6) X.1.1 dX11_init_399 (by decide) ?_
  obtain ⟨hb1, hf⟩ := z_ite hf
  have hm := m_X11_init_403 y0 y0 n (n + 1) (c + 1) (q + (6 : Int32).toNatClampNeg) (kU K n 100) (kU N n (6 : Int32).toNatClampNeg) (kU (gS G t0 56 (some t1)) n zn0) (kU (z_uI (z_uI V y0 57 (-1)) y0 58 (-1)) n (fun _ => 0)) (kU L n (fun _ => 0)) hf
  refine a_newi X hb1 ca_100 ⟨by rw [hC.1]; exact hm.1, by rw [hC.2]; exact hm.2⟩ dX11_init_401 (fun ad' hag X => ?_)
  rw [← hag y0 hy0.1] at hl ⊢
  exact w_X11_init_403 Z hC hin y0 y0 n (n + 1) (c + 1) (q + (6 : Int32).toNatClampNeg) (kU K n 100) (kU N n (6 : Int32).toNatClampNeg) (kU (gS G t0 56 (some t1)) n zn0) (kU (z_uI (z_uI V y0 57 (-1)) y0 58 (-1)) n (fun _ => 0)) (kU L n (fun _ => 0)) ad' ls X (zag_up ha hn0 hag) (by omega) (zag_up hk0 hn0 (fun w h => kU_ne (by omega))) (zh_up hy0) (zh_up hy0) zh_new (lv_sub hl [0] rfl) hf

set_option maxHeartbeats 4000000 in
set_option maxRecDepth 100000 in
theorem w_X11_init_378 {M : zM} {D : va_G} {cy : Nat → ClassId} {ad0 K0 : Nat → Nat} {n0 : Nat} {r' : zS} (Z : RZAv M D cy ad0 n0 K0 r') (hC : M.2.2.2.1.cells = r'.2.1 ∧ M.2.2.2.1.slots = r'.2.2.1) (hin : M.2.2.2.2.2.2.2.2.1.name = "<init>") (y0 : Nat) (t0 : Nat) (t1 : Nat) (n c q : Nat) (K N : Nat → Nat) (G : zG) (V : zI) (L : zL) (ad : Nat → Nat) (ls : Array Slot) (X : RXA M D cy ad n c q K N G cX11_init 2 RX11 1 24) (ha : ∀ w, w < n0 → ad w = ad0 w) (hn0 : n0 ≤ n) (hk0 : ∀ w, w < n0 → K w = K0 w) (hy0 : y0 < n ∧ K y0 = 9) (ht0 : t0 < n ∧ K t0 = 9) (ht1 : t1 < n ∧ K t1 = 102) (hl : lv_has ls 2 [(0, .ref (ad y0))]) (hf : f_X11_init_378 y0 t0 t1 n c q K N G V L = some r') : RG (zMb M c q) (zC D cy ad n K N G) V L 378 ls [.ref (ad t1), .ref (ad t0)] := by
  unfold f_X11_init_378 at hf
  refine a_putF (o := (some t1)) X ht0 cz_X11_180 cg_X11 rfl hin rfl rfl (Or.inr ⟨_, rfl, ht1.1, ht1.2⟩) (ct_X11_55) rfl rfl dX11_init_378 (fun X => ?_)
  refine z_aload_n X.1.1 dX11_init_381 rfl (lv_at hl 0 rfl) ?_
  refine z_iconst (v := 3) X.1.1 dX11_init_382 (by decide) ?_
  obtain ⟨hb1, hf⟩ := z_ite hf
  have hm := m_X11_init_385 y0 y0 n (n + 1) (c + 1) (q + (3 : Int32).toNatClampNeg) (kU K n 100) (kU N n (3 : Int32).toNatClampNeg) (kU (gS G t0 55 (some t1)) n zn0) (kU V n (fun _ => 0)) (kU L n (fun _ => 0)) hf
  refine a_newi X hb1 ca_100 ⟨by rw [hC.1]; exact hm.1, by rw [hC.2]; exact hm.2⟩ dX11_init_383 (fun ad' hag X => ?_)
  rw [← hag y0 hy0.1] at hl ⊢
  exact w_X11_init_385 Z hC hin y0 y0 n (n + 1) (c + 1) (q + (3 : Int32).toNatClampNeg) (kU K n 100) (kU N n (3 : Int32).toNatClampNeg) (kU (gS G t0 55 (some t1)) n zn0) (kU V n (fun _ => 0)) (kU L n (fun _ => 0)) ad' ls X (zag_up ha hn0 hag) (by omega) (zag_up hk0 hn0 (fun w h => kU_ne (by omega))) (zh_up hy0) (zh_up hy0) zh_new (lv_sub hl [0] rfl) hf

set_option maxHeartbeats 4000000 in
set_option maxRecDepth 100000 in
theorem w_X11_init_355 {M : zM} {D : va_G} {cy : Nat → ClassId} {ad0 K0 : Nat → Nat} {n0 : Nat} {r' : zS} (Z : RZAv M D cy ad0 n0 K0 r') (hC : M.2.2.2.1.cells = r'.2.1 ∧ M.2.2.2.1.slots = r'.2.2.1) (hin : M.2.2.2.2.2.2.2.2.1.name = "<init>") (y0 : Nat) (t0 : Nat) (t1 : Nat) (n c q : Nat) (K N : Nat → Nat) (G : zG) (V : zI) (L : zL) (ad : Nat → Nat) (ls : Array Slot) (X : RXA M D cy ad n c q K N G cX11_init 2 RX11 1 24) (ha : ∀ w, w < n0 → ad w = ad0 w) (hn0 : n0 ≤ n) (hk0 : ∀ w, w < n0 → K w = K0 w) (hy0 : y0 < n ∧ K y0 = 9) (ht0 : t0 < n ∧ K t0 = 9) (ht1 : t1 < n ∧ K t1 = 100) (hl : lv_has ls 2 [(0, .ref (ad y0))]) (hf : f_X11_init_355 y0 t0 t1 n c q K N G V L = some r') : RG (zMb M c q) (zC D cy ad n K N G) V L 355 ls [.ref (ad t1), .ref (ad t0)] := by
  unfold f_X11_init_355 at hf
  refine a_putF (o := (some t1)) X ht0 cz_X11_168 cg_X11 rfl hin rfl rfl (Or.inr ⟨_, rfl, ht1.1, ht1.2⟩) (ct_X11_51) rfl rfl dX11_init_355 (fun X => ?_)
  refine z_aload_n X.1.1 dX11_init_358 rfl (lv_at hl 0 rfl) ?_
  refine z_iconst (v := 0) X.1.1 dX11_init_359 (by decide) ?_
  refine c_puti X.1 hy0 cf_X11_171 cg_X11 cp_X11_52 rfl rfl dX11_init_360 ?_
  refine z_aload_n X.1.1 dX11_init_363 rfl (lv_at hl 0 rfl) ?_
  refine z_iconst (v := 0) X.1.1 dX11_init_364 (by decide) ?_
  refine c_puti X.1 hy0 cf_X11_174 cg_X11 cp_X11_53 rfl rfl dX11_init_365 ?_
  refine z_aload_n X.1.1 dX11_init_368 rfl (lv_at hl 0 rfl) ?_
  refine z_lconst (v := 0) X.1.1 dX11_init_369 (by decide) ?_
  refine c_putl X.1 hy0 cf_X11_177 cg_X11 cp_X11_54 rfl rfl dX11_init_370 ?_
  refine z_aload_n X.1.1 dX11_init_373 rfl (lv_at hl 0 rfl) ?_
  refine z_bipush (v := 36) X.1.1 dX11_init_374 (by decide) ?_
  obtain ⟨hb1, hf⟩ := z_ite hf
  have hm := m_X11_init_378 y0 y0 n (n + 1) (c + 1) (q + (36 : Int32).toNatClampNeg) (kU K n 102) (kU N n (36 : Int32).toNatClampNeg) (kU (gS G t0 51 (some t1)) n zn0) (kU (z_uI (z_uI V y0 52 0) y0 53 0) n (fun _ => 0)) (kU (z_uL L y0 54 0) n (fun _ => 0)) hf
  refine a_newz X hb1 ca_102 ⟨by rw [hC.1]; exact hm.1, by rw [hC.2]; exact hm.2⟩ dX11_init_376 (fun ad' hag X => ?_)
  rw [← hag y0 hy0.1] at hl ⊢
  exact w_X11_init_378 Z hC hin y0 y0 n (n + 1) (c + 1) (q + (36 : Int32).toNatClampNeg) (kU K n 102) (kU N n (36 : Int32).toNatClampNeg) (kU (gS G t0 51 (some t1)) n zn0) (kU (z_uI (z_uI V y0 52 0) y0 53 0) n (fun _ => 0)) (kU (z_uL L y0 54 0) n (fun _ => 0)) ad' ls X (zag_up ha hn0 hag) (by omega) (zag_up hk0 hn0 (fun w h => kU_ne (by omega))) (zh_up hy0) (zh_up hy0) zh_new (lv_sub hl [0] rfl) hf

set_option maxHeartbeats 4000000 in
set_option maxRecDepth 100000 in
theorem w_X11_init_347 {M : zM} {D : va_G} {cy : Nat → ClassId} {ad0 K0 : Nat → Nat} {n0 : Nat} {r' : zS} (Z : RZAv M D cy ad0 n0 K0 r') (hC : M.2.2.2.1.cells = r'.2.1 ∧ M.2.2.2.1.slots = r'.2.2.1) (hin : M.2.2.2.2.2.2.2.2.1.name = "<init>") (y0 : Nat) (t0 : Nat) (t1 : Nat) (n c q : Nat) (K N : Nat → Nat) (G : zG) (V : zI) (L : zL) (ad : Nat → Nat) (ls : Array Slot) (X : RXA M D cy ad n c q K N G cX11_init 2 RX11 1 24) (ha : ∀ w, w < n0 → ad w = ad0 w) (hn0 : n0 ≤ n) (hk0 : ∀ w, w < n0 → K w = K0 w) (hy0 : y0 < n ∧ K y0 = 9) (ht0 : t0 < n ∧ K t0 = 9) (ht1 : t1 < n ∧ K t1 = 103) (hl : lv_has ls 2 [(0, .ref (ad y0))]) (hf : f_X11_init_347 y0 t0 t1 n c q K N G V L = some r') : RG (zMb M c q) (zC D cy ad n K N G) V L 347 ls [.ref (ad t1), .ref (ad t0)] := by
  unfold f_X11_init_347 at hf
  refine a_putF (o := (some t1)) X ht0 cz_X11_165 cg_X11 rfl hin rfl rfl (Or.inr ⟨_, rfl, ht1.1, ht1.2⟩) (ct_X11_50) rfl rfl dX11_init_347 (fun X => ?_)
  refine z_aload_n X.1.1 dX11_init_350 rfl (lv_at hl 0 rfl) ?_
  refine z_bipush (v := 12) X.1.1 dX11_init_351 (by decide) ?_
  obtain ⟨hb1, hf⟩ := z_ite hf
  have hm := m_X11_init_355 y0 y0 n (n + 1) (c + 1) (q + (12 : Int32).toNatClampNeg) (kU K n 100) (kU N n (12 : Int32).toNatClampNeg) (kU (gS G t0 50 (some t1)) n zn0) (kU V n (fun _ => 0)) (kU L n (fun _ => 0)) hf
  refine a_newi X hb1 ca_100 ⟨by rw [hC.1]; exact hm.1, by rw [hC.2]; exact hm.2⟩ dX11_init_353 (fun ad' hag X => ?_)
  rw [← hag y0 hy0.1] at hl ⊢
  exact w_X11_init_355 Z hC hin y0 y0 n (n + 1) (c + 1) (q + (12 : Int32).toNatClampNeg) (kU K n 100) (kU N n (12 : Int32).toNatClampNeg) (kU (gS G t0 50 (some t1)) n zn0) (kU V n (fun _ => 0)) (kU L n (fun _ => 0)) ad' ls X (zag_up ha hn0 hag) (by omega) (zag_up hk0 hn0 (fun w h => kU_ne (by omega))) (zh_up hy0) (zh_up hy0) zh_new (lv_sub hl [0] rfl) hf

set_option maxHeartbeats 4000000 in
set_option maxRecDepth 100000 in
theorem w_X11_init_323 {M : zM} {D : va_G} {cy : Nat → ClassId} {ad0 K0 : Nat → Nat} {n0 : Nat} {r' : zS} (Z : RZAv M D cy ad0 n0 K0 r') (hC : M.2.2.2.1.cells = r'.2.1 ∧ M.2.2.2.1.slots = r'.2.2.1) (hin : M.2.2.2.2.2.2.2.2.1.name = "<init>") (y0 : Nat) (t0 : Nat) (t1 : Nat) (n c q : Nat) (K N : Nat → Nat) (G : zG) (V : zI) (L : zL) (ad : Nat → Nat) (ls : Array Slot) (X : RXA M D cy ad n c q K N G cX11_init 2 RX11 1 24) (ha : ∀ w, w < n0 → ad w = ad0 w) (hn0 : n0 ≤ n) (hk0 : ∀ w, w < n0 → K w = K0 w) (hy0 : y0 < n ∧ K y0 = 9) (ht0 : t0 < n ∧ K t0 = 9) (ht1 : t1 < n ∧ K t1 = 100) (hl : lv_has ls 2 [(0, .ref (ad y0))]) (hf : f_X11_init_323 y0 t0 t1 n c q K N G V L = some r') : RG (zMb M c q) (zC D cy ad n K N G) V L 323 ls [.ref (ad t1), .ref (ad t0)] := by
  unfold f_X11_init_323 at hf
  refine a_putF (o := (some t1)) X ht0 cz_X11_153 cg_X11 rfl hin rfl rfl (Or.inr ⟨_, rfl, ht1.1, ht1.2⟩) (ct_X11_46) rfl rfl dX11_init_323 (fun X => ?_)
  refine z_aload_n X.1.1 dX11_init_326 rfl (lv_at hl 0 rfl) ?_
  refine z_iconst (v := 0) X.1.1 dX11_init_327 (by decide) ?_
  refine c_puti X.1 hy0 cf_X11_156 cg_X11 cp_X11_47 rfl rfl dX11_init_328 ?_
  refine z_aload_n X.1.1 dX11_init_331 rfl (lv_at hl 0 rfl) ?_
  refine z_iconst (v := 0) X.1.1 dX11_init_332 (by decide) ?_
  refine c_puti X.1 hy0 cf_X11_159 cg_X11 cp_X11_48 rfl rfl dX11_init_333 ?_
  refine z_aload_n X.1.1 dX11_init_336 rfl (lv_at hl 0 rfl) ?_
  refine z_lconst (v := 1) X.1.1 dX11_init_337 (by decide) ?_
  refine c_putl X.1 hy0 cf_X11_162 cg_X11 cp_X11_49 rfl rfl dX11_init_338 ?_
  refine z_aload_n X.1.1 dX11_init_341 rfl (lv_at hl 0 rfl) ?_
  refine z_sipush (v := 500) X.1.1 dX11_init_342 (by decide) ?_
  obtain ⟨hb1, hf⟩ := z_ite hf
  have hm := m_X11_init_347 y0 y0 n (n + 1) (c + 1) (q + (500 : Int32).toNatClampNeg) (kU K n 103) (kU N n (500 : Int32).toNatClampNeg) (kU (gS G t0 46 (some t1)) n zn0) (kU (z_uI (z_uI V y0 47 0) y0 48 0) n (fun _ => 0)) (kU (z_uL L y0 49 1) n (fun _ => 0)) hf
  refine a_newl X hb1 ca_103 ⟨by rw [hC.1]; exact hm.1, by rw [hC.2]; exact hm.2⟩ dX11_init_345 (fun ad' hag X => ?_)
  rw [← hag y0 hy0.1] at hl ⊢
  exact w_X11_init_347 Z hC hin y0 y0 n (n + 1) (c + 1) (q + (500 : Int32).toNatClampNeg) (kU K n 103) (kU N n (500 : Int32).toNatClampNeg) (kU (gS G t0 46 (some t1)) n zn0) (kU (z_uI (z_uI V y0 47 0) y0 48 0) n (fun _ => 0)) (kU (z_uL L y0 49 1) n (fun _ => 0)) ad' ls X (zag_up ha hn0 hag) (by omega) (zag_up hk0 hn0 (fun w h => kU_ne (by omega))) (zh_up hy0) (zh_up hy0) zh_new (lv_sub hl [0] rfl) hf

set_option maxHeartbeats 4000000 in
set_option maxRecDepth 100000 in
theorem w_X11_init_314 {M : zM} {D : va_G} {cy : Nat → ClassId} {ad0 K0 : Nat → Nat} {n0 : Nat} {r' : zS} (Z : RZAv M D cy ad0 n0 K0 r') (hC : M.2.2.2.1.cells = r'.2.1 ∧ M.2.2.2.1.slots = r'.2.2.1) (hin : M.2.2.2.2.2.2.2.2.1.name = "<init>") (y0 : Nat) (t0 : Nat) (t1 : Nat) (n c q : Nat) (K N : Nat → Nat) (G : zG) (V : zI) (L : zL) (ad : Nat → Nat) (ls : Array Slot) (X : RXA M D cy ad n c q K N G cX11_init 2 RX11 1 24) (ha : ∀ w, w < n0 → ad w = ad0 w) (hn0 : n0 ≤ n) (hk0 : ∀ w, w < n0 → K w = K0 w) (hy0 : y0 < n ∧ K y0 = 9) (ht0 : t0 < n ∧ K t0 = 9) (ht1 : t1 < n ∧ K t1 = 100) (hl : lv_has ls 2 [(0, .ref (ad y0))]) (hf : f_X11_init_314 y0 t0 t1 n c q K N G V L = some r') : RG (zMb M c q) (zC D cy ad n K N G) V L 314 ls [.ref (ad t1), .ref (ad t0)] := by
  unfold f_X11_init_314 at hf
  refine a_putF (o := (some t1)) X ht0 cz_X11_150 cg_X11 rfl hin rfl rfl (Or.inr ⟨_, rfl, ht1.1, ht1.2⟩) (ct_X11_45) rfl rfl dX11_init_314 (fun X => ?_)
  refine z_aload_n X.1.1 dX11_init_317 rfl (lv_at hl 0 rfl) ?_
  refine z_sipush (v := 4400) X.1.1 dX11_init_318 (by decide) ?_
  obtain ⟨hb1, hf⟩ := z_ite hf
  have hm := m_X11_init_323 y0 y0 n (n + 1) (c + 1) (q + (4400 : Int32).toNatClampNeg) (kU K n 100) (kU N n (4400 : Int32).toNatClampNeg) (kU (gS G t0 45 (some t1)) n zn0) (kU V n (fun _ => 0)) (kU L n (fun _ => 0)) hf
  refine a_newi X hb1 ca_100 ⟨by rw [hC.1]; exact hm.1, by rw [hC.2]; exact hm.2⟩ dX11_init_321 (fun ad' hag X => ?_)
  rw [← hag y0 hy0.1] at hl ⊢
  exact w_X11_init_323 Z hC hin y0 y0 n (n + 1) (c + 1) (q + (4400 : Int32).toNatClampNeg) (kU K n 100) (kU N n (4400 : Int32).toNatClampNeg) (kU (gS G t0 45 (some t1)) n zn0) (kU V n (fun _ => 0)) (kU L n (fun _ => 0)) ad' ls X (zag_up ha hn0 hag) (by omega) (zag_up hk0 hn0 (fun w h => kU_ne (by omega))) (zh_up hy0) (zh_up hy0) zh_new (lv_sub hl [0] rfl) hf

set_option maxHeartbeats 4000000 in
set_option maxRecDepth 100000 in
theorem w_X11_init_306 {M : zM} {D : va_G} {cy : Nat → ClassId} {ad0 K0 : Nat → Nat} {n0 : Nat} {r' : zS} (Z : RZAv M D cy ad0 n0 K0 r') (hC : M.2.2.2.1.cells = r'.2.1 ∧ M.2.2.2.1.slots = r'.2.2.1) (hin : M.2.2.2.2.2.2.2.2.1.name = "<init>") (y0 : Nat) (t0 : Nat) (t1 : Nat) (n c q : Nat) (K N : Nat → Nat) (G : zG) (V : zI) (L : zL) (ad : Nat → Nat) (ls : Array Slot) (X : RXA M D cy ad n c q K N G cX11_init 2 RX11 1 24) (ha : ∀ w, w < n0 → ad w = ad0 w) (hn0 : n0 ≤ n) (hk0 : ∀ w, w < n0 → K w = K0 w) (hy0 : y0 < n ∧ K y0 = 9) (ht0 : t0 < n ∧ K t0 = 9) (ht1 : t1 < n ∧ K t1 = 100) (hl : lv_has ls 2 [(0, .ref (ad y0))]) (hf : f_X11_init_306 y0 t0 t1 n c q K N G V L = some r') : RG (zMb M c q) (zC D cy ad n K N G) V L 306 ls [.ref (ad t1), .ref (ad t0)] := by
  unfold f_X11_init_306 at hf
  refine a_putF (o := (some t1)) X ht0 cz_X11_147 cg_X11 rfl hin rfl rfl (Or.inr ⟨_, rfl, ht1.1, ht1.2⟩) (ct_X11_44) rfl rfl dX11_init_306 (fun X => ?_)
  refine z_aload_n X.1.1 dX11_init_309 rfl (lv_at hl 0 rfl) ?_
  refine z_bipush (v := 22) X.1.1 dX11_init_310 (by decide) ?_
  obtain ⟨hb1, hf⟩ := z_ite hf
  have hm := m_X11_init_314 y0 y0 n (n + 1) (c + 1) (q + (22 : Int32).toNatClampNeg) (kU K n 100) (kU N n (22 : Int32).toNatClampNeg) (kU (gS G t0 44 (some t1)) n zn0) (kU V n (fun _ => 0)) (kU L n (fun _ => 0)) hf
  refine a_newi X hb1 ca_100 ⟨by rw [hC.1]; exact hm.1, by rw [hC.2]; exact hm.2⟩ dX11_init_312 (fun ad' hag X => ?_)
  rw [← hag y0 hy0.1] at hl ⊢
  exact w_X11_init_314 Z hC hin y0 y0 n (n + 1) (c + 1) (q + (22 : Int32).toNatClampNeg) (kU K n 100) (kU N n (22 : Int32).toNatClampNeg) (kU (gS G t0 44 (some t1)) n zn0) (kU V n (fun _ => 0)) (kU L n (fun _ => 0)) ad' ls X (zag_up ha hn0 hag) (by omega) (zag_up hk0 hn0 (fun w h => kU_ne (by omega))) (zh_up hy0) (zh_up hy0) zh_new (lv_sub hl [0] rfl) hf

set_option maxHeartbeats 4000000 in
set_option maxRecDepth 100000 in
theorem w_X11_init_297 {M : zM} {D : va_G} {cy : Nat → ClassId} {ad0 K0 : Nat → Nat} {n0 : Nat} {r' : zS} (Z : RZAv M D cy ad0 n0 K0 r') (hC : M.2.2.2.1.cells = r'.2.1 ∧ M.2.2.2.1.slots = r'.2.2.1) (hin : M.2.2.2.2.2.2.2.2.1.name = "<init>") (y0 : Nat) (t0 : Nat) (t1 : Nat) (n c q : Nat) (K N : Nat → Nat) (G : zG) (V : zI) (L : zL) (ad : Nat → Nat) (ls : Array Slot) (X : RXA M D cy ad n c q K N G cX11_init 2 RX11 1 24) (ha : ∀ w, w < n0 → ad w = ad0 w) (hn0 : n0 ≤ n) (hk0 : ∀ w, w < n0 → K w = K0 w) (hy0 : y0 < n ∧ K y0 = 9) (ht0 : t0 < n ∧ K t0 = 9) (ht1 : t1 < n ∧ K t1 = 100) (hl : lv_has ls 2 [(0, .ref (ad y0))]) (hf : f_X11_init_297 y0 t0 t1 n c q K N G V L = some r') : RG (zMb M c q) (zC D cy ad n K N G) V L 297 ls [.ref (ad t1), .ref (ad t0)] := by
  unfold f_X11_init_297 at hf
  refine a_putF (o := (some t1)) X ht0 cz_X11_144 cg_X11 rfl hin rfl rfl (Or.inr ⟨_, rfl, ht1.1, ht1.2⟩) (ct_X11_43) rfl rfl dX11_init_297 (fun X => ?_)
  refine z_aload_n X.1.1 dX11_init_300 rfl (lv_at hl 0 rfl) ?_
  refine z_sipush (v := 3960) X.1.1 dX11_init_301 (by decide) ?_
  obtain ⟨hb1, hf⟩ := z_ite hf
  have hm := m_X11_init_306 y0 y0 n (n + 1) (c + 1) (q + (3960 : Int32).toNatClampNeg) (kU K n 100) (kU N n (3960 : Int32).toNatClampNeg) (kU (gS G t0 43 (some t1)) n zn0) (kU V n (fun _ => 0)) (kU L n (fun _ => 0)) hf
  refine a_newi X hb1 ca_100 ⟨by rw [hC.1]; exact hm.1, by rw [hC.2]; exact hm.2⟩ dX11_init_304 (fun ad' hag X => ?_)
  rw [← hag y0 hy0.1] at hl ⊢
  exact w_X11_init_306 Z hC hin y0 y0 n (n + 1) (c + 1) (q + (3960 : Int32).toNatClampNeg) (kU K n 100) (kU N n (3960 : Int32).toNatClampNeg) (kU (gS G t0 43 (some t1)) n zn0) (kU V n (fun _ => 0)) (kU L n (fun _ => 0)) ad' ls X (zag_up ha hn0 hag) (by omega) (zag_up hk0 hn0 (fun w h => kU_ne (by omega))) (zh_up hy0) (zh_up hy0) zh_new (lv_sub hl [0] rfl) hf

set_option maxHeartbeats 4000000 in
set_option maxRecDepth 100000 in
theorem w_X11_init_289 {M : zM} {D : va_G} {cy : Nat → ClassId} {ad0 K0 : Nat → Nat} {n0 : Nat} {r' : zS} (Z : RZAv M D cy ad0 n0 K0 r') (hC : M.2.2.2.1.cells = r'.2.1 ∧ M.2.2.2.1.slots = r'.2.2.1) (hin : M.2.2.2.2.2.2.2.2.1.name = "<init>") (y0 : Nat) (t0 : Nat) (t1 : Nat) (n c q : Nat) (K N : Nat → Nat) (G : zG) (V : zI) (L : zL) (ad : Nat → Nat) (ls : Array Slot) (X : RXA M D cy ad n c q K N G cX11_init 2 RX11 1 24) (ha : ∀ w, w < n0 → ad w = ad0 w) (hn0 : n0 ≤ n) (hk0 : ∀ w, w < n0 → K w = K0 w) (hy0 : y0 < n ∧ K y0 = 9) (ht0 : t0 < n ∧ K t0 = 9) (ht1 : t1 < n ∧ K t1 = 100) (hl : lv_has ls 2 [(0, .ref (ad y0))]) (hf : f_X11_init_289 y0 t0 t1 n c q K N G V L = some r') : RG (zMb M c q) (zC D cy ad n K N G) V L 289 ls [.ref (ad t1), .ref (ad t0)] := by
  unfold f_X11_init_289 at hf
  refine a_putF (o := (some t1)) X ht0 cz_X11_141 cg_X11 rfl hin rfl rfl (Or.inr ⟨_, rfl, ht1.1, ht1.2⟩) (ct_X11_42) rfl rfl dX11_init_289 (fun X => ?_)
  refine z_aload_n X.1.1 dX11_init_292 rfl (lv_at hl 0 rfl) ?_
  refine z_bipush (v := 22) X.1.1 dX11_init_293 (by decide) ?_
  obtain ⟨hb1, hf⟩ := z_ite hf
  have hm := m_X11_init_297 y0 y0 n (n + 1) (c + 1) (q + (22 : Int32).toNatClampNeg) (kU K n 100) (kU N n (22 : Int32).toNatClampNeg) (kU (gS G t0 42 (some t1)) n zn0) (kU V n (fun _ => 0)) (kU L n (fun _ => 0)) hf
  refine a_newi X hb1 ca_100 ⟨by rw [hC.1]; exact hm.1, by rw [hC.2]; exact hm.2⟩ dX11_init_295 (fun ad' hag X => ?_)
  rw [← hag y0 hy0.1] at hl ⊢
  exact w_X11_init_297 Z hC hin y0 y0 n (n + 1) (c + 1) (q + (22 : Int32).toNatClampNeg) (kU K n 100) (kU N n (22 : Int32).toNatClampNeg) (kU (gS G t0 42 (some t1)) n zn0) (kU V n (fun _ => 0)) (kU L n (fun _ => 0)) ad' ls X (zag_up ha hn0 hag) (by omega) (zag_up hk0 hn0 (fun w h => kU_ne (by omega))) (zh_up hy0) (zh_up hy0) zh_new (lv_sub hl [0] rfl) hf

set_option maxHeartbeats 4000000 in
set_option maxRecDepth 100000 in
theorem w_X11_init_280 {M : zM} {D : va_G} {cy : Nat → ClassId} {ad0 K0 : Nat → Nat} {n0 : Nat} {r' : zS} (Z : RZAv M D cy ad0 n0 K0 r') (hC : M.2.2.2.1.cells = r'.2.1 ∧ M.2.2.2.1.slots = r'.2.2.1) (hin : M.2.2.2.2.2.2.2.2.1.name = "<init>") (y0 : Nat) (t0 : Nat) (t1 : Nat) (n c q : Nat) (K N : Nat → Nat) (G : zG) (V : zI) (L : zL) (ad : Nat → Nat) (ls : Array Slot) (X : RXA M D cy ad n c q K N G cX11_init 2 RX11 1 24) (ha : ∀ w, w < n0 → ad w = ad0 w) (hn0 : n0 ≤ n) (hk0 : ∀ w, w < n0 → K w = K0 w) (hy0 : y0 < n ∧ K y0 = 9) (ht0 : t0 < n ∧ K t0 = 9) (ht1 : t1 < n ∧ K t1 = 100) (hl : lv_has ls 2 [(0, .ref (ad y0))]) (hf : f_X11_init_280 y0 t0 t1 n c q K N G V L = some r') : RG (zMb M c q) (zC D cy ad n K N G) V L 280 ls [.ref (ad t1), .ref (ad t0)] := by
  unfold f_X11_init_280 at hf
  refine a_putF (o := (some t1)) X ht0 cz_X11_138 cg_X11 rfl hin rfl rfl (Or.inr ⟨_, rfl, ht1.1, ht1.2⟩) (ct_X11_41) rfl rfl dX11_init_280 (fun X => ?_)
  refine z_aload_n X.1.1 dX11_init_283 rfl (lv_at hl 0 rfl) ?_
  refine z_sipush (v := 792) X.1.1 dX11_init_284 (by decide) ?_
  obtain ⟨hb1, hf⟩ := z_ite hf
  have hm := m_X11_init_289 y0 y0 n (n + 1) (c + 1) (q + (792 : Int32).toNatClampNeg) (kU K n 100) (kU N n (792 : Int32).toNatClampNeg) (kU (gS G t0 41 (some t1)) n zn0) (kU V n (fun _ => 0)) (kU L n (fun _ => 0)) hf
  refine a_newi X hb1 ca_100 ⟨by rw [hC.1]; exact hm.1, by rw [hC.2]; exact hm.2⟩ dX11_init_287 (fun ad' hag X => ?_)
  rw [← hag y0 hy0.1] at hl ⊢
  exact w_X11_init_289 Z hC hin y0 y0 n (n + 1) (c + 1) (q + (792 : Int32).toNatClampNeg) (kU K n 100) (kU N n (792 : Int32).toNatClampNeg) (kU (gS G t0 41 (some t1)) n zn0) (kU V n (fun _ => 0)) (kU L n (fun _ => 0)) ad' ls X (zag_up ha hn0 hag) (by omega) (zag_up hk0 hn0 (fun w h => kU_ne (by omega))) (zh_up hy0) (zh_up hy0) zh_new (lv_sub hl [0] rfl) hf

set_option maxHeartbeats 4000000 in
set_option maxRecDepth 100000 in
theorem w_X11_init_271 {M : zM} {D : va_G} {cy : Nat → ClassId} {ad0 K0 : Nat → Nat} {n0 : Nat} {r' : zS} (Z : RZAv M D cy ad0 n0 K0 r') (hC : M.2.2.2.1.cells = r'.2.1 ∧ M.2.2.2.1.slots = r'.2.2.1) (hin : M.2.2.2.2.2.2.2.2.1.name = "<init>") (y0 : Nat) (t0 : Nat) (t1 : Nat) (n c q : Nat) (K N : Nat → Nat) (G : zG) (V : zI) (L : zL) (ad : Nat → Nat) (ls : Array Slot) (X : RXA M D cy ad n c q K N G cX11_init 2 RX11 1 24) (ha : ∀ w, w < n0 → ad w = ad0 w) (hn0 : n0 ≤ n) (hk0 : ∀ w, w < n0 → K w = K0 w) (hy0 : y0 < n ∧ K y0 = 9) (ht0 : t0 < n ∧ K t0 = 9) (ht1 : t1 < n ∧ K t1 = 100) (hl : lv_has ls 2 [(0, .ref (ad y0))]) (hf : f_X11_init_271 y0 t0 t1 n c q K N G V L = some r') : RG (zMb M c q) (zC D cy ad n K N G) V L 271 ls [.ref (ad t1), .ref (ad t0)] := by
  unfold f_X11_init_271 at hf
  refine a_putF (o := (some t1)) X ht0 cz_X11_135 cg_X11 rfl hin rfl rfl (Or.inr ⟨_, rfl, ht1.1, ht1.2⟩) (ct_X11_40) rfl rfl dX11_init_271 (fun X => ?_)
  refine z_aload_n X.1.1 dX11_init_274 rfl (lv_at hl 0 rfl) ?_
  refine z_sipush (v := 792) X.1.1 dX11_init_275 (by decide) ?_
  obtain ⟨hb1, hf⟩ := z_ite hf
  have hm := m_X11_init_280 y0 y0 n (n + 1) (c + 1) (q + (792 : Int32).toNatClampNeg) (kU K n 100) (kU N n (792 : Int32).toNatClampNeg) (kU (gS G t0 40 (some t1)) n zn0) (kU V n (fun _ => 0)) (kU L n (fun _ => 0)) hf
  refine a_newi X hb1 ca_100 ⟨by rw [hC.1]; exact hm.1, by rw [hC.2]; exact hm.2⟩ dX11_init_278 (fun ad' hag X => ?_)
  rw [← hag y0 hy0.1] at hl ⊢
  exact w_X11_init_280 Z hC hin y0 y0 n (n + 1) (c + 1) (q + (792 : Int32).toNatClampNeg) (kU K n 100) (kU N n (792 : Int32).toNatClampNeg) (kU (gS G t0 40 (some t1)) n zn0) (kU V n (fun _ => 0)) (kU L n (fun _ => 0)) ad' ls X (zag_up ha hn0 hag) (by omega) (zag_up hk0 hn0 (fun w h => kU_ne (by omega))) (zh_up hy0) (zh_up hy0) zh_new (lv_sub hl [0] rfl) hf

set_option maxHeartbeats 4000000 in
set_option maxRecDepth 100000 in
theorem w_X11_init_262 {M : zM} {D : va_G} {cy : Nat → ClassId} {ad0 K0 : Nat → Nat} {n0 : Nat} {r' : zS} (Z : RZAv M D cy ad0 n0 K0 r') (hC : M.2.2.2.1.cells = r'.2.1 ∧ M.2.2.2.1.slots = r'.2.2.1) (hin : M.2.2.2.2.2.2.2.2.1.name = "<init>") (y0 : Nat) (t0 : Nat) (t1 : Nat) (n c q : Nat) (K N : Nat → Nat) (G : zG) (V : zI) (L : zL) (ad : Nat → Nat) (ls : Array Slot) (X : RXA M D cy ad n c q K N G cX11_init 2 RX11 1 24) (ha : ∀ w, w < n0 → ad w = ad0 w) (hn0 : n0 ≤ n) (hk0 : ∀ w, w < n0 → K w = K0 w) (hy0 : y0 < n ∧ K y0 = 9) (ht0 : t0 < n ∧ K t0 = 9) (ht1 : t1 < n ∧ K t1 = 100) (hl : lv_has ls 2 [(0, .ref (ad y0))]) (hf : f_X11_init_262 y0 t0 t1 n c q K N G V L = some r') : RG (zMb M c q) (zC D cy ad n K N G) V L 262 ls [.ref (ad t1), .ref (ad t0)] := by
  unfold f_X11_init_262 at hf
  refine a_putF (o := (some t1)) X ht0 cz_X11_132 cg_X11 rfl hin rfl rfl (Or.inr ⟨_, rfl, ht1.1, ht1.2⟩) (ct_X11_39) rfl rfl dX11_init_262 (fun X => ?_)
  refine z_aload_n X.1.1 dX11_init_265 rfl (lv_at hl 0 rfl) ?_
  refine z_sipush (v := 792) X.1.1 dX11_init_266 (by decide) ?_
  obtain ⟨hb1, hf⟩ := z_ite hf
  have hm := m_X11_init_271 y0 y0 n (n + 1) (c + 1) (q + (792 : Int32).toNatClampNeg) (kU K n 100) (kU N n (792 : Int32).toNatClampNeg) (kU (gS G t0 39 (some t1)) n zn0) (kU V n (fun _ => 0)) (kU L n (fun _ => 0)) hf
  refine a_newi X hb1 ca_100 ⟨by rw [hC.1]; exact hm.1, by rw [hC.2]; exact hm.2⟩ dX11_init_269 (fun ad' hag X => ?_)
  rw [← hag y0 hy0.1] at hl ⊢
  exact w_X11_init_271 Z hC hin y0 y0 n (n + 1) (c + 1) (q + (792 : Int32).toNatClampNeg) (kU K n 100) (kU N n (792 : Int32).toNatClampNeg) (kU (gS G t0 39 (some t1)) n zn0) (kU V n (fun _ => 0)) (kU L n (fun _ => 0)) ad' ls X (zag_up ha hn0 hag) (by omega) (zag_up hk0 hn0 (fun w h => kU_ne (by omega))) (zh_up hy0) (zh_up hy0) zh_new (lv_sub hl [0] rfl) hf

set_option maxHeartbeats 4000000 in
set_option maxRecDepth 100000 in
theorem w_X11_init_254 {M : zM} {D : va_G} {cy : Nat → ClassId} {ad0 K0 : Nat → Nat} {n0 : Nat} {r' : zS} (Z : RZAv M D cy ad0 n0 K0 r') (hC : M.2.2.2.1.cells = r'.2.1 ∧ M.2.2.2.1.slots = r'.2.2.1) (hin : M.2.2.2.2.2.2.2.2.1.name = "<init>") (y0 : Nat) (t0 : Nat) (t1 : Nat) (n c q : Nat) (K N : Nat → Nat) (G : zG) (V : zI) (L : zL) (ad : Nat → Nat) (ls : Array Slot) (X : RXA M D cy ad n c q K N G cX11_init 2 RX11 1 24) (ha : ∀ w, w < n0 → ad w = ad0 w) (hn0 : n0 ≤ n) (hk0 : ∀ w, w < n0 → K w = K0 w) (hy0 : y0 < n ∧ K y0 = 9) (ht0 : t0 < n ∧ K t0 = 9) (ht1 : t1 < n ∧ K t1 = 100) (hl : lv_has ls 2 [(0, .ref (ad y0))]) (hf : f_X11_init_254 y0 t0 t1 n c q K N G V L = some r') : RG (zMb M c q) (zC D cy ad n K N G) V L 254 ls [.ref (ad t1), .ref (ad t0)] := by
  unfold f_X11_init_254 at hf
  refine a_putF (o := (some t1)) X ht0 cz_X11_129 cg_X11 rfl hin rfl rfl (Or.inr ⟨_, rfl, ht1.1, ht1.2⟩) (ct_X11_38) rfl rfl dX11_init_254 (fun X => ?_)
  refine z_aload_n X.1.1 dX11_init_257 rfl (lv_at hl 0 rfl) ?_
  refine z_bipush (v := 22) X.1.1 dX11_init_258 (by decide) ?_
  obtain ⟨hb1, hf⟩ := z_ite hf
  have hm := m_X11_init_262 y0 y0 n (n + 1) (c + 1) (q + (22 : Int32).toNatClampNeg) (kU K n 100) (kU N n (22 : Int32).toNatClampNeg) (kU (gS G t0 38 (some t1)) n zn0) (kU V n (fun _ => 0)) (kU L n (fun _ => 0)) hf
  refine a_newi X hb1 ca_100 ⟨by rw [hC.1]; exact hm.1, by rw [hC.2]; exact hm.2⟩ dX11_init_260 (fun ad' hag X => ?_)
  rw [← hag y0 hy0.1] at hl ⊢
  exact w_X11_init_262 Z hC hin y0 y0 n (n + 1) (c + 1) (q + (22 : Int32).toNatClampNeg) (kU K n 100) (kU N n (22 : Int32).toNatClampNeg) (kU (gS G t0 38 (some t1)) n zn0) (kU V n (fun _ => 0)) (kU L n (fun _ => 0)) ad' ls X (zag_up ha hn0 hag) (by omega) (zag_up hk0 hn0 (fun w h => kU_ne (by omega))) (zh_up hy0) (zh_up hy0) zh_new (lv_sub hl [0] rfl) hf

set_option maxHeartbeats 4000000 in
set_option maxRecDepth 100000 in
theorem w_X11_init_236 {M : zM} {D : va_G} {cy : Nat → ClassId} {ad0 K0 : Nat → Nat} {n0 : Nat} {r' : zS} (Z : RZAv M D cy ad0 n0 K0 r') (hC : M.2.2.2.1.cells = r'.2.1 ∧ M.2.2.2.1.slots = r'.2.2.1) (hin : M.2.2.2.2.2.2.2.2.1.name = "<init>") (y0 : Nat) (t0 : Nat) (t1 : Nat) (n c q : Nat) (K N : Nat → Nat) (G : zG) (V : zI) (L : zL) (ad : Nat → Nat) (ls : Array Slot) (X : RXA M D cy ad n c q K N G cX11_init 2 RX11 1 24) (ha : ∀ w, w < n0 → ad w = ad0 w) (hn0 : n0 ≤ n) (hk0 : ∀ w, w < n0 → K w = K0 w) (hy0 : y0 < n ∧ K y0 = 9) (ht0 : t0 < n ∧ K t0 = 9) (ht1 : t1 < n ∧ K t1 = 100) (hl : lv_has ls 2 [(0, .ref (ad y0))]) (hf : f_X11_init_236 y0 t0 t1 n c q K N G V L = some r') : RG (zMb M c q) (zC D cy ad n K N G) V L 236 ls [.ref (ad t1), .ref (ad t0)] := by
  unfold f_X11_init_236 at hf
  refine a_putF (o := (some t1)) X ht0 cz_X11_120 cg_X11 rfl hin rfl rfl (Or.inr ⟨_, rfl, ht1.1, ht1.2⟩) (ct_X11_35) rfl rfl dX11_init_236 (fun X => ?_)
  refine z_aload_n X.1.1 dX11_init_239 rfl (lv_at hl 0 rfl) ?_
  refine z_iconst (v := 0) X.1.1 dX11_init_240 (by decide) ?_
  refine c_puti X.1 hy0 cf_X11_123 cg_X11 cp_X11_36 rfl rfl dX11_init_241 ?_
  refine z_aload_n X.1.1 dX11_init_244 rfl (lv_at hl 0 rfl) ?_
  refine z_iconst (v := 0) X.1.1 dX11_init_245 (by decide) ?_
  refine c_puti X.1 hy0 cf_X11_126 cg_X11 cp_X11_37 (zB_nar (show zB 0 by decide)) (zB_fit (show zB 0 by decide)) dX11_init_246 ?_
  refine z_aload_n X.1.1 dX11_init_249 rfl (lv_at hl 0 rfl) ?_
  refine z_bipush (v := 6) X.1.1 dX11_init_250 (by decide) ?_
  obtain ⟨hb1, hf⟩ := z_ite hf
  have hm := m_X11_init_254 y0 y0 n (n + 1) (c + 1) (q + (6 : Int32).toNatClampNeg) (kU K n 100) (kU N n (6 : Int32).toNatClampNeg) (kU (gS G t0 35 (some t1)) n zn0) (kU (z_uI (z_uI V y0 36 0) y0 37 0) n (fun _ => 0)) (kU L n (fun _ => 0)) hf
  refine a_newi X hb1 ca_100 ⟨by rw [hC.1]; exact hm.1, by rw [hC.2]; exact hm.2⟩ dX11_init_252 (fun ad' hag X => ?_)
  rw [← hag y0 hy0.1] at hl ⊢
  exact w_X11_init_254 Z hC hin y0 y0 n (n + 1) (c + 1) (q + (6 : Int32).toNatClampNeg) (kU K n 100) (kU N n (6 : Int32).toNatClampNeg) (kU (gS G t0 35 (some t1)) n zn0) (kU (z_uI (z_uI V y0 36 0) y0 37 0) n (fun _ => 0)) (kU L n (fun _ => 0)) ad' ls X (zag_up ha hn0 hag) (by omega) (zag_up hk0 hn0 (fun w h => kU_ne (by omega))) (zh_up hy0) (zh_up hy0) zh_new (lv_sub hl [0] rfl) hf

set_option maxHeartbeats 4000000 in
set_option maxRecDepth 100000 in
theorem w_X11_init_217 {M : zM} {D : va_G} {cy : Nat → ClassId} {ad0 K0 : Nat → Nat} {n0 : Nat} {r' : zS} (Z : RZAv M D cy ad0 n0 K0 r') (hC : M.2.2.2.1.cells = r'.2.1 ∧ M.2.2.2.1.slots = r'.2.2.1) (hin : M.2.2.2.2.2.2.2.2.1.name = "<init>") (y0 : Nat) (t0 : Nat) (t1 : Nat) (n c q : Nat) (K N : Nat → Nat) (G : zG) (V : zI) (L : zL) (ad : Nat → Nat) (ls : Array Slot) (X : RXA M D cy ad n c q K N G cX11_init 2 RX11 1 24) (ha : ∀ w, w < n0 → ad w = ad0 w) (hn0 : n0 ≤ n) (hk0 : ∀ w, w < n0 → K w = K0 w) (hy0 : y0 < n ∧ K y0 = 9) (ht0 : t0 < n ∧ K t0 = 9) (ht1 : t1 < n ∧ K t1 = 100) (hl : lv_has ls 2 [(0, .ref (ad y0))]) (hf : f_X11_init_217 y0 t0 t1 n c q K N G V L = some r') : RG (zMb M c q) (zC D cy ad n K N G) V L 217 ls [.ref (ad t1), .ref (ad t0)] := by
  unfold f_X11_init_217 at hf
  refine a_putF (o := (some t1)) X ht0 cz_X11_111 cg_X11 rfl hin rfl rfl (Or.inr ⟨_, rfl, ht1.1, ht1.2⟩) (ct_X11_32) rfl rfl dX11_init_217 (fun X => ?_)
  refine z_aload_n X.1.1 dX11_init_220 rfl (lv_at hl 0 rfl) ?_
  refine z_iconst (v := 0) X.1.1 dX11_init_221 (by decide) ?_
  refine c_puti X.1 hy0 cf_X11_114 cg_X11 cp_X11_33 rfl rfl dX11_init_222 ?_
  refine z_aload_n X.1.1 dX11_init_225 rfl (lv_at hl 0 rfl) ?_
  refine z_iconst (v := 0) X.1.1 dX11_init_226 (by decide) ?_
  refine c_puti X.1 hy0 cf_X11_117 cg_X11 cp_X11_34 rfl rfl dX11_init_227 ?_
  refine z_aload_n X.1.1 dX11_init_230 rfl (lv_at hl 0 rfl) ?_
  refine z_sipush (v := 500) X.1.1 dX11_init_231 (by decide) ?_
  obtain ⟨hb1, hf⟩ := z_ite hf
  have hm := m_X11_init_236 y0 y0 n (n + 1) (c + 1) (q + (500 : Int32).toNatClampNeg) (kU K n 100) (kU N n (500 : Int32).toNatClampNeg) (kU (gS G t0 32 (some t1)) n zn0) (kU (z_uI (z_uI V y0 33 0) y0 34 0) n (fun _ => 0)) (kU L n (fun _ => 0)) hf
  refine a_newi X hb1 ca_100 ⟨by rw [hC.1]; exact hm.1, by rw [hC.2]; exact hm.2⟩ dX11_init_234 (fun ad' hag X => ?_)
  rw [← hag y0 hy0.1] at hl ⊢
  exact w_X11_init_236 Z hC hin y0 y0 n (n + 1) (c + 1) (q + (500 : Int32).toNatClampNeg) (kU K n 100) (kU N n (500 : Int32).toNatClampNeg) (kU (gS G t0 32 (some t1)) n zn0) (kU (z_uI (z_uI V y0 33 0) y0 34 0) n (fun _ => 0)) (kU L n (fun _ => 0)) ad' ls X (zag_up ha hn0 hag) (by omega) (zag_up hk0 hn0 (fun w h => kU_ne (by omega))) (zh_up hy0) (zh_up hy0) zh_new (lv_sub hl [0] rfl) hf

set_option maxHeartbeats 4000000 in
set_option maxRecDepth 100000 in
theorem w_X11_init_209 {M : zM} {D : va_G} {cy : Nat → ClassId} {ad0 K0 : Nat → Nat} {n0 : Nat} {r' : zS} (Z : RZAv M D cy ad0 n0 K0 r') (hC : M.2.2.2.1.cells = r'.2.1 ∧ M.2.2.2.1.slots = r'.2.2.1) (hin : M.2.2.2.2.2.2.2.2.1.name = "<init>") (y0 : Nat) (t0 : Nat) (t1 : Nat) (n c q : Nat) (K N : Nat → Nat) (G : zG) (V : zI) (L : zL) (ad : Nat → Nat) (ls : Array Slot) (X : RXA M D cy ad n c q K N G cX11_init 2 RX11 1 24) (ha : ∀ w, w < n0 → ad w = ad0 w) (hn0 : n0 ≤ n) (hk0 : ∀ w, w < n0 → K w = K0 w) (hy0 : y0 < n ∧ K y0 = 9) (ht0 : t0 < n ∧ K t0 = 9) (ht1 : t1 < n ∧ K t1 = 100) (hl : lv_has ls 2 [(0, .ref (ad y0))]) (hf : f_X11_init_209 y0 t0 t1 n c q K N G V L = some r') : RG (zMb M c q) (zC D cy ad n K N G) V L 209 ls [.ref (ad t1), .ref (ad t0)] := by
  unfold f_X11_init_209 at hf
  refine a_putF (o := (some t1)) X ht0 cz_X11_108 cg_X11 rfl hin rfl rfl (Or.inr ⟨_, rfl, ht1.1, ht1.2⟩) (ct_X11_31) rfl rfl dX11_init_209 (fun X => ?_)
  refine z_aload_n X.1.1 dX11_init_212 rfl (lv_at hl 0 rfl) ?_
  refine z_bipush (v := 20) X.1.1 dX11_init_213 (by decide) ?_
  obtain ⟨hb1, hf⟩ := z_ite hf
  have hm := m_X11_init_217 y0 y0 n (n + 1) (c + 1) (q + (20 : Int32).toNatClampNeg) (kU K n 100) (kU N n (20 : Int32).toNatClampNeg) (kU (gS G t0 31 (some t1)) n zn0) (kU V n (fun _ => 0)) (kU L n (fun _ => 0)) hf
  refine a_newi X hb1 ca_100 ⟨by rw [hC.1]; exact hm.1, by rw [hC.2]; exact hm.2⟩ dX11_init_215 (fun ad' hag X => ?_)
  rw [← hag y0 hy0.1] at hl ⊢
  exact w_X11_init_217 Z hC hin y0 y0 n (n + 1) (c + 1) (q + (20 : Int32).toNatClampNeg) (kU K n 100) (kU N n (20 : Int32).toNatClampNeg) (kU (gS G t0 31 (some t1)) n zn0) (kU V n (fun _ => 0)) (kU L n (fun _ => 0)) ad' ls X (zag_up ha hn0 hag) (by omega) (zag_up hk0 hn0 (fun w h => kU_ne (by omega))) (zh_up hy0) (zh_up hy0) zh_new (lv_sub hl [0] rfl) hf

set_option maxHeartbeats 4000000 in
set_option maxRecDepth 100000 in
theorem w_X11_init_201 {M : zM} {D : va_G} {cy : Nat → ClassId} {ad0 K0 : Nat → Nat} {n0 : Nat} {r' : zS} (Z : RZAv M D cy ad0 n0 K0 r') (hC : M.2.2.2.1.cells = r'.2.1 ∧ M.2.2.2.1.slots = r'.2.2.1) (hin : M.2.2.2.2.2.2.2.2.1.name = "<init>") (y0 : Nat) (t0 : Nat) (t1 : Nat) (n c q : Nat) (K N : Nat → Nat) (G : zG) (V : zI) (L : zL) (ad : Nat → Nat) (ls : Array Slot) (X : RXA M D cy ad n c q K N G cX11_init 2 RX11 1 24) (ha : ∀ w, w < n0 → ad w = ad0 w) (hn0 : n0 ≤ n) (hk0 : ∀ w, w < n0 → K w = K0 w) (hy0 : y0 < n ∧ K y0 = 9) (ht0 : t0 < n ∧ K t0 = 9) (ht1 : t1 < n ∧ K t1 = 102) (hl : lv_has ls 2 [(0, .ref (ad y0))]) (hf : f_X11_init_201 y0 t0 t1 n c q K N G V L = some r') : RG (zMb M c q) (zC D cy ad n K N G) V L 201 ls [.ref (ad t1), .ref (ad t0)] := by
  unfold f_X11_init_201 at hf
  refine a_putF (o := (some t1)) X ht0 cz_X11_104 cg_X11 rfl hin rfl rfl (Or.inr ⟨_, rfl, ht1.1, ht1.2⟩) (ct_X11_30) rfl rfl dX11_init_201 (fun X => ?_)
  refine z_aload_n X.1.1 dX11_init_204 rfl (lv_at hl 0 rfl) ?_
  refine z_bipush (v := 20) X.1.1 dX11_init_205 (by decide) ?_
  obtain ⟨hb1, hf⟩ := z_ite hf
  have hm := m_X11_init_209 y0 y0 n (n + 1) (c + 1) (q + (20 : Int32).toNatClampNeg) (kU K n 100) (kU N n (20 : Int32).toNatClampNeg) (kU (gS G t0 30 (some t1)) n zn0) (kU V n (fun _ => 0)) (kU L n (fun _ => 0)) hf
  refine a_newi X hb1 ca_100 ⟨by rw [hC.1]; exact hm.1, by rw [hC.2]; exact hm.2⟩ dX11_init_207 (fun ad' hag X => ?_)
  rw [← hag y0 hy0.1] at hl ⊢
  exact w_X11_init_209 Z hC hin y0 y0 n (n + 1) (c + 1) (q + (20 : Int32).toNatClampNeg) (kU K n 100) (kU N n (20 : Int32).toNatClampNeg) (kU (gS G t0 30 (some t1)) n zn0) (kU V n (fun _ => 0)) (kU L n (fun _ => 0)) ad' ls X (zag_up ha hn0 hag) (by omega) (zag_up hk0 hn0 (fun w h => kU_ne (by omega))) (zh_up hy0) (zh_up hy0) zh_new (lv_sub hl [0] rfl) hf

set_option maxHeartbeats 4000000 in
set_option maxRecDepth 100000 in
theorem w_X11_init_193 {M : zM} {D : va_G} {cy : Nat → ClassId} {ad0 K0 : Nat → Nat} {n0 : Nat} {r' : zS} (Z : RZAv M D cy ad0 n0 K0 r') (hC : M.2.2.2.1.cells = r'.2.1 ∧ M.2.2.2.1.slots = r'.2.2.1) (hin : M.2.2.2.2.2.2.2.2.1.name = "<init>") (y0 : Nat) (t0 : Nat) (t1 : Nat) (n c q : Nat) (K N : Nat → Nat) (G : zG) (V : zI) (L : zL) (ad : Nat → Nat) (ls : Array Slot) (X : RXA M D cy ad n c q K N G cX11_init 2 RX11 1 24) (ha : ∀ w, w < n0 → ad w = ad0 w) (hn0 : n0 ≤ n) (hk0 : ∀ w, w < n0 → K w = K0 w) (hy0 : y0 < n ∧ K y0 = 9) (ht0 : t0 < n ∧ K t0 = 9) (ht1 : t1 < n ∧ K t1 = 100) (hl : lv_has ls 2 [(0, .ref (ad y0))]) (hf : f_X11_init_193 y0 t0 t1 n c q K N G V L = some r') : RG (zMb M c q) (zC D cy ad n K N G) V L 193 ls [.ref (ad t1), .ref (ad t0)] := by
  unfold f_X11_init_193 at hf
  refine a_putF (o := (some t1)) X ht0 cz_X11_101 cg_X11 rfl hin rfl rfl (Or.inr ⟨_, rfl, ht1.1, ht1.2⟩) (ct_X11_29) rfl rfl dX11_init_193 (fun X => ?_)
  refine z_aload_n X.1.1 dX11_init_196 rfl (lv_at hl 0 rfl) ?_
  refine z_bipush (v := 20) X.1.1 dX11_init_197 (by decide) ?_
  obtain ⟨hb1, hf⟩ := z_ite hf
  have hm := m_X11_init_201 y0 y0 n (n + 1) (c + 1) (q + (20 : Int32).toNatClampNeg) (kU K n 102) (kU N n (20 : Int32).toNatClampNeg) (kU (gS G t0 29 (some t1)) n zn0) (kU V n (fun _ => 0)) (kU L n (fun _ => 0)) hf
  refine a_newz X hb1 ca_102 ⟨by rw [hC.1]; exact hm.1, by rw [hC.2]; exact hm.2⟩ dX11_init_199 (fun ad' hag X => ?_)
  rw [← hag y0 hy0.1] at hl ⊢
  exact w_X11_init_201 Z hC hin y0 y0 n (n + 1) (c + 1) (q + (20 : Int32).toNatClampNeg) (kU K n 102) (kU N n (20 : Int32).toNatClampNeg) (kU (gS G t0 29 (some t1)) n zn0) (kU V n (fun _ => 0)) (kU L n (fun _ => 0)) ad' ls X (zag_up ha hn0 hag) (by omega) (zag_up hk0 hn0 (fun w h => kU_ne (by omega))) (zh_up hy0) (zh_up hy0) zh_new (lv_sub hl [0] rfl) hf

set_option maxHeartbeats 4000000 in
set_option maxRecDepth 100000 in
theorem w_X11_init_185 {M : zM} {D : va_G} {cy : Nat → ClassId} {ad0 K0 : Nat → Nat} {n0 : Nat} {r' : zS} (Z : RZAv M D cy ad0 n0 K0 r') (hC : M.2.2.2.1.cells = r'.2.1 ∧ M.2.2.2.1.slots = r'.2.2.1) (hin : M.2.2.2.2.2.2.2.2.1.name = "<init>") (y0 : Nat) (t0 : Nat) (t1 : Nat) (n c q : Nat) (K N : Nat → Nat) (G : zG) (V : zI) (L : zL) (ad : Nat → Nat) (ls : Array Slot) (X : RXA M D cy ad n c q K N G cX11_init 2 RX11 1 24) (ha : ∀ w, w < n0 → ad w = ad0 w) (hn0 : n0 ≤ n) (hk0 : ∀ w, w < n0 → K w = K0 w) (hy0 : y0 < n ∧ K y0 = 9) (ht0 : t0 < n ∧ K t0 = 9) (ht1 : t1 < n ∧ K t1 = 100) (hl : lv_has ls 2 [(0, .ref (ad y0))]) (hf : f_X11_init_185 y0 t0 t1 n c q K N G V L = some r') : RG (zMb M c q) (zC D cy ad n K N G) V L 185 ls [.ref (ad t1), .ref (ad t0)] := by
  unfold f_X11_init_185 at hf
  refine a_putF (o := (some t1)) X ht0 cz_X11_98 cg_X11 rfl hin rfl rfl (Or.inr ⟨_, rfl, ht1.1, ht1.2⟩) (ct_X11_28) rfl rfl dX11_init_185 (fun X => ?_)
  refine z_aload_n X.1.1 dX11_init_188 rfl (lv_at hl 0 rfl) ?_
  refine z_bipush (v := 20) X.1.1 dX11_init_189 (by decide) ?_
  obtain ⟨hb1, hf⟩ := z_ite hf
  have hm := m_X11_init_193 y0 y0 n (n + 1) (c + 1) (q + (20 : Int32).toNatClampNeg) (kU K n 100) (kU N n (20 : Int32).toNatClampNeg) (kU (gS G t0 28 (some t1)) n zn0) (kU V n (fun _ => 0)) (kU L n (fun _ => 0)) hf
  refine a_newi X hb1 ca_100 ⟨by rw [hC.1]; exact hm.1, by rw [hC.2]; exact hm.2⟩ dX11_init_191 (fun ad' hag X => ?_)
  rw [← hag y0 hy0.1] at hl ⊢
  exact w_X11_init_193 Z hC hin y0 y0 n (n + 1) (c + 1) (q + (20 : Int32).toNatClampNeg) (kU K n 100) (kU N n (20 : Int32).toNatClampNeg) (kU (gS G t0 28 (some t1)) n zn0) (kU V n (fun _ => 0)) (kU L n (fun _ => 0)) ad' ls X (zag_up ha hn0 hag) (by omega) (zag_up hk0 hn0 (fun w h => kU_ne (by omega))) (zh_up hy0) (zh_up hy0) zh_new (lv_sub hl [0] rfl) hf

set_option maxHeartbeats 4000000 in
set_option maxRecDepth 100000 in
theorem w_X11_init_162 {M : zM} {D : va_G} {cy : Nat → ClassId} {ad0 K0 : Nat → Nat} {n0 : Nat} {r' : zS} (Z : RZAv M D cy ad0 n0 K0 r') (hC : M.2.2.2.1.cells = r'.2.1 ∧ M.2.2.2.1.slots = r'.2.2.1) (hin : M.2.2.2.2.2.2.2.2.1.name = "<init>") (y0 : Nat) (t0 : Nat) (t1 : Nat) (n c q : Nat) (K N : Nat → Nat) (G : zG) (V : zI) (L : zL) (ad : Nat → Nat) (ls : Array Slot) (X : RXA M D cy ad n c q K N G cX11_init 2 RX11 1 24) (ha : ∀ w, w < n0 → ad w = ad0 w) (hn0 : n0 ≤ n) (hk0 : ∀ w, w < n0 → K w = K0 w) (hy0 : y0 < n ∧ K y0 = 9) (ht0 : t0 < n ∧ K t0 = 9) (ht1 : t1 < n ∧ K t1 = 103) (hl : lv_has ls 2 [(0, .ref (ad y0))]) (hf : f_X11_init_162 y0 t0 t1 n c q K N G V L = some r') : RG (zMb M c q) (zC D cy ad n K N G) V L 162 ls [.ref (ad t1), .ref (ad t0)] := by
  unfold f_X11_init_162 at hf
  refine a_putF (o := (some t1)) X ht0 cz_X11_84 cg_X11 rfl hin rfl rfl (Or.inr ⟨_, rfl, ht1.1, ht1.2⟩) (ct_X11_24) rfl rfl dX11_init_162 (fun X => ?_)
  refine z_aload_n X.1.1 dX11_init_165 rfl (lv_at hl 0 rfl) ?_
  refine z_iconst (v := 0) X.1.1 dX11_init_166 (by decide) ?_
  refine c_puti X.1 hy0 cf_X11_88 cg_X11 cp_X11_25 rfl rfl dX11_init_167 ?_
  refine z_aload_n X.1.1 dX11_init_170 rfl (lv_at hl 0 rfl) ?_
  refine z_iconst (v := 1) X.1.1 dX11_init_171 (by decide) ?_
  refine c_puti X.1 hy0 cf_X11_91 cg_X11 cp_X11_26 rfl rfl dX11_init_172 ?_
  refine z_aload_n X.1.1 dX11_init_175 rfl (lv_at hl 0 rfl) ?_
  refine z_iconst (v := 0) X.1.1 dX11_init_176 (by decide) ?_
  refine c_puti X.1 hy0 cf_X11_94 cg_X11 cp_X11_27 (zB_nar (show zB 0 by decide)) (zB_fit (show zB 0 by decide)) dX11_init_177 ?_
  refine z_aload_n X.1.1 dX11_init_180 rfl (lv_at hl 0 rfl) ?_
  refine z_bipush (v := 20) X.1.1 dX11_init_181 (by decide) ?_
  obtain ⟨hb1, hf⟩ := z_ite hf
  have hm := m_X11_init_185 y0 y0 n (n + 1) (c + 1) (q + (20 : Int32).toNatClampNeg) (kU K n 100) (kU N n (20 : Int32).toNatClampNeg) (kU (gS G t0 24 (some t1)) n zn0) (kU (z_uI (z_uI (z_uI V y0 25 0) y0 26 1) y0 27 0) n (fun _ => 0)) (kU L n (fun _ => 0)) hf
  refine a_newi X hb1 ca_100 ⟨by rw [hC.1]; exact hm.1, by rw [hC.2]; exact hm.2⟩ dX11_init_183 (fun ad' hag X => ?_)
  rw [← hag y0 hy0.1] at hl ⊢
  exact w_X11_init_185 Z hC hin y0 y0 n (n + 1) (c + 1) (q + (20 : Int32).toNatClampNeg) (kU K n 100) (kU N n (20 : Int32).toNatClampNeg) (kU (gS G t0 24 (some t1)) n zn0) (kU (z_uI (z_uI (z_uI V y0 25 0) y0 26 1) y0 27 0) n (fun _ => 0)) (kU L n (fun _ => 0)) ad' ls X (zag_up ha hn0 hag) (by omega) (zag_up hk0 hn0 (fun w h => kU_ne (by omega))) (zh_up hy0) (zh_up hy0) zh_new (lv_sub hl [0] rfl) hf

set_option maxHeartbeats 4000000 in
set_option maxRecDepth 100000 in
theorem w_X11_init_154 {M : zM} {D : va_G} {cy : Nat → ClassId} {ad0 K0 : Nat → Nat} {n0 : Nat} {r' : zS} (Z : RZAv M D cy ad0 n0 K0 r') (hC : M.2.2.2.1.cells = r'.2.1 ∧ M.2.2.2.1.slots = r'.2.2.1) (hin : M.2.2.2.2.2.2.2.2.1.name = "<init>") (y0 : Nat) (t0 : Nat) (t1 : Nat) (n c q : Nat) (K N : Nat → Nat) (G : zG) (V : zI) (L : zL) (ad : Nat → Nat) (ls : Array Slot) (X : RXA M D cy ad n c q K N G cX11_init 2 RX11 1 24) (ha : ∀ w, w < n0 → ad w = ad0 w) (hn0 : n0 ≤ n) (hk0 : ∀ w, w < n0 → K w = K0 w) (hy0 : y0 < n ∧ K y0 = 9) (ht0 : t0 < n ∧ K t0 = 9) (ht1 : t1 < n ∧ K t1 = 100) (hl : lv_has ls 2 [(0, .ref (ad y0))]) (hf : f_X11_init_154 y0 t0 t1 n c q K N G V L = some r') : RG (zMb M c q) (zC D cy ad n K N G) V L 154 ls [.ref (ad t1), .ref (ad t0)] := by
  unfold f_X11_init_154 at hf
  refine a_putF (o := (some t1)) X ht0 cz_X11_81 cg_X11 rfl hin rfl rfl (Or.inr ⟨_, rfl, ht1.1, ht1.2⟩) (ct_X11_23) rfl rfl dX11_init_154 (fun X => ?_)
  refine z_aload_n X.1.1 dX11_init_157 rfl (lv_at hl 0 rfl) ?_
  refine z_bipush (v := 12) X.1.1 dX11_init_158 (by decide) ?_
  obtain ⟨hb1, hf⟩ := z_ite hf
  have hm := m_X11_init_162 y0 y0 n (n + 1) (c + 1) (q + (12 : Int32).toNatClampNeg) (kU K n 103) (kU N n (12 : Int32).toNatClampNeg) (kU (gS G t0 23 (some t1)) n zn0) (kU V n (fun _ => 0)) (kU L n (fun _ => 0)) hf
  refine a_newl X hb1 ca_103 ⟨by rw [hC.1]; exact hm.1, by rw [hC.2]; exact hm.2⟩ dX11_init_160 (fun ad' hag X => ?_)
  rw [← hag y0 hy0.1] at hl ⊢
  exact w_X11_init_162 Z hC hin y0 y0 n (n + 1) (c + 1) (q + (12 : Int32).toNatClampNeg) (kU K n 103) (kU N n (12 : Int32).toNatClampNeg) (kU (gS G t0 23 (some t1)) n zn0) (kU V n (fun _ => 0)) (kU L n (fun _ => 0)) ad' ls X (zag_up ha hn0 hag) (by omega) (zag_up hk0 hn0 (fun w h => kU_ne (by omega))) (zh_up hy0) (zh_up hy0) zh_new (lv_sub hl [0] rfl) hf

set_option maxHeartbeats 4000000 in
set_option maxRecDepth 100000 in
theorem w_X11_init_145 {M : zM} {D : va_G} {cy : Nat → ClassId} {ad0 K0 : Nat → Nat} {n0 : Nat} {r' : zS} (Z : RZAv M D cy ad0 n0 K0 r') (hC : M.2.2.2.1.cells = r'.2.1 ∧ M.2.2.2.1.slots = r'.2.2.1) (hin : M.2.2.2.2.2.2.2.2.1.name = "<init>") (y0 : Nat) (t0 : Nat) (t1 : Nat) (n c q : Nat) (K N : Nat → Nat) (G : zG) (V : zI) (L : zL) (ad : Nat → Nat) (ls : Array Slot) (X : RXA M D cy ad n c q K N G cX11_init 2 RX11 1 24) (ha : ∀ w, w < n0 → ad w = ad0 w) (hn0 : n0 ≤ n) (hk0 : ∀ w, w < n0 → K w = K0 w) (hy0 : y0 < n ∧ K y0 = 9) (ht0 : t0 < n ∧ K t0 = 9) (ht1 : t1 < n ∧ K t1 = 100) (hl : lv_has ls 2 [(0, .ref (ad y0))]) (hf : f_X11_init_145 y0 t0 t1 n c q K N G V L = some r') : RG (zMb M c q) (zC D cy ad n K N G) V L 145 ls [.ref (ad t1), .ref (ad t0)] := by
  unfold f_X11_init_145 at hf
  refine a_putF (o := (some t1)) X ht0 cz_X11_78 cg_X11 rfl hin rfl rfl (Or.inr ⟨_, rfl, ht1.1, ht1.2⟩) (ct_X11_22) rfl rfl dX11_init_145 (fun X => ?_)
  refine z_aload_n X.1.1 dX11_init_148 rfl (lv_at hl 0 rfl) ?_
  refine z_sipush (v := 3200) X.1.1 dX11_init_149 (by decide) ?_
  obtain ⟨hb1, hf⟩ := z_ite hf
  have hm := m_X11_init_154 y0 y0 n (n + 1) (c + 1) (q + (3200 : Int32).toNatClampNeg) (kU K n 100) (kU N n (3200 : Int32).toNatClampNeg) (kU (gS G t0 22 (some t1)) n zn0) (kU V n (fun _ => 0)) (kU L n (fun _ => 0)) hf
  refine a_newi X hb1 ca_100 ⟨by rw [hC.1]; exact hm.1, by rw [hC.2]; exact hm.2⟩ dX11_init_152 (fun ad' hag X => ?_)
  rw [← hag y0 hy0.1] at hl ⊢
  exact w_X11_init_154 Z hC hin y0 y0 n (n + 1) (c + 1) (q + (3200 : Int32).toNatClampNeg) (kU K n 100) (kU N n (3200 : Int32).toNatClampNeg) (kU (gS G t0 22 (some t1)) n zn0) (kU V n (fun _ => 0)) (kU L n (fun _ => 0)) ad' ls X (zag_up ha hn0 hag) (by omega) (zag_up hk0 hn0 (fun w h => kU_ne (by omega))) (zh_up hy0) (zh_up hy0) zh_new (lv_sub hl [0] rfl) hf

set_option maxHeartbeats 4000000 in
set_option maxRecDepth 100000 in
theorem w_X11_init_136 {M : zM} {D : va_G} {cy : Nat → ClassId} {ad0 K0 : Nat → Nat} {n0 : Nat} {r' : zS} (Z : RZAv M D cy ad0 n0 K0 r') (hC : M.2.2.2.1.cells = r'.2.1 ∧ M.2.2.2.1.slots = r'.2.2.1) (hin : M.2.2.2.2.2.2.2.2.1.name = "<init>") (y0 : Nat) (t0 : Nat) (t1 : Nat) (n c q : Nat) (K N : Nat → Nat) (G : zG) (V : zI) (L : zL) (ad : Nat → Nat) (ls : Array Slot) (X : RXA M D cy ad n c q K N G cX11_init 2 RX11 1 24) (ha : ∀ w, w < n0 → ad w = ad0 w) (hn0 : n0 ≤ n) (hk0 : ∀ w, w < n0 → K w = K0 w) (hy0 : y0 < n ∧ K y0 = 9) (ht0 : t0 < n ∧ K t0 = 9) (ht1 : t1 < n ∧ K t1 = 100) (hl : lv_has ls 2 [(0, .ref (ad y0))]) (hf : f_X11_init_136 y0 t0 t1 n c q K N G V L = some r') : RG (zMb M c q) (zC D cy ad n K N G) V L 136 ls [.ref (ad t1), .ref (ad t0)] := by
  unfold f_X11_init_136 at hf
  refine a_putF (o := (some t1)) X ht0 cz_X11_75 cg_X11 rfl hin rfl rfl (Or.inr ⟨_, rfl, ht1.1, ht1.2⟩) (ct_X11_21) rfl rfl dX11_init_136 (fun X => ?_)
  refine z_aload_n X.1.1 dX11_init_139 rfl (lv_at hl 0 rfl) ?_
  refine z_sipush (v := 3200) X.1.1 dX11_init_140 (by decide) ?_
  obtain ⟨hb1, hf⟩ := z_ite hf
  have hm := m_X11_init_145 y0 y0 n (n + 1) (c + 1) (q + (3200 : Int32).toNatClampNeg) (kU K n 100) (kU N n (3200 : Int32).toNatClampNeg) (kU (gS G t0 21 (some t1)) n zn0) (kU V n (fun _ => 0)) (kU L n (fun _ => 0)) hf
  refine a_newi X hb1 ca_100 ⟨by rw [hC.1]; exact hm.1, by rw [hC.2]; exact hm.2⟩ dX11_init_143 (fun ad' hag X => ?_)
  rw [← hag y0 hy0.1] at hl ⊢
  exact w_X11_init_145 Z hC hin y0 y0 n (n + 1) (c + 1) (q + (3200 : Int32).toNatClampNeg) (kU K n 100) (kU N n (3200 : Int32).toNatClampNeg) (kU (gS G t0 21 (some t1)) n zn0) (kU V n (fun _ => 0)) (kU L n (fun _ => 0)) ad' ls X (zag_up ha hn0 hag) (by omega) (zag_up hk0 hn0 (fun w h => kU_ne (by omega))) (zh_up hy0) (zh_up hy0) zh_new (lv_sub hl [0] rfl) hf

set_option maxHeartbeats 4000000 in
set_option maxRecDepth 100000 in
theorem w_X11_init_128 {M : zM} {D : va_G} {cy : Nat → ClassId} {ad0 K0 : Nat → Nat} {n0 : Nat} {r' : zS} (Z : RZAv M D cy ad0 n0 K0 r') (hC : M.2.2.2.1.cells = r'.2.1 ∧ M.2.2.2.1.slots = r'.2.2.1) (hin : M.2.2.2.2.2.2.2.2.1.name = "<init>") (y0 : Nat) (t0 : Nat) (t1 : Nat) (n c q : Nat) (K N : Nat → Nat) (G : zG) (V : zI) (L : zL) (ad : Nat → Nat) (ls : Array Slot) (X : RXA M D cy ad n c q K N G cX11_init 2 RX11 1 24) (ha : ∀ w, w < n0 → ad w = ad0 w) (hn0 : n0 ≤ n) (hk0 : ∀ w, w < n0 → K w = K0 w) (hy0 : y0 < n ∧ K y0 = 9) (ht0 : t0 < n ∧ K t0 = 9) (ht1 : t1 < n ∧ K t1 = 100) (hl : lv_has ls 2 [(0, .ref (ad y0))]) (hf : f_X11_init_128 y0 t0 t1 n c q K N G V L = some r') : RG (zMb M c q) (zC D cy ad n K N G) V L 128 ls [.ref (ad t1), .ref (ad t0)] := by
  unfold f_X11_init_128 at hf
  refine a_putF (o := (some t1)) X ht0 cz_X11_72 cg_X11 rfl hin rfl rfl (Or.inr ⟨_, rfl, ht1.1, ht1.2⟩) (ct_X11_20) rfl rfl dX11_init_128 (fun X => ?_)
  refine z_aload_n X.1.1 dX11_init_131 rfl (lv_at hl 0 rfl) ?_
  refine z_bipush (v := 6) X.1.1 dX11_init_132 (by decide) ?_
  obtain ⟨hb1, hf⟩ := z_ite hf
  have hm := m_X11_init_136 y0 y0 n (n + 1) (c + 1) (q + (6 : Int32).toNatClampNeg) (kU K n 100) (kU N n (6 : Int32).toNatClampNeg) (kU (gS G t0 20 (some t1)) n zn0) (kU V n (fun _ => 0)) (kU L n (fun _ => 0)) hf
  refine a_newi X hb1 ca_100 ⟨by rw [hC.1]; exact hm.1, by rw [hC.2]; exact hm.2⟩ dX11_init_134 (fun ad' hag X => ?_)
  rw [← hag y0 hy0.1] at hl ⊢
  exact w_X11_init_136 Z hC hin y0 y0 n (n + 1) (c + 1) (q + (6 : Int32).toNatClampNeg) (kU K n 100) (kU N n (6 : Int32).toNatClampNeg) (kU (gS G t0 20 (some t1)) n zn0) (kU V n (fun _ => 0)) (kU L n (fun _ => 0)) ad' ls X (zag_up ha hn0 hag) (by omega) (zag_up hk0 hn0 (fun w h => kU_ne (by omega))) (zh_up hy0) (zh_up hy0) zh_new (lv_sub hl [0] rfl) hf

set_option maxHeartbeats 4000000 in
set_option maxRecDepth 100000 in
theorem w_X11_init_120 {M : zM} {D : va_G} {cy : Nat → ClassId} {ad0 K0 : Nat → Nat} {n0 : Nat} {r' : zS} (Z : RZAv M D cy ad0 n0 K0 r') (hC : M.2.2.2.1.cells = r'.2.1 ∧ M.2.2.2.1.slots = r'.2.2.1) (hin : M.2.2.2.2.2.2.2.2.1.name = "<init>") (y0 : Nat) (t0 : Nat) (t1 : Nat) (n c q : Nat) (K N : Nat → Nat) (G : zG) (V : zI) (L : zL) (ad : Nat → Nat) (ls : Array Slot) (X : RXA M D cy ad n c q K N G cX11_init 2 RX11 1 24) (ha : ∀ w, w < n0 → ad w = ad0 w) (hn0 : n0 ≤ n) (hk0 : ∀ w, w < n0 → K w = K0 w) (hy0 : y0 < n ∧ K y0 = 9) (ht0 : t0 < n ∧ K t0 = 9) (ht1 : t1 < n ∧ K t1 = 100) (hl : lv_has ls 2 [(0, .ref (ad y0))]) (hf : f_X11_init_120 y0 t0 t1 n c q K N G V L = some r') : RG (zMb M c q) (zC D cy ad n K N G) V L 120 ls [.ref (ad t1), .ref (ad t0)] := by
  unfold f_X11_init_120 at hf
  refine a_putF (o := (some t1)) X ht0 cz_X11_69 cg_X11 rfl hin rfl rfl (Or.inr ⟨_, rfl, ht1.1, ht1.2⟩) (ct_X11_19) rfl rfl dX11_init_120 (fun X => ?_)
  refine z_aload_n X.1.1 dX11_init_123 rfl (lv_at hl 0 rfl) ?_
  refine z_bipush (v := 6) X.1.1 dX11_init_124 (by decide) ?_
  obtain ⟨hb1, hf⟩ := z_ite hf
  have hm := m_X11_init_128 y0 y0 n (n + 1) (c + 1) (q + (6 : Int32).toNatClampNeg) (kU K n 100) (kU N n (6 : Int32).toNatClampNeg) (kU (gS G t0 19 (some t1)) n zn0) (kU V n (fun _ => 0)) (kU L n (fun _ => 0)) hf
  refine a_newi X hb1 ca_100 ⟨by rw [hC.1]; exact hm.1, by rw [hC.2]; exact hm.2⟩ dX11_init_126 (fun ad' hag X => ?_)
  rw [← hag y0 hy0.1] at hl ⊢
  exact w_X11_init_128 Z hC hin y0 y0 n (n + 1) (c + 1) (q + (6 : Int32).toNatClampNeg) (kU K n 100) (kU N n (6 : Int32).toNatClampNeg) (kU (gS G t0 19 (some t1)) n zn0) (kU V n (fun _ => 0)) (kU L n (fun _ => 0)) ad' ls X (zag_up ha hn0 hag) (by omega) (zag_up hk0 hn0 (fun w h => kU_ne (by omega))) (zh_up hy0) (zh_up hy0) zh_new (lv_sub hl [0] rfl) hf

set_option maxHeartbeats 4000000 in
set_option maxRecDepth 100000 in
theorem w_X11_init_113 {M : zM} {D : va_G} {cy : Nat → ClassId} {ad0 K0 : Nat → Nat} {n0 : Nat} {r' : zS} (Z : RZAv M D cy ad0 n0 K0 r') (hC : M.2.2.2.1.cells = r'.2.1 ∧ M.2.2.2.1.slots = r'.2.2.1) (hin : M.2.2.2.2.2.2.2.2.1.name = "<init>") (y0 : Nat) (t0 : Nat) (t1 : Nat) (n c q : Nat) (K N : Nat → Nat) (G : zG) (V : zI) (L : zL) (ad : Nat → Nat) (ls : Array Slot) (X : RXA M D cy ad n c q K N G cX11_init 2 RX11 1 24) (ha : ∀ w, w < n0 → ad w = ad0 w) (hn0 : n0 ≤ n) (hk0 : ∀ w, w < n0 → K w = K0 w) (hy0 : y0 < n ∧ K y0 = 9) (ht0 : t0 < n ∧ K t0 = 9) (ht1 : t1 < n ∧ K t1 = 100) (hl : lv_has ls 2 [(0, .ref (ad y0))]) (hf : f_X11_init_113 y0 t0 t1 n c q K N G V L = some r') : RG (zMb M c q) (zC D cy ad n K N G) V L 113 ls [.ref (ad t1), .ref (ad t0)] := by
  unfold f_X11_init_113 at hf
  refine a_putF (o := (some t1)) X ht0 cz_X11_66 cg_X11 rfl hin rfl rfl (Or.inr ⟨_, rfl, ht1.1, ht1.2⟩) (ct_X11_18) rfl rfl dX11_init_113 (fun X => ?_)
  refine z_aload_n X.1.1 dX11_init_116 rfl (lv_at hl 0 rfl) ?_
  refine z_iconst (v := 4) X.1.1 dX11_init_117 (by decide) ?_
  obtain ⟨hb1, hf⟩ := z_ite hf
  have hm := m_X11_init_120 y0 y0 n (n + 1) (c + 1) (q + (4 : Int32).toNatClampNeg) (kU K n 100) (kU N n (4 : Int32).toNatClampNeg) (kU (gS G t0 18 (some t1)) n zn0) (kU V n (fun _ => 0)) (kU L n (fun _ => 0)) hf
  refine a_newi X hb1 ca_100 ⟨by rw [hC.1]; exact hm.1, by rw [hC.2]; exact hm.2⟩ dX11_init_118 (fun ad' hag X => ?_)
  rw [← hag y0 hy0.1] at hl ⊢
  exact w_X11_init_120 Z hC hin y0 y0 n (n + 1) (c + 1) (q + (4 : Int32).toNatClampNeg) (kU K n 100) (kU N n (4 : Int32).toNatClampNeg) (kU (gS G t0 18 (some t1)) n zn0) (kU V n (fun _ => 0)) (kU L n (fun _ => 0)) ad' ls X (zag_up ha hn0 hag) (by omega) (zag_up hk0 hn0 (fun w h => kU_ne (by omega))) (zh_up hy0) (zh_up hy0) zh_new (lv_sub hl [0] rfl) hf

set_option maxHeartbeats 4000000 in
set_option maxRecDepth 100000 in
theorem w_X11_init_105 {M : zM} {D : va_G} {cy : Nat → ClassId} {ad0 K0 : Nat → Nat} {n0 : Nat} {r' : zS} (Z : RZAv M D cy ad0 n0 K0 r') (hC : M.2.2.2.1.cells = r'.2.1 ∧ M.2.2.2.1.slots = r'.2.2.1) (hin : M.2.2.2.2.2.2.2.2.1.name = "<init>") (y0 : Nat) (t0 : Nat) (t1 : Nat) (n c q : Nat) (K N : Nat → Nat) (G : zG) (V : zI) (L : zL) (ad : Nat → Nat) (ls : Array Slot) (X : RXA M D cy ad n c q K N G cX11_init 2 RX11 1 24) (ha : ∀ w, w < n0 → ad w = ad0 w) (hn0 : n0 ≤ n) (hk0 : ∀ w, w < n0 → K w = K0 w) (hy0 : y0 < n ∧ K y0 = 9) (ht0 : t0 < n ∧ K t0 = 9) (ht1 : t1 < n ∧ K t1 = 100) (hl : lv_has ls 2 [(0, .ref (ad y0))]) (hf : f_X11_init_105 y0 t0 t1 n c q K N G V L = some r') : RG (zMb M c q) (zC D cy ad n K N G) V L 105 ls [.ref (ad t1), .ref (ad t0)] := by
  unfold f_X11_init_105 at hf
  refine a_putF (o := (some t1)) X ht0 cz_X11_63 cg_X11 rfl hin rfl rfl (Or.inr ⟨_, rfl, ht1.1, ht1.2⟩) (ct_X11_17) rfl rfl dX11_init_105 (fun X => ?_)
  refine z_aload_n X.1.1 dX11_init_108 rfl (lv_at hl 0 rfl) ?_
  refine z_bipush (v := 72) X.1.1 dX11_init_109 (by decide) ?_
  obtain ⟨hb1, hf⟩ := z_ite hf
  have hm := m_X11_init_113 y0 y0 n (n + 1) (c + 1) (q + (72 : Int32).toNatClampNeg) (kU K n 100) (kU N n (72 : Int32).toNatClampNeg) (kU (gS G t0 17 (some t1)) n zn0) (kU V n (fun _ => 0)) (kU L n (fun _ => 0)) hf
  refine a_newi X hb1 ca_100 ⟨by rw [hC.1]; exact hm.1, by rw [hC.2]; exact hm.2⟩ dX11_init_111 (fun ad' hag X => ?_)
  rw [← hag y0 hy0.1] at hl ⊢
  exact w_X11_init_113 Z hC hin y0 y0 n (n + 1) (c + 1) (q + (72 : Int32).toNatClampNeg) (kU K n 100) (kU N n (72 : Int32).toNatClampNeg) (kU (gS G t0 17 (some t1)) n zn0) (kU V n (fun _ => 0)) (kU L n (fun _ => 0)) ad' ls X (zag_up ha hn0 hag) (by omega) (zag_up hk0 hn0 (fun w h => kU_ne (by omega))) (zh_up hy0) (zh_up hy0) zh_new (lv_sub hl [0] rfl) hf

set_option maxHeartbeats 4000000 in
set_option maxRecDepth 100000 in
theorem w_X11_init_97 {M : zM} {D : va_G} {cy : Nat → ClassId} {ad0 K0 : Nat → Nat} {n0 : Nat} {r' : zS} (Z : RZAv M D cy ad0 n0 K0 r') (hC : M.2.2.2.1.cells = r'.2.1 ∧ M.2.2.2.1.slots = r'.2.2.1) (hin : M.2.2.2.2.2.2.2.2.1.name = "<init>") (y0 : Nat) (t0 : Nat) (t1 : Nat) (n c q : Nat) (K N : Nat → Nat) (G : zG) (V : zI) (L : zL) (ad : Nat → Nat) (ls : Array Slot) (X : RXA M D cy ad n c q K N G cX11_init 2 RX11 1 24) (ha : ∀ w, w < n0 → ad w = ad0 w) (hn0 : n0 ≤ n) (hk0 : ∀ w, w < n0 → K w = K0 w) (hy0 : y0 < n ∧ K y0 = 9) (ht0 : t0 < n ∧ K t0 = 9) (ht1 : t1 < n ∧ K t1 = 100) (hl : lv_has ls 2 [(0, .ref (ad y0))]) (hf : f_X11_init_97 y0 t0 t1 n c q K N G V L = some r') : RG (zMb M c q) (zC D cy ad n K N G) V L 97 ls [.ref (ad t1), .ref (ad t0)] := by
  unfold f_X11_init_97 at hf
  refine a_putF (o := (some t1)) X ht0 cz_X11_60 cg_X11 rfl hin rfl rfl (Or.inr ⟨_, rfl, ht1.1, ht1.2⟩) (ct_X11_16) rfl rfl dX11_init_97 (fun X => ?_)
  refine z_aload_n X.1.1 dX11_init_100 rfl (lv_at hl 0 rfl) ?_
  refine z_bipush (v := 72) X.1.1 dX11_init_101 (by decide) ?_
  obtain ⟨hb1, hf⟩ := z_ite hf
  have hm := m_X11_init_105 y0 y0 n (n + 1) (c + 1) (q + (72 : Int32).toNatClampNeg) (kU K n 100) (kU N n (72 : Int32).toNatClampNeg) (kU (gS G t0 16 (some t1)) n zn0) (kU V n (fun _ => 0)) (kU L n (fun _ => 0)) hf
  refine a_newi X hb1 ca_100 ⟨by rw [hC.1]; exact hm.1, by rw [hC.2]; exact hm.2⟩ dX11_init_103 (fun ad' hag X => ?_)
  rw [← hag y0 hy0.1] at hl ⊢
  exact w_X11_init_105 Z hC hin y0 y0 n (n + 1) (c + 1) (q + (72 : Int32).toNatClampNeg) (kU K n 100) (kU N n (72 : Int32).toNatClampNeg) (kU (gS G t0 16 (some t1)) n zn0) (kU V n (fun _ => 0)) (kU L n (fun _ => 0)) ad' ls X (zag_up ha hn0 hag) (by omega) (zag_up hk0 hn0 (fun w h => kU_ne (by omega))) (zh_up hy0) (zh_up hy0) zh_new (lv_sub hl [0] rfl) hf

set_option maxHeartbeats 4000000 in
set_option maxRecDepth 100000 in
theorem w_X11_init_89 {M : zM} {D : va_G} {cy : Nat → ClassId} {ad0 K0 : Nat → Nat} {n0 : Nat} {r' : zS} (Z : RZAv M D cy ad0 n0 K0 r') (hC : M.2.2.2.1.cells = r'.2.1 ∧ M.2.2.2.1.slots = r'.2.2.1) (hin : M.2.2.2.2.2.2.2.2.1.name = "<init>") (y0 : Nat) (t0 : Nat) (t1 : Nat) (n c q : Nat) (K N : Nat → Nat) (G : zG) (V : zI) (L : zL) (ad : Nat → Nat) (ls : Array Slot) (X : RXA M D cy ad n c q K N G cX11_init 2 RX11 1 24) (ha : ∀ w, w < n0 → ad w = ad0 w) (hn0 : n0 ≤ n) (hk0 : ∀ w, w < n0 → K w = K0 w) (hy0 : y0 < n ∧ K y0 = 9) (ht0 : t0 < n ∧ K t0 = 9) (ht1 : t1 < n ∧ K t1 = 100) (hl : lv_has ls 2 [(0, .ref (ad y0))]) (hf : f_X11_init_89 y0 t0 t1 n c q K N G V L = some r') : RG (zMb M c q) (zC D cy ad n K N G) V L 89 ls [.ref (ad t1), .ref (ad t0)] := by
  unfold f_X11_init_89 at hf
  refine a_putF (o := (some t1)) X ht0 cz_X11_57 cg_X11 rfl hin rfl rfl (Or.inr ⟨_, rfl, ht1.1, ht1.2⟩) (ct_X11_15) rfl rfl dX11_init_89 (fun X => ?_)
  refine z_aload_n X.1.1 dX11_init_92 rfl (lv_at hl 0 rfl) ?_
  refine z_bipush (v := 72) X.1.1 dX11_init_93 (by decide) ?_
  obtain ⟨hb1, hf⟩ := z_ite hf
  have hm := m_X11_init_97 y0 y0 n (n + 1) (c + 1) (q + (72 : Int32).toNatClampNeg) (kU K n 100) (kU N n (72 : Int32).toNatClampNeg) (kU (gS G t0 15 (some t1)) n zn0) (kU V n (fun _ => 0)) (kU L n (fun _ => 0)) hf
  refine a_newi X hb1 ca_100 ⟨by rw [hC.1]; exact hm.1, by rw [hC.2]; exact hm.2⟩ dX11_init_95 (fun ad' hag X => ?_)
  rw [← hag y0 hy0.1] at hl ⊢
  exact w_X11_init_97 Z hC hin y0 y0 n (n + 1) (c + 1) (q + (72 : Int32).toNatClampNeg) (kU K n 100) (kU N n (72 : Int32).toNatClampNeg) (kU (gS G t0 15 (some t1)) n zn0) (kU V n (fun _ => 0)) (kU L n (fun _ => 0)) ad' ls X (zag_up ha hn0 hag) (by omega) (zag_up hk0 hn0 (fun w h => kU_ne (by omega))) (zh_up hy0) (zh_up hy0) zh_new (lv_sub hl [0] rfl) hf

set_option maxHeartbeats 4000000 in
set_option maxRecDepth 100000 in
theorem w_X11_init_82 {M : zM} {D : va_G} {cy : Nat → ClassId} {ad0 K0 : Nat → Nat} {n0 : Nat} {r' : zS} (Z : RZAv M D cy ad0 n0 K0 r') (hC : M.2.2.2.1.cells = r'.2.1 ∧ M.2.2.2.1.slots = r'.2.2.1) (hin : M.2.2.2.2.2.2.2.2.1.name = "<init>") (y0 : Nat) (t0 : Nat) (t1 : Nat) (n c q : Nat) (K N : Nat → Nat) (G : zG) (V : zI) (L : zL) (ad : Nat → Nat) (ls : Array Slot) (X : RXA M D cy ad n c q K N G cX11_init 2 RX11 1 24) (ha : ∀ w, w < n0 → ad w = ad0 w) (hn0 : n0 ≤ n) (hk0 : ∀ w, w < n0 → K w = K0 w) (hy0 : y0 < n ∧ K y0 = 9) (ht0 : t0 < n ∧ K t0 = 9) (ht1 : t1 < n ∧ K t1 = 100) (hl : lv_has ls 2 [(0, .ref (ad y0))]) (hf : f_X11_init_82 y0 t0 t1 n c q K N G V L = some r') : RG (zMb M c q) (zC D cy ad n K N G) V L 82 ls [.ref (ad t1), .ref (ad t0)] := by
  unfold f_X11_init_82 at hf
  refine a_putF (o := (some t1)) X ht0 cz_X11_54 cg_X11 rfl hin rfl rfl (Or.inr ⟨_, rfl, ht1.1, ht1.2⟩) (ct_X11_14) rfl rfl dX11_init_82 (fun X => ?_)
  refine z_aload_n X.1.1 dX11_init_85 rfl (lv_at hl 0 rfl) ?_
  refine z_iconst (v := 2) X.1.1 dX11_init_86 (by decide) ?_
  obtain ⟨hb1, hf⟩ := z_ite hf
  have hm := m_X11_init_89 y0 y0 n (n + 1) (c + 1) (q + (2 : Int32).toNatClampNeg) (kU K n 100) (kU N n (2 : Int32).toNatClampNeg) (kU (gS G t0 14 (some t1)) n zn0) (kU V n (fun _ => 0)) (kU L n (fun _ => 0)) hf
  refine a_newi X hb1 ca_100 ⟨by rw [hC.1]; exact hm.1, by rw [hC.2]; exact hm.2⟩ dX11_init_87 (fun ad' hag X => ?_)
  rw [← hag y0 hy0.1] at hl ⊢
  exact w_X11_init_89 Z hC hin y0 y0 n (n + 1) (c + 1) (q + (2 : Int32).toNatClampNeg) (kU K n 100) (kU N n (2 : Int32).toNatClampNeg) (kU (gS G t0 14 (some t1)) n zn0) (kU V n (fun _ => 0)) (kU L n (fun _ => 0)) ad' ls X (zag_up ha hn0 hag) (by omega) (zag_up hk0 hn0 (fun w h => kU_ne (by omega))) (zh_up hy0) (zh_up hy0) zh_new (lv_sub hl [0] rfl) hf

set_option maxHeartbeats 4000000 in
set_option maxRecDepth 100000 in
theorem w_X11_init_10 {M : zM} {D : va_G} {cy : Nat → ClassId} {ad0 K0 : Nat → Nat} {n0 : Nat} {r' : zS} (Z : RZAv M D cy ad0 n0 K0 r') (hC : M.2.2.2.1.cells = r'.2.1 ∧ M.2.2.2.1.slots = r'.2.2.1) (hin : M.2.2.2.2.2.2.2.2.1.name = "<init>") (y0 : Nat) (t0 : Nat) (t1 : Nat) (n c q : Nat) (K N : Nat → Nat) (G : zG) (V : zI) (L : zL) (ad : Nat → Nat) (ls : Array Slot) (X : RXA M D cy ad n c q K N G cX11_init 2 RX11 1 24) (ha : ∀ w, w < n0 → ad w = ad0 w) (hn0 : n0 ≤ n) (hk0 : ∀ w, w < n0 → K w = K0 w) (hy0 : y0 < n ∧ K y0 = 9) (ht0 : t0 < n ∧ K t0 = 9) (ht1 : t1 < n ∧ K t1 = 100) (hl : lv_has ls 2 [(0, .ref (ad y0))]) (hf : f_X11_init_10 y0 t0 t1 n c q K N G V L = some r') : RG (zMb M c q) (zC D cy ad n K N G) V L 10 ls [.ref (ad t1), .ref (ad t0)] := by
  unfold f_X11_init_10 at hf
  refine a_putF (o := (some t1)) X ht0 cz_X11_7 cg_X11 rfl hin rfl rfl (Or.inr ⟨_, rfl, ht1.1, ht1.2⟩) (ct_X11_0) rfl rfl dX11_init_10 (fun X => ?_)
  refine z_aload_n X.1.1 dX11_init_13 rfl (lv_at hl 0 rfl) ?_
  refine z_iconst (v := 0) X.1.1 dX11_init_14 (by decide) ?_
  refine c_puti X.1 hy0 cf_X11_13 cg_X11 cp_X11_1 rfl rfl dX11_init_15 ?_
  refine z_aload_n X.1.1 dX11_init_18 rfl (lv_at hl 0 rfl) ?_
  refine z_iconst (v := 0) X.1.1 dX11_init_19 (by decide) ?_
  refine c_puti X.1 hy0 cf_X11_17 cg_X11 cp_X11_2 rfl rfl dX11_init_20 ?_
  refine z_aload_n X.1.1 dX11_init_23 rfl (lv_at hl 0 rfl) ?_
  refine z_iconst (v := 0) X.1.1 dX11_init_24 (by decide) ?_
  refine c_puti X.1 hy0 cf_X11_20 cg_X11 cp_X11_3 rfl rfl dX11_init_25 ?_
  refine z_aload_n X.1.1 dX11_init_28 rfl (lv_at hl 0 rfl) ?_
  refine z_iconst (v := 0) X.1.1 dX11_init_29 (by decide) ?_
  refine c_puti X.1 hy0 cf_X11_23 cg_X11 cp_X11_4 rfl rfl dX11_init_30 ?_
  refine z_aload_n X.1.1 dX11_init_33 rfl (lv_at hl 0 rfl) ?_
  refine z_iconst (v := 0) X.1.1 dX11_init_34 (by decide) ?_
  refine c_puti X.1 hy0 cf_X11_26 cg_X11 cp_X11_5 rfl rfl dX11_init_35 ?_
  refine z_aload_n X.1.1 dX11_init_38 rfl (lv_at hl 0 rfl) ?_
  refine z_iconst (v := 0) X.1.1 dX11_init_39 (by decide) ?_
  refine c_puti X.1 hy0 cf_X11_29 cg_X11 cp_X11_6 rfl rfl dX11_init_40 ?_
  refine z_aload_n X.1.1 dX11_init_43 rfl (lv_at hl 0 rfl) ?_
  refine z_lconst (v := 0) X.1.1 dX11_init_44 (by decide) ?_
  refine c_putl X.1 hy0 cf_X11_32 cg_X11 cp_X11_7 rfl rfl dX11_init_45 ?_
  refine z_aload_n X.1.1 dX11_init_48 rfl (lv_at hl 0 rfl) ?_
  refine z_iconst (v := 0) X.1.1 dX11_init_49 (by decide) ?_
  refine c_puti X.1 hy0 cf_X11_36 cg_X11 cp_X11_8 rfl rfl dX11_init_50 ?_
  refine z_aload_n X.1.1 dX11_init_53 rfl (lv_at hl 0 rfl) ?_
  refine z_iconst (v := -1) X.1.1 dX11_init_54 (by decide) ?_
  refine c_puti X.1 hy0 cf_X11_39 cg_X11 cp_X11_9 rfl rfl dX11_init_55 ?_
  refine z_aload_n X.1.1 dX11_init_58 rfl (lv_at hl 0 rfl) ?_
  refine z_iconst (v := 0) X.1.1 dX11_init_59 (by decide) ?_
  refine c_puti X.1 hy0 cf_X11_42 cg_X11 cp_X11_10 rfl rfl dX11_init_60 ?_
  refine z_aload_n X.1.1 dX11_init_63 rfl (lv_at hl 0 rfl) ?_
  refine z_iconst (v := -1) X.1.1 dX11_init_64 (by decide) ?_
  refine c_puti X.1 hy0 cf_X11_45 cg_X11 cp_X11_11 rfl rfl dX11_init_65 ?_
  refine z_aload_n X.1.1 dX11_init_68 rfl (lv_at hl 0 rfl) ?_
  refine z_iconst (v := -1) X.1.1 dX11_init_69 (by decide) ?_
  refine c_puti X.1 hy0 cf_X11_48 cg_X11 cp_X11_12 rfl rfl dX11_init_70 ?_
  refine z_aload_n X.1.1 dX11_init_73 rfl (lv_at hl 0 rfl) ?_
  refine z_iconst (v := 0) X.1.1 dX11_init_74 (by decide) ?_
  refine c_puti X.1 hy0 cf_X11_51 cg_X11 cp_X11_13 rfl rfl dX11_init_75 ?_
  refine z_aload_n X.1.1 dX11_init_78 rfl (lv_at hl 0 rfl) ?_
  refine z_iconst (v := 2) X.1.1 dX11_init_79 (by decide) ?_
  obtain ⟨hb1, hf⟩ := z_ite hf
  have hm := m_X11_init_82 y0 y0 n (n + 1) (c + 1) (q + (2 : Int32).toNatClampNeg) (kU K n 100) (kU N n (2 : Int32).toNatClampNeg) (kU (gS G t0 0 (some t1)) n zn0) (kU (z_uI (z_uI (z_uI (z_uI (z_uI (z_uI (z_uI (z_uI (z_uI (z_uI (z_uI (z_uI V y0 1 0) y0 2 0) y0 3 0) y0 4 0) y0 5 0) y0 6 0) y0 8 0) y0 9 (-1)) y0 10 0) y0 11 (-1)) y0 12 (-1)) y0 13 0) n (fun _ => 0)) (kU (z_uL L y0 7 0) n (fun _ => 0)) hf
  refine a_newi X hb1 ca_100 ⟨by rw [hC.1]; exact hm.1, by rw [hC.2]; exact hm.2⟩ dX11_init_80 (fun ad' hag X => ?_)
  rw [← hag y0 hy0.1] at hl ⊢
  exact w_X11_init_82 Z hC hin y0 y0 n (n + 1) (c + 1) (q + (2 : Int32).toNatClampNeg) (kU K n 100) (kU N n (2 : Int32).toNatClampNeg) (kU (gS G t0 0 (some t1)) n zn0) (kU (z_uI (z_uI (z_uI (z_uI (z_uI (z_uI (z_uI (z_uI (z_uI (z_uI (z_uI (z_uI V y0 1 0) y0 2 0) y0 3 0) y0 4 0) y0 5 0) y0 6 0) y0 8 0) y0 9 (-1)) y0 10 0) y0 11 (-1)) y0 12 (-1)) y0 13 0) n (fun _ => 0)) (kU (z_uL L y0 7 0) n (fun _ => 0)) ad' ls X (zag_up ha hn0 hag) (by omega) (zag_up hk0 hn0 (fun w h => kU_ne (by omega))) (zh_up hy0) (zh_up hy0) zh_new (lv_sub hl [0] rfl) hf

set_option maxHeartbeats 4000000 in
set_option maxRecDepth 100000 in
theorem w_X11_init {M : zM} {D : va_G} {cy : Nat → ClassId} {ad0 K0 : Nat → Nat} {n0 : Nat} {r' : zS} (Z : RZAv M D cy ad0 n0 K0 r') (hC : M.2.2.2.1.cells = r'.2.1 ∧ M.2.2.2.1.slots = r'.2.2.1) (hin : M.2.2.2.2.2.2.2.2.1.name = "<init>") (y0 : Nat) (n c q : Nat) (K N : Nat → Nat) (G : zG) (V : zI) (L : zL) (ad : Nat → Nat) (ls : Array Slot) (X : RXA M D cy ad n c q K N G cX11_init 2 RX11 1 24) (ha : ∀ w, w < n0 → ad w = ad0 w) (hn0 : n0 ≤ n) (hk0 : ∀ w, w < n0 → K w = K0 w) (hy0 : y0 < n ∧ K y0 = 9) (hl : lv_has ls 2 [(0, .ref (ad y0))]) (hf : g_X11_init y0 n c q K N G V L = some r') : RG (zMb M c q) (zC D cy ad n K N G) V L 0 ls [] := by
  unfold g_X11_init at hf
  refine z_aload_n X.1.1 dX11_init_0 rfl (lv_at hl 0 rfl) ?_
  refine a_obj X hl.1 co_X11_1 ⟨by decide, Nat.le_of_ble_eq_true rfl⟩ dX11_init_1 ?_
  refine z_aload_n X.1.1 dX11_init_4 rfl (lv_at hl 0 rfl) ?_
  refine z_sipush (v := 1800) X.1.1 dX11_init_5 (by decide) ?_
  obtain ⟨hb1, hf⟩ := z_ite hf
  have hm := m_X11_init_10 y0 y0 n (n + 1) (c + 1) (q + (1800 : Int32).toNatClampNeg) (kU K n 100) (kU N n (1800 : Int32).toNatClampNeg) (kU G n zn0) (kU V n (fun _ => 0)) (kU L n (fun _ => 0)) hf
  refine a_newi X hb1 ca_100 ⟨by rw [hC.1]; exact hm.1, by rw [hC.2]; exact hm.2⟩ dX11_init_8 (fun ad' hag X => ?_)
  rw [← hag y0 hy0.1] at hl ⊢
  exact w_X11_init_10 Z hC hin y0 y0 n (n + 1) (c + 1) (q + (1800 : Int32).toNatClampNeg) (kU K n 100) (kU N n (1800 : Int32).toNatClampNeg) (kU G n zn0) (kU V n (fun _ => 0)) (kU L n (fun _ => 0)) ad' ls X (zag_up ha hn0 hag) (by omega) (zag_up hk0 hn0 (fun w h => kU_ne (by omega))) (zh_up hy0) (zh_up hy0) zh_new (lv_sub hl [0] rfl) hf

theorem c_X11_init (D : va_G) (cy : Nat → ClassId) (ad : Nat → Nat) {n : Nat} {K N : Nat → Nat} {G : zG} (hWF : zWF n K G) {y0 : Nat} {V : zI} {L : zL} (hy0 : y0 < n ∧ K y0 = 9) {r' : zS} (hf : f_X11_init y0 n K N G V L = some r') : RAv D cy ad n K N G yX11_init cX11_init 2 1 24 [.ref (ad y0)] V L r' :=
  RAv.of (by decide) hWF (Nat.le_of_ble_eq_true rfl) (fun M X Z hC hnm ls hl => w_X11_init Z hC hnm y0 n 0 0 K N G V L ad ls X (fun _ _ => rfl) (Nat.le_refl _) (fun _ _ => rfl) hy0 hl hf)
