def b_silent_8 (k8 : Int32 × zI × zL → Option (Int32 × zI × zL)) : Int32 × zI × zL → Option (Int32 × zI × zL) := fun ⟨x1, V, L⟩ =>
  (f_isAhead x1 0 60 V L).bind fun r1 => (if r1.1 = 0 then some ((-1), r1.2.1, r1.2.2) else (f_isSilent 1 r1.2.1 r1.2.2).bind fun r2 => (if r2.1 = 0 then (f_passes 1 0 r2.2.1 r2.2.2).bind fun r3 => k8 ((x1 + 1), r3.1, r3.2) else some (x1, r2.2.1, r2.2.2)))
def f_silent (V : zI) (L : zL) : Option (Int32 × zI × zL) :=
  (f_copies 1 0 V L).bind fun r1 => zfix (b_silent_8) FU (0, r1.1, r1.2)
set_option maxHeartbeats 4000000 in
set_option maxRecDepth 100000 in
theorem w_silent_8 {M : zM} {D : va_G} {cy : Nat → ClassId} {ad : Nat → Nat} {r' : Int32 × zI × zL} (X : RX M (zR D cy ad) cX11_silent 2 RX11 6 146) (Z : RZi M (zR D cy ad) .int r'.1 r'.2.1 r'.2.2) (n : Nat) : ∀ (x1 : Int32) (V : zI) (L : zL) (ls : Array Slot) (hl : lv_has ls 2 [(0, .ref (ad 0)), (1, .int x1)]) (hf : zfix (b_silent_8) n (x1, V, L) = some r'), RG M (zR D cy ad) V L 8 ls [] := by
  induction n with
  | zero => intro x1 V L ls hl hf; cases hf
  | succ n ih =>
  intro x1 V L ls hl hf
  have hk8 : ∀ (x1 : Int32) (V : zI) (L : zL) (ls : Array Slot), lv_has ls 2 [(0, .ref (ad 0)), (1, .int x1)] → zfix (b_silent_8) n (x1, V, L) = some r' → RG M (zR D cy ad) V L 8 ls [] := ih
  have hf : b_silent_8 (zfix (b_silent_8) n) (x1, V, L) = some r' := hf
  generalize zfix (b_silent_8) n = k8 at hk8 hf
  unfold b_silent_8 at hf
  clear ih
  refine z_aload_n X dX11_silent_8 rfl (lv_at hl 0 rfl) ?_
  refine z_iload_n X dX11_silent_9 rfl (lv_at hl 1 rfl) ?_
  refine z_iconst (v := 0) X dX11_silent_10 (by decide) ?_
  refine z_bipush (v := 60) X dX11_silent_11 (by decide) ?_
  obtain ⟨r1, hc1, hf⟩ := z_bind hf
  refine m_callVi [.int x1, .int 0, .int 60] X hl.1 (c_isAhead D cy ad hc1) gm_isAhead pd_isAhead rfl ⟨by decide, by decide⟩ (Nat.le_of_ble_eq_true rfl) rfl dX11_silent_13 ?_
  refine z_if_eq (tgt := 41) X dX11_silent_16 (by decide) (fun c_ => ?_) (fun c_ => ?_)
  · have hf := (if_pos c_).symm.trans hf
    refine z_iconst (v := -1) X dX11_silent_41 (by decide) ?_
    exact m_iret X Z hf rfl dX11_silent_42
  · have hf := (if_neg c_).symm.trans hf
    refine z_aload_n X dX11_silent_19 rfl (lv_at hl 0 rfl) ?_
    refine z_iconst (v := 1) X dX11_silent_20 (by decide) ?_
    obtain ⟨r2, hc2, hf⟩ := z_bind hf
    refine m_callVi [.int 1] X hl.1 (c_isSilent D cy ad hc2) gm_isSilent pd_isSilent rfl ⟨by decide, by decide⟩ (Nat.le_of_ble_eq_true rfl) rfl dX11_silent_21 ?_
    refine z_if_eq (tgt := 29) X dX11_silent_24 (by decide) (fun c_ => ?_) (fun c_ => ?_)
    · have hf := (if_pos c_).symm.trans hf
      refine z_aload_n X dX11_silent_29 rfl (lv_at hl 0 rfl) ?_
      refine z_iconst (v := 1) X dX11_silent_30 (by decide) ?_
      refine z_iconst (v := 0) X dX11_silent_31 (by decide) ?_
      obtain ⟨r3, hc3, hf⟩ := z_bind hf
      refine m_callVv [.int 1, .int 0] X hl.1 (c_passes D cy ad hc3) gm_passes pd_passes rfl ⟨by decide, by decide⟩ (Nat.le_of_ble_eq_true rfl) rfl dX11_silent_32 ?_
      refine z_iinc (v := x1 + 1) (k0 := 1) (lv' := [(1, .int (x1 + 1)), (0, .ref (ad 0))]) X dX11_silent_35 hl rfl rfl (by decide) rfl (fun ls hl => ?_)
      refine z_goto (tgt := 8) X dX11_silent_38 (by decide) ?_
      exact hk8 (x1 + 1) r3.1 r3.2 ls (lv_sub hl [1, 0] rfl) hf
    · have hf := (if_neg c_).symm.trans hf
      refine z_iload_n X dX11_silent_27 rfl (lv_at hl 1 rfl) ?_
      exact m_iret X Z hf rfl dX11_silent_28

set_option maxHeartbeats 4000000 in
set_option maxRecDepth 100000 in
theorem w_silent {M : zM} {D : va_G} {cy : Nat → ClassId} {ad : Nat → Nat} {r' : Int32 × zI × zL} (X : RX M (zR D cy ad) cX11_silent 2 RX11 6 146) (Z : RZi M (zR D cy ad) .int r'.1 r'.2.1 r'.2.2)  (V : zI) (L : zL) (ls : Array Slot) (hl : lv_has ls 2 [(0, .ref (ad 0))]) (hf : f_silent V L = some r') : RG M (zR D cy ad) V L 0 ls [] := by
  unfold f_silent at hf
  refine z_aload_n X dX11_silent_0 rfl (lv_at hl 0 rfl) ?_
  refine z_iconst (v := 1) X dX11_silent_1 (by decide) ?_
  refine z_iconst (v := 0) X dX11_silent_2 (by decide) ?_
  obtain ⟨r1, hc1, hf⟩ := z_bind hf
  refine m_callVv [.int 1, .int 0] X hl.1 (c_copies D cy ad hc1) gm_copies pd_copies rfl ⟨by decide, by decide⟩ (Nat.le_of_ble_eq_true rfl) rfl dX11_silent_3 ?_
  refine z_iconst (v := 0) X dX11_silent_6 (by decide) ?_
  refine z_istore_n (lv' := [(1, .int 0), (0, .ref (ad 0))]) X dX11_silent_7 rfl hl (by decide) rfl (fun ls hl => ?_)
  exact w_silent_8 X Z FU 0 r1.1 r1.2 ls (lv_sub hl [1, 0] rfl) hf

theorem c_silent (D : va_G) (cy : Nat → ClassId) (ad : Nat → Nat)  {V : zI} {L : zL} {r' : Int32 × zI × zL} (hf : f_silent V L = some r') : RMi (zR D cy ad) yX11_silent cX11_silent 2 .int 6 146 [.ref (ad 0)] V L r'.1 r'.2.1 r'.2.2 :=
  RMi.of (by decide) zR_nd (Nat.le_of_ble_eq_true rfl) (fun M X Z ls hl => w_silent X Z V L ls hl hf)
def b_isAsHeld_10 (k2 : Int32 × zI × zL → Option (zI × zL)) (k10 : Int32 × Int32 × zI × zL → Option (zI × zL)) : Int32 × Int32 × zI × zL → Option (zI × zL) := fun ⟨x1, x2, V, L⟩ =>
  (if 6 ≤ x2 then k2 ((x1 + 1), V, L) else (f_isPair x1 x2 V L).bind fun r1 => (if r1.1 = 0 then if inB (((6 : Int32) * x1) + x2) 36 then k10 (x1, (x2 + 1), z_uI r1.2.1 30 (((6 : Int32) * x1) + x2).toNatClampNeg (vp_nar .boolean 0), r1.2.2) else none else (f_isWay x1 x2 r1.2.1 r1.2.2).bind fun r3 => (if r3.1 = 0 then if inB (((6 : Int32) * x1) + x2) 36 then k10 (x1, (x2 + 1), z_uI r3.2.1 30 (((6 : Int32) * x1) + x2).toNatClampNeg (vp_nar .boolean 0), r3.2.2) else none else (f_at 0 x1 x2 r3.2.1 r3.2.2).bind fun r5 => if inB r5.1 792 then (if (r5.2.1 21 r5.1.toNatClampNeg) ≤ 0 then if inB (((6 : Int32) * x1) + x2) 36 then k10 (x1, (x2 + 1), z_uI r5.2.1 30 (((6 : Int32) * x1) + x2).toNatClampNeg (vp_nar .boolean 0), r5.2.2) else none else if inB (((6 : Int32) * x1) + x2) 36 then k10 (x1, (x2 + 1), z_uI r5.2.1 30 (((6 : Int32) * x1) + x2).toNatClampNeg (vp_nar .boolean 1), r5.2.2) else none) else none)))
def b_isAsHeld_2 (k2 : Int32 × zI × zL → Option (zI × zL)) : Int32 × zI × zL → Option (zI × zL) := fun ⟨x1, V, L⟩ =>
  (if 6 ≤ x1 then some (V, L) else zfix (b_isAsHeld_10 k2) FU (x1, 0, V, L))
def f_isAsHeld (V : zI) (L : zL) : Option (zI × zL) :=
  zfix (b_isAsHeld_2) FU (0, V, L)
set_option maxHeartbeats 4000000 in
set_option maxRecDepth 100000 in
theorem w_isAsHeld_10 {M : zM} {D : va_G} {cy : Nat → ClassId} {ad : Nat → Nat} {r' : zI × zL} (X : RX M (zR D cy ad) cX11_isAsHeld 3 RX11 3 67) (Z : RZv M (zR D cy ad) r'.1 r'.2) {k2 : Int32 × zI × zL → Option (zI × zL)} (hk2 : ∀ (x1 : Int32) (V : zI) (L : zL) (ls : Array Slot), lv_has ls 3 [(0, .ref (ad 0)), (1, .int x1)] → k2 (x1, V, L) = some r' → RG M (zR D cy ad) V L 2 ls []) (n : Nat) : ∀ (x1 : Int32) (x2 : Int32) (V : zI) (L : zL) (ls : Array Slot) (hl : lv_has ls 3 [(0, .ref (ad 0)), (1, .int x1), (2, .int x2)]) (hf : zfix (b_isAsHeld_10 k2) n (x1, x2, V, L) = some r'), RG M (zR D cy ad) V L 10 ls [] := by
  induction n with
  | zero => intro x1 x2 V L ls hl hf; cases hf
  | succ n ih =>
  intro x1 x2 V L ls hl hf
  have hk10 : ∀ (x1 : Int32) (x2 : Int32) (V : zI) (L : zL) (ls : Array Slot), lv_has ls 3 [(0, .ref (ad 0)), (1, .int x1), (2, .int x2)] → zfix (b_isAsHeld_10 k2) n (x1, x2, V, L) = some r' → RG M (zR D cy ad) V L 10 ls [] := ih
  have hf : b_isAsHeld_10 k2 (zfix (b_isAsHeld_10 k2) n) (x1, x2, V, L) = some r' := hf
  generalize zfix (b_isAsHeld_10 k2) n = k10 at hk10 hf
  unfold b_isAsHeld_10 at hf
  clear ih
  refine z_iload_n X dX11_isAsHeld_10 rfl (lv_at hl 2 rfl) ?_
  refine z_bipush (v := 6) X dX11_isAsHeld_11 (by decide) ?_
  refine z_icmp_ge (tgt := 71) X dX11_isAsHeld_13 (by decide) (fun c_ => ?_) (fun c_ => ?_)
  · have hf := (if_pos c_).symm.trans hf
    refine z_iinc (v := x1 + 1) (k0 := 1) (lv' := [(1, .int (x1 + 1)), (0, .ref (ad 0)), (2, .int x2)]) X dX11_isAsHeld_71 hl rfl rfl (by decide) rfl (fun ls hl => ?_)
    refine z_goto (tgt := 2) X dX11_isAsHeld_74 (by decide) ?_
    exact hk2 (x1 + 1) V L ls (lv_sub hl [1, 0] rfl) hf
  · have hf := (if_neg c_).symm.trans hf
    refine z_aload_n X dX11_isAsHeld_16 rfl (lv_at hl 0 rfl) ?_
    refine m_geta X ff_55 dX11_isAsHeld_17 ?_
    refine z_bipush (v := 6) X dX11_isAsHeld_20 (by decide) ?_
    refine z_iload_n X dX11_isAsHeld_22 rfl (lv_at hl 1 rfl) ?_
    refine z_imul X dX11_isAsHeld_23 ?_
    refine z_iload_n X dX11_isAsHeld_24 rfl (lv_at hl 2 rfl) ?_
    refine z_iadd X dX11_isAsHeld_25 ?_
    refine z_aload_n X dX11_isAsHeld_26 rfl (lv_at hl 0 rfl) ?_
    refine z_iload_n X dX11_isAsHeld_27 rfl (lv_at hl 1 rfl) ?_
    refine z_iload_n X dX11_isAsHeld_28 rfl (lv_at hl 2 rfl) ?_
    obtain ⟨r1, hc1, hf⟩ := z_bind hf
    refine m_callVi [.int x1, .int x2] X hl.1 (c_isPair D cy ad hc1) gm_isPair pd_isPair rfl ⟨by decide, by decide⟩ (Nat.le_of_ble_eq_true rfl) rfl dX11_isAsHeld_29 ?_
    refine z_if_eq (tgt := 63) X dX11_isAsHeld_32 (by decide) (fun c_ => ?_) (fun c_ => ?_)
    · have hf := (if_pos c_).symm.trans hf
      refine z_iconst (v := 0) X dX11_isAsHeld_63 (by decide) ?_
      obtain ⟨hb2, hf⟩ := z_ite hf
      refine m_zast X pa_30 hb2 dX11_isAsHeld_64 ?_
      refine z_iinc (v := x2 + 1) (k0 := 2) (lv' := [(2, .int (x2 + 1)), (0, .ref (ad 0)), (1, .int x1)]) X dX11_isAsHeld_65 hl rfl rfl (by decide) rfl (fun ls hl => ?_)
      refine z_goto (tgt := 10) X dX11_isAsHeld_68 (by decide) ?_
      exact hk10 x1 (x2 + 1) (z_uI r1.2.1 30 (((6 : Int32) * x1) + x2).toNatClampNeg (vp_nar .boolean 0)) r1.2.2 ls (lv_sub hl [1, 2, 0] rfl) hf
    · have hf := (if_neg c_).symm.trans hf
      refine z_aload_n X dX11_isAsHeld_35 rfl (lv_at hl 0 rfl) ?_
      refine z_iload_n X dX11_isAsHeld_36 rfl (lv_at hl 1 rfl) ?_
      refine z_iload_n X dX11_isAsHeld_37 rfl (lv_at hl 2 rfl) ?_
      obtain ⟨r3, hc3, hf⟩ := z_bind hf
      refine m_callVi [.int x1, .int x2] X hl.1 (c_isWay D cy ad hc3) gm_isWay pd_isWay rfl ⟨by decide, by decide⟩ (Nat.le_of_ble_eq_true rfl) rfl dX11_isAsHeld_38 ?_
      refine z_if_eq (tgt := 63) X dX11_isAsHeld_41 (by decide) (fun c_ => ?_) (fun c_ => ?_)
      · have hf := (if_pos c_).symm.trans hf
        refine z_iconst (v := 0) X dX11_isAsHeld_63 (by decide) ?_
        obtain ⟨hb4, hf⟩ := z_ite hf
        refine m_zast X pa_30 hb4 dX11_isAsHeld_64 ?_
        refine z_iinc (v := x2 + 1) (k0 := 2) (lv' := [(2, .int (x2 + 1)), (0, .ref (ad 0)), (1, .int x1)]) X dX11_isAsHeld_65 hl rfl rfl (by decide) rfl (fun ls hl => ?_)
        refine z_goto (tgt := 10) X dX11_isAsHeld_68 (by decide) ?_
        exact hk10 x1 (x2 + 1) (z_uI r3.2.1 30 (((6 : Int32) * x1) + x2).toNatClampNeg (vp_nar .boolean 0)) r3.2.2 ls (lv_sub hl [1, 2, 0] rfl) hf
      · have hf := (if_neg c_).symm.trans hf
        refine z_aload_n X dX11_isAsHeld_44 rfl (lv_at hl 0 rfl) ?_
        refine m_geta X ff_40 dX11_isAsHeld_45 ?_
        refine z_aload_n X dX11_isAsHeld_48 rfl (lv_at hl 0 rfl) ?_
        refine z_iconst (v := 0) X dX11_isAsHeld_49 (by decide) ?_
        refine z_iload_n X dX11_isAsHeld_50 rfl (lv_at hl 1 rfl) ?_
        refine z_iload_n X dX11_isAsHeld_51 rfl (lv_at hl 2 rfl) ?_
        obtain ⟨r5, hc5, hf⟩ := z_bind hf
        refine m_callVi [.int 0, .int x1, .int x2] X hl.1 (c_at D cy ad hc5) gm_at pd_at rfl ⟨by decide, by decide⟩ (Nat.le_of_ble_eq_true rfl) rfl dX11_isAsHeld_52 ?_
        obtain ⟨hb6, hf⟩ := z_ite hf
        refine m_iald X pa_21 hb6 dX11_isAsHeld_55 ?_
        refine z_if_le (tgt := 63) X dX11_isAsHeld_56 (by decide) (fun c_ => ?_) (fun c_ => ?_)
        · have hf := (if_pos c_).symm.trans hf
          refine z_iconst (v := 0) X dX11_isAsHeld_63 (by decide) ?_
          obtain ⟨hb7, hf⟩ := z_ite hf
          refine m_zast X pa_30 hb7 dX11_isAsHeld_64 ?_
          refine z_iinc (v := x2 + 1) (k0 := 2) (lv' := [(2, .int (x2 + 1)), (0, .ref (ad 0)), (1, .int x1)]) X dX11_isAsHeld_65 hl rfl rfl (by decide) rfl (fun ls hl => ?_)
          refine z_goto (tgt := 10) X dX11_isAsHeld_68 (by decide) ?_
          exact hk10 x1 (x2 + 1) (z_uI r5.2.1 30 (((6 : Int32) * x1) + x2).toNatClampNeg (vp_nar .boolean 0)) r5.2.2 ls (lv_sub hl [1, 2, 0] rfl) hf
        · have hf := (if_neg c_).symm.trans hf
          refine z_iconst (v := 1) X dX11_isAsHeld_59 (by decide) ?_
          refine z_goto (tgt := 64) X dX11_isAsHeld_60 (by decide) ?_
          obtain ⟨hb8, hf⟩ := z_ite hf
          refine m_zast X pa_30 hb8 dX11_isAsHeld_64 ?_
          refine z_iinc (v := x2 + 1) (k0 := 2) (lv' := [(2, .int (x2 + 1)), (0, .ref (ad 0)), (1, .int x1)]) X dX11_isAsHeld_65 hl rfl rfl (by decide) rfl (fun ls hl => ?_)
          refine z_goto (tgt := 10) X dX11_isAsHeld_68 (by decide) ?_
          exact hk10 x1 (x2 + 1) (z_uI r5.2.1 30 (((6 : Int32) * x1) + x2).toNatClampNeg (vp_nar .boolean 1)) r5.2.2 ls (lv_sub hl [1, 2, 0] rfl) hf

set_option maxHeartbeats 4000000 in
set_option maxRecDepth 100000 in
theorem w_isAsHeld_2 {M : zM} {D : va_G} {cy : Nat → ClassId} {ad : Nat → Nat} {r' : zI × zL} (X : RX M (zR D cy ad) cX11_isAsHeld 3 RX11 3 67) (Z : RZv M (zR D cy ad) r'.1 r'.2) (n : Nat) : ∀ (x1 : Int32) (V : zI) (L : zL) (ls : Array Slot) (hl : lv_has ls 3 [(0, .ref (ad 0)), (1, .int x1)]) (hf : zfix (b_isAsHeld_2) n (x1, V, L) = some r'), RG M (zR D cy ad) V L 2 ls [] := by
  induction n with
  | zero => intro x1 V L ls hl hf; cases hf
  | succ n ih =>
  intro x1 V L ls hl hf
  have hk2 : ∀ (x1 : Int32) (V : zI) (L : zL) (ls : Array Slot), lv_has ls 3 [(0, .ref (ad 0)), (1, .int x1)] → zfix (b_isAsHeld_2) n (x1, V, L) = some r' → RG M (zR D cy ad) V L 2 ls [] := ih
  have hf : b_isAsHeld_2 (zfix (b_isAsHeld_2) n) (x1, V, L) = some r' := hf
  generalize zfix (b_isAsHeld_2) n = k2 at hk2 hf
  unfold b_isAsHeld_2 at hf
  clear ih
  refine z_iload_n X dX11_isAsHeld_2 rfl (lv_at hl 1 rfl) ?_
  refine z_bipush (v := 6) X dX11_isAsHeld_3 (by decide) ?_
  refine z_icmp_ge (tgt := 77) X dX11_isAsHeld_5 (by decide) (fun c_ => ?_) (fun c_ => ?_)
  · have hf := (if_pos c_).symm.trans hf
    exact m_vret X Z hf dX11_isAsHeld_77
  · have hf := (if_neg c_).symm.trans hf
    refine z_iconst (v := 0) X dX11_isAsHeld_8 (by decide) ?_
    refine z_istore_n (lv' := [(2, .int 0), (0, .ref (ad 0)), (1, .int x1)]) X dX11_isAsHeld_9 rfl hl (by decide) rfl (fun ls hl => ?_)
    exact w_isAsHeld_10 X Z hk2 FU x1 0 V L ls (lv_sub hl [1, 2, 0] rfl) hf

set_option maxHeartbeats 4000000 in
set_option maxRecDepth 100000 in
theorem w_isAsHeld {M : zM} {D : va_G} {cy : Nat → ClassId} {ad : Nat → Nat} {r' : zI × zL} (X : RX M (zR D cy ad) cX11_isAsHeld 3 RX11 3 67) (Z : RZv M (zR D cy ad) r'.1 r'.2)  (V : zI) (L : zL) (ls : Array Slot) (hl : lv_has ls 3 [(0, .ref (ad 0))]) (hf : f_isAsHeld V L = some r') : RG M (zR D cy ad) V L 0 ls [] := by
  unfold f_isAsHeld at hf
  refine z_iconst (v := 0) X dX11_isAsHeld_0 (by decide) ?_
  refine z_istore_n (lv' := [(1, .int 0), (0, .ref (ad 0))]) X dX11_isAsHeld_1 rfl hl (by decide) rfl (fun ls hl => ?_)
  exact w_isAsHeld_2 X Z FU 0 V L ls (lv_sub hl [1, 0] rfl) hf

theorem c_isAsHeld (D : va_G) (cy : Nat → ClassId) (ad : Nat → Nat)  {V : zI} {L : zL} {r' : zI × zL} (hf : f_isAsHeld V L = some r') : RMv (zR D cy ad) yX11_isAsHeld cX11_isAsHeld 3 3 67 [.ref (ad 0)] V L r'.1 r'.2 :=
  RMv.of (by decide) zR_nd (Nat.le_of_ble_eq_true rfl) (fun M X Z ls hl => w_isAsHeld X Z V L ls hl hf)
def b_wordFrom_25 (k6 : Int32 × Int32 × zI × zL → Option (Int32 × zI × zL)) (k15 : Int32 × Int32 × Int32 × zI × zL → Option (Int32 × zI × zL)) (k25 : Int32 × Int32 × Int32 × Int32 × zI × zL → Option (Int32 × zI × zL)) : Int32 × Int32 × Int32 × Int32 × zI × zL → Option (Int32 × zI × zL) := fun ⟨x2, x3, x4, x5, V, L⟩ =>
  (if 6 ≤ x5 then k15 (x2, x3, (x4 + 1), V, L) else (f_has2 x2 x4).bind fun r1 => (if r1 = 0 then k25 (x2, x3, x4, (x5 + 1), V, L) else if inB (((6 : Int32) * x4) + x5) 36 then (if (V 30 (((6 : Int32) * x4) + x5).toNatClampNeg) = 0 then k25 (x2, x3, x4, (x5 + 1), V, L) else k25 ((x2 ||| ((1 : Int32) <<< (x5 &&& 31))), x3, x4, (x5 + 1), V, L)) else none))
def b_wordFrom_15 (k6 : Int32 × Int32 × zI × zL → Option (Int32 × zI × zL)) (k15 : Int32 × Int32 × Int32 × zI × zL → Option (Int32 × zI × zL)) : Int32 × Int32 × Int32 × zI × zL → Option (Int32 × zI × zL) := fun ⟨x2, x3, x4, V, L⟩ =>
  (if 6 ≤ x4 then k6 (x2, (x3 + 1), V, L) else zfix (b_wordFrom_25 k6 k15) FU (x2, x3, x4, 0, V, L))
def b_wordFrom_6 (k6 : Int32 × Int32 × zI × zL → Option (Int32 × zI × zL)) : Int32 × Int32 × zI × zL → Option (Int32 × zI × zL) := fun ⟨x2, x3, V, L⟩ =>
  (if 6 ≤ x3 then some (x2, V, L) else zfix (b_wordFrom_15 k6) FU (x2, x3, 0, V, L))
def f_wordFrom (x1 : Int32) (V : zI) (L : zL) : Option (Int32 × zI × zL) :=
  zfix (b_wordFrom_6) FU (((1 : Int32) <<< (x1 &&& 31)), 0, V, L)
set_option maxHeartbeats 4000000 in
set_option maxRecDepth 100000 in
theorem w_wordFrom_25 {M : zM} {D : va_G} {cy : Nat → ClassId} {ad : Nat → Nat} {r' : Int32 × zI × zL} (X : RX M (zR D cy ad) cX11_wordFrom 6 RX11 1 21) (Z : RZi M (zR D cy ad) .int r'.1 r'.2.1 r'.2.2) {k6 : Int32 × Int32 × zI × zL → Option (Int32 × zI × zL)} {k15 : Int32 × Int32 × Int32 × zI × zL → Option (Int32 × zI × zL)} (hk6 : ∀ (x2 : Int32) (x3 : Int32) (V : zI) (L : zL) (ls : Array Slot), lv_has ls 6 [(0, .ref (ad 0)), (2, .int x2), (3, .int x3)] → k6 (x2, x3, V, L) = some r' → RG M (zR D cy ad) V L 6 ls []) (hk15 : ∀ (x2 : Int32) (x3 : Int32) (x4 : Int32) (V : zI) (L : zL) (ls : Array Slot), lv_has ls 6 [(0, .ref (ad 0)), (2, .int x2), (3, .int x3), (4, .int x4)] → k15 (x2, x3, x4, V, L) = some r' → RG M (zR D cy ad) V L 15 ls []) (n : Nat) : ∀ (x2 : Int32) (x3 : Int32) (x4 : Int32) (x5 : Int32) (V : zI) (L : zL) (ls : Array Slot) (hl : lv_has ls 6 [(0, .ref (ad 0)), (2, .int x2), (3, .int x3), (4, .int x4), (5, .int x5)]) (hf : zfix (b_wordFrom_25 k6 k15) n (x2, x3, x4, x5, V, L) = some r'), RG M (zR D cy ad) V L 25 ls [] := by
  induction n with
  | zero => intro x2 x3 x4 x5 V L ls hl hf; cases hf
  | succ n ih =>
  intro x2 x3 x4 x5 V L ls hl hf
  have hk25 : ∀ (x2 : Int32) (x3 : Int32) (x4 : Int32) (x5 : Int32) (V : zI) (L : zL) (ls : Array Slot), lv_has ls 6 [(0, .ref (ad 0)), (2, .int x2), (3, .int x3), (4, .int x4), (5, .int x5)] → zfix (b_wordFrom_25 k6 k15) n (x2, x3, x4, x5, V, L) = some r' → RG M (zR D cy ad) V L 25 ls [] := ih
  have hf : b_wordFrom_25 k6 k15 (zfix (b_wordFrom_25 k6 k15) n) (x2, x3, x4, x5, V, L) = some r' := hf
  generalize zfix (b_wordFrom_25 k6 k15) n = k25 at hk25 hf
  unfold b_wordFrom_25 at hf
  clear ih
  refine z_iload X dX11_wordFrom_25 (lv_at hl 4 rfl) ?_
  refine z_bipush (v := 6) X dX11_wordFrom_27 (by decide) ?_
  refine z_icmp_ge (tgt := 70) X dX11_wordFrom_29 (by decide) (fun c_ => ?_) (fun c_ => ?_)
  · have hf := (if_pos c_).symm.trans hf
    refine z_iinc (v := x4 + 1) (k0 := 3) (lv' := [(4, .int (x4 + 1)), (0, .ref (ad 0)), (2, .int x2), (3, .int x3), (5, .int x5)]) X dX11_wordFrom_70 hl rfl rfl (by decide) rfl (fun ls hl => ?_)
    refine z_goto (tgt := 15) X dX11_wordFrom_73 (by decide) ?_
    exact hk15 x2 x3 (x4 + 1) V L ls (lv_sub hl [1, 2, 3, 0] rfl) hf
  · have hf := (if_neg c_).symm.trans hf
    refine z_iload_n X dX11_wordFrom_32 rfl (lv_at hl 1 rfl) ?_
    refine z_iload X dX11_wordFrom_33 (lv_at hl 3 rfl) ?_
    obtain ⟨r1, hc1, hf⟩ := z_bind hf
    refine m_callSi [.int x2, .int x4] X hl.1 (c_has2 D cy ad hc1) gm_has2 pd_has2 rfl ⟨by decide, by decide⟩ (Nat.le_of_ble_eq_true rfl) rfl dX11_wordFrom_35 ?_
    refine z_if_eq (tgt := 64) X dX11_wordFrom_38 (by decide) (fun c_ => ?_) (fun c_ => ?_)
    · have hf := (if_pos c_).symm.trans hf
      refine z_iinc (v := x5 + 1) (k0 := 4) (lv' := [(5, .int (x5 + 1)), (0, .ref (ad 0)), (2, .int x2), (3, .int x3), (4, .int x4)]) X dX11_wordFrom_64 hl rfl rfl (by decide) rfl (fun ls hl => ?_)
      refine z_goto (tgt := 25) X dX11_wordFrom_67 (by decide) ?_
      exact hk25 x2 x3 x4 (x5 + 1) V L ls (lv_sub hl [1, 2, 3, 4, 0] rfl) hf
    · have hf := (if_neg c_).symm.trans hf
      refine z_aload_n X dX11_wordFrom_41 rfl (lv_at hl 0 rfl) ?_
      refine m_geta X ff_55 dX11_wordFrom_42 ?_
      refine z_bipush (v := 6) X dX11_wordFrom_45 (by decide) ?_
      refine z_iload X dX11_wordFrom_47 (lv_at hl 3 rfl) ?_
      refine z_imul X dX11_wordFrom_49 ?_
      refine z_iload X dX11_wordFrom_50 (lv_at hl 4 rfl) ?_
      refine z_iadd X dX11_wordFrom_52 ?_
      obtain ⟨hb2, hf⟩ := z_ite hf
      refine m_zald X pa_30 hb2 dX11_wordFrom_53 ?_
      refine z_if_eq (tgt := 64) X dX11_wordFrom_54 (by decide) (fun c_ => ?_) (fun c_ => ?_)
      · have hf := (if_pos c_).symm.trans hf
        refine z_iinc (v := x5 + 1) (k0 := 4) (lv' := [(5, .int (x5 + 1)), (0, .ref (ad 0)), (2, .int x2), (3, .int x3), (4, .int x4)]) X dX11_wordFrom_64 hl rfl rfl (by decide) rfl (fun ls hl => ?_)
        refine z_goto (tgt := 25) X dX11_wordFrom_67 (by decide) ?_
        exact hk25 x2 x3 x4 (x5 + 1) V L ls (lv_sub hl [1, 2, 3, 4, 0] rfl) hf
      · have hf := (if_neg c_).symm.trans hf
        refine z_iload_n X dX11_wordFrom_57 rfl (lv_at hl 1 rfl) ?_
        refine z_iconst (v := 1) X dX11_wordFrom_58 (by decide) ?_
        refine z_iload X dX11_wordFrom_59 (lv_at hl 4 rfl) ?_
        refine z_ishl X dX11_wordFrom_61 ?_
        refine z_ior X dX11_wordFrom_62 ?_
        refine z_istore_n (lv' := [(2, .int (x2 ||| ((1 : Int32) <<< (x5 &&& 31)))), (0, .ref (ad 0)), (3, .int x3), (4, .int x4), (5, .int x5)]) X dX11_wordFrom_63 rfl hl (by decide) rfl (fun ls hl => ?_)
        refine z_iinc (v := x5 + 1) (k0 := 4) (lv' := [(5, .int (x5 + 1)), (2, .int (x2 ||| ((1 : Int32) <<< (x5 &&& 31)))), (0, .ref (ad 0)), (3, .int x3), (4, .int x4)]) X dX11_wordFrom_64 hl rfl rfl (by decide) rfl (fun ls hl => ?_)
        refine z_goto (tgt := 25) X dX11_wordFrom_67 (by decide) ?_
        exact hk25 (x2 ||| ((1 : Int32) <<< (x5 &&& 31))) x3 x4 (x5 + 1) V L ls (lv_sub hl [2, 1, 3, 4, 0] rfl) hf

set_option maxHeartbeats 4000000 in
set_option maxRecDepth 100000 in
theorem w_wordFrom_15 {M : zM} {D : va_G} {cy : Nat → ClassId} {ad : Nat → Nat} {r' : Int32 × zI × zL} (X : RX M (zR D cy ad) cX11_wordFrom 6 RX11 1 21) (Z : RZi M (zR D cy ad) .int r'.1 r'.2.1 r'.2.2) {k6 : Int32 × Int32 × zI × zL → Option (Int32 × zI × zL)} (hk6 : ∀ (x2 : Int32) (x3 : Int32) (V : zI) (L : zL) (ls : Array Slot), lv_has ls 6 [(0, .ref (ad 0)), (2, .int x2), (3, .int x3)] → k6 (x2, x3, V, L) = some r' → RG M (zR D cy ad) V L 6 ls []) (n : Nat) : ∀ (x2 : Int32) (x3 : Int32) (x4 : Int32) (V : zI) (L : zL) (ls : Array Slot) (hl : lv_has ls 6 [(0, .ref (ad 0)), (2, .int x2), (3, .int x3), (4, .int x4)]) (hf : zfix (b_wordFrom_15 k6) n (x2, x3, x4, V, L) = some r'), RG M (zR D cy ad) V L 15 ls [] := by
  induction n with
  | zero => intro x2 x3 x4 V L ls hl hf; cases hf
  | succ n ih =>
  intro x2 x3 x4 V L ls hl hf
  have hk15 : ∀ (x2 : Int32) (x3 : Int32) (x4 : Int32) (V : zI) (L : zL) (ls : Array Slot), lv_has ls 6 [(0, .ref (ad 0)), (2, .int x2), (3, .int x3), (4, .int x4)] → zfix (b_wordFrom_15 k6) n (x2, x3, x4, V, L) = some r' → RG M (zR D cy ad) V L 15 ls [] := ih
  have hf : b_wordFrom_15 k6 (zfix (b_wordFrom_15 k6) n) (x2, x3, x4, V, L) = some r' := hf
  generalize zfix (b_wordFrom_15 k6) n = k15 at hk15 hf
  unfold b_wordFrom_15 at hf
  clear ih
  refine z_iload X dX11_wordFrom_15 (lv_at hl 3 rfl) ?_
  refine z_bipush (v := 6) X dX11_wordFrom_17 (by decide) ?_
  refine z_icmp_ge (tgt := 76) X dX11_wordFrom_19 (by decide) (fun c_ => ?_) (fun c_ => ?_)
  · have hf := (if_pos c_).symm.trans hf
    refine z_iinc (v := x3 + 1) (k0 := 2) (lv' := [(3, .int (x3 + 1)), (0, .ref (ad 0)), (2, .int x2), (4, .int x4)]) X dX11_wordFrom_76 hl rfl rfl (by decide) rfl (fun ls hl => ?_)
    refine z_goto (tgt := 6) X dX11_wordFrom_79 (by decide) ?_
    exact hk6 x2 (x3 + 1) V L ls (lv_sub hl [1, 2, 0] rfl) hf
  · have hf := (if_neg c_).symm.trans hf
    refine z_iconst (v := 0) X dX11_wordFrom_22 (by decide) ?_
    refine z_istore (lv' := [(5, .int 0), (0, .ref (ad 0)), (2, .int x2), (3, .int x3), (4, .int x4)]) X dX11_wordFrom_23 hl (by decide) rfl (fun ls hl => ?_)
    exact w_wordFrom_25 X Z hk6 hk15 FU x2 x3 x4 0 V L ls (lv_sub hl [1, 2, 3, 4, 0] rfl) hf

set_option maxHeartbeats 4000000 in
set_option maxRecDepth 100000 in
theorem w_wordFrom_6 {M : zM} {D : va_G} {cy : Nat → ClassId} {ad : Nat → Nat} {r' : Int32 × zI × zL} (X : RX M (zR D cy ad) cX11_wordFrom 6 RX11 1 21) (Z : RZi M (zR D cy ad) .int r'.1 r'.2.1 r'.2.2) (n : Nat) : ∀ (x2 : Int32) (x3 : Int32) (V : zI) (L : zL) (ls : Array Slot) (hl : lv_has ls 6 [(0, .ref (ad 0)), (2, .int x2), (3, .int x3)]) (hf : zfix (b_wordFrom_6) n (x2, x3, V, L) = some r'), RG M (zR D cy ad) V L 6 ls [] := by
  induction n with
  | zero => intro x2 x3 V L ls hl hf; cases hf
  | succ n ih =>
  intro x2 x3 V L ls hl hf
  have hk6 : ∀ (x2 : Int32) (x3 : Int32) (V : zI) (L : zL) (ls : Array Slot), lv_has ls 6 [(0, .ref (ad 0)), (2, .int x2), (3, .int x3)] → zfix (b_wordFrom_6) n (x2, x3, V, L) = some r' → RG M (zR D cy ad) V L 6 ls [] := ih
  have hf : b_wordFrom_6 (zfix (b_wordFrom_6) n) (x2, x3, V, L) = some r' := hf
  generalize zfix (b_wordFrom_6) n = k6 at hk6 hf
  unfold b_wordFrom_6 at hf
  clear ih
  refine z_iload_n X dX11_wordFrom_6 rfl (lv_at hl 2 rfl) ?_
  refine z_bipush (v := 6) X dX11_wordFrom_7 (by decide) ?_
  refine z_icmp_ge (tgt := 82) X dX11_wordFrom_9 (by decide) (fun c_ => ?_) (fun c_ => ?_)
  · have hf := (if_pos c_).symm.trans hf
    refine z_iload_n X dX11_wordFrom_82 rfl (lv_at hl 1 rfl) ?_
    exact m_iret X Z hf rfl dX11_wordFrom_83
  · have hf := (if_neg c_).symm.trans hf
    refine z_iconst (v := 0) X dX11_wordFrom_12 (by decide) ?_
    refine z_istore (lv' := [(4, .int 0), (0, .ref (ad 0)), (2, .int x2), (3, .int x3)]) X dX11_wordFrom_13 hl (by decide) rfl (fun ls hl => ?_)
    exact w_wordFrom_15 X Z hk6 FU x2 x3 0 V L ls (lv_sub hl [1, 2, 3, 0] rfl) hf

set_option maxHeartbeats 4000000 in
set_option maxRecDepth 100000 in
theorem w_wordFrom {M : zM} {D : va_G} {cy : Nat → ClassId} {ad : Nat → Nat} {r' : Int32 × zI × zL} (X : RX M (zR D cy ad) cX11_wordFrom 6 RX11 1 21) (Z : RZi M (zR D cy ad) .int r'.1 r'.2.1 r'.2.2) (x1 : Int32) (V : zI) (L : zL) (ls : Array Slot) (hl : lv_has ls 6 [(0, .ref (ad 0)), (1, .int x1)]) (hf : f_wordFrom x1 V L = some r') : RG M (zR D cy ad) V L 0 ls [] := by
  unfold f_wordFrom at hf
  refine z_iconst (v := 1) X dX11_wordFrom_0 (by decide) ?_
  refine z_iload_n X dX11_wordFrom_1 rfl (lv_at hl 1 rfl) ?_
  refine z_ishl X dX11_wordFrom_2 ?_
  refine z_istore_n (lv' := [(2, .int ((1 : Int32) <<< (x1 &&& 31))), (0, .ref (ad 0)), (1, .int x1)]) X dX11_wordFrom_3 rfl hl (by decide) rfl (fun ls hl => ?_)
  refine z_iconst (v := 0) X dX11_wordFrom_4 (by decide) ?_
  refine z_istore_n (lv' := [(3, .int 0), (2, .int ((1 : Int32) <<< (x1 &&& 31))), (0, .ref (ad 0)), (1, .int x1)]) X dX11_wordFrom_5 rfl hl (by decide) rfl (fun ls hl => ?_)
  exact w_wordFrom_6 X Z FU ((1 : Int32) <<< (x1 &&& 31)) 0 V L ls (lv_sub hl [2, 1, 0] rfl) hf

theorem c_wordFrom (D : va_G) (cy : Nat → ClassId) (ad : Nat → Nat) {x1 : Int32} {V : zI} {L : zL} {r' : Int32 × zI × zL} (hf : f_wordFrom x1 V L = some r') : RMi (zR D cy ad) yX11_wordFrom cX11_wordFrom 6 .int 1 21 [.ref (ad 0), .int x1] V L r'.1 r'.2.1 r'.2.2 :=
  RMi.of (by decide) zR_nd (Nat.le_of_ble_eq_true rfl) (fun M X Z ls hl => w_wordFrom X Z x1 V L ls hl hf)
def f_word (x1 : Int32) (V : zI) (L : zL) : Option (Int32 × zI × zL) :=
  (f_isTown x1 V L).bind fun r1 => (if r1.1 = 0 then some ((-1), r1.2.1, r1.2.2) else (f_isAsHeld r1.2.1 r1.2.2).bind fun r2 => (f_wordFrom x1 r2.1 r2.2).bind fun r3 => some (r3.1, r3.2.1, r3.2.2))
set_option maxHeartbeats 4000000 in
set_option maxRecDepth 100000 in
theorem w_word {M : zM} {D : va_G} {cy : Nat → ClassId} {ad : Nat → Nat} {r' : Int32 × zI × zL} (X : RX M (zR D cy ad) cX11_word 2 RX11 4 89) (Z : RZi M (zR D cy ad) .int r'.1 r'.2.1 r'.2.2) (x1 : Int32) (V : zI) (L : zL) (ls : Array Slot) (hl : lv_has ls 2 [(0, .ref (ad 0)), (1, .int x1)]) (hf : f_word x1 V L = some r') : RG M (zR D cy ad) V L 0 ls [] := by
  unfold f_word at hf
  refine z_aload_n X dX11_word_0 rfl (lv_at hl 0 rfl) ?_
  refine z_iload_n X dX11_word_1 rfl (lv_at hl 1 rfl) ?_
  obtain ⟨r1, hc1, hf⟩ := z_bind hf
  refine m_callVi [.int x1] X hl.1 (c_isTown D cy ad hc1) gm_isTown pd_isTown rfl ⟨by decide, by decide⟩ (Nat.le_of_ble_eq_true rfl) rfl dX11_word_2 ?_
  refine z_if_ne (tgt := 10) X dX11_word_5 (by decide) (fun c_ => ?_) (fun c_ => ?_)
  · have hf := (if_neg c_).symm.trans hf
    refine z_aload_n X dX11_word_10 rfl (lv_at hl 0 rfl) ?_
    obtain ⟨r2, hc2, hf⟩ := z_bind hf
    refine m_callVv [] X hl.1 (c_isAsHeld D cy ad hc2) gm_isAsHeld pd_isAsHeld rfl ⟨by decide, by decide⟩ (Nat.le_of_ble_eq_true rfl) rfl dX11_word_11 ?_
    refine z_aload_n X dX11_word_14 rfl (lv_at hl 0 rfl) ?_
    refine z_iload_n X dX11_word_15 rfl (lv_at hl 1 rfl) ?_
    obtain ⟨r3, hc3, hf⟩ := z_bind hf
    refine m_callVi [.int x1] X hl.1 (c_wordFrom D cy ad hc3) gm_wordFrom pd_wordFrom rfl ⟨by decide, by decide⟩ (Nat.le_of_ble_eq_true rfl) rfl dX11_word_16 ?_
    exact m_iret X Z hf rfl dX11_word_19
  · have hf := (if_pos c_).symm.trans hf
    refine z_iconst (v := -1) X dX11_word_8 (by decide) ?_
    exact m_iret X Z hf rfl dX11_word_9

theorem c_word (D : va_G) (cy : Nat → ClassId) (ad : Nat → Nat) {x1 : Int32} {V : zI} {L : zL} {r' : Int32 × zI × zL} (hf : f_word x1 V L = some r') : RMi (zR D cy ad) yX11_word cX11_word 2 .int 4 89 [.ref (ad 0), .int x1] V L r'.1 r'.2.1 r'.2.2 :=
  RMi.of (by decide) zR_nd (Nat.le_of_ble_eq_true rfl) (fun M X Z ls hl => w_word X Z x1 V L ls hl hf)
def b_isWide_2 (k2 : Int32 × zI × zL → Option (Int32 × zI × zL)) : Int32 × zI × zL → Option (Int32 × zI × zL) := fun ⟨x1, V, L⟩ =>
  if inB (V 0 13) 2 then (if (V 2 (V 0 13).toNatClampNeg) ≤ x1 then some (1, V, L) else (f_wordFrom x1 V L).bind fun r2 => if inB (r2.2.1 0 13) 2 then (if r2.1 = (((1 : Int32) <<< ((r2.2.1 2 (r2.2.1 0 13).toNatClampNeg) &&& 31)) - 1) then k2 ((x1 + 1), r2.2.1, r2.2.2) else some (0, r2.2.1, r2.2.2)) else none) else none
def f_isWide (V : zI) (L : zL) : Option (Int32 × zI × zL) :=
  zfix (b_isWide_2) FU (0, V, L)
set_option maxHeartbeats 4000000 in
set_option maxRecDepth 100000 in
theorem w_isWide_2 {M : zM} {D : va_G} {cy : Nat → ClassId} {ad : Nat → Nat} {r' : Int32 × zI × zL} (X : RX M (zR D cy ad) cX11_isWide 2 RX11 2 46) (Z : RZi M (zR D cy ad) .boolean r'.1 r'.2.1 r'.2.2) (n : Nat) : ∀ (x1 : Int32) (V : zI) (L : zL) (ls : Array Slot) (hl : lv_has ls 2 [(0, .ref (ad 0)), (1, .int x1)]) (hf : zfix (b_isWide_2) n (x1, V, L) = some r'), RG M (zR D cy ad) V L 2 ls [] := by
  induction n with
  | zero => intro x1 V L ls hl hf; cases hf
  | succ n ih =>
  intro x1 V L ls hl hf
  have hk2 : ∀ (x1 : Int32) (V : zI) (L : zL) (ls : Array Slot), lv_has ls 2 [(0, .ref (ad 0)), (1, .int x1)] → zfix (b_isWide_2) n (x1, V, L) = some r' → RG M (zR D cy ad) V L 2 ls [] := ih
  have hf : b_isWide_2 (zfix (b_isWide_2) n) (x1, V, L) = some r' := hf
  generalize zfix (b_isWide_2) n = k2 at hk2 hf
  unfold b_isWide_2 at hf
  clear ih
  refine z_iload_n X dX11_isWide_2 rfl (lv_at hl 1 rfl) ?_
  refine z_aload_n X dX11_isWide_3 rfl (lv_at hl 0 rfl) ?_
  refine m_geta X ff_14 dX11_isWide_4 ?_
  refine z_aload_n X dX11_isWide_7 rfl (lv_at hl 0 rfl) ?_
  refine m_geti X ff_13 dX11_isWide_8 ?_
  obtain ⟨hb1, hf⟩ := z_ite hf
  refine m_iald X pa_2 hb1 dX11_isWide_11 ?_
  refine z_icmp_ge (tgt := 44) X dX11_isWide_12 (by decide) (fun c_ => ?_) (fun c_ => ?_)
  · have hf := (if_pos c_).symm.trans hf
    refine z_iconst (v := 1) X dX11_isWide_44 (by decide) ?_
    exact m_iret X Z hf (by decide) dX11_isWide_45
  · have hf := (if_neg c_).symm.trans hf
    refine z_aload_n X dX11_isWide_15 rfl (lv_at hl 0 rfl) ?_
    refine z_iload_n X dX11_isWide_16 rfl (lv_at hl 1 rfl) ?_
    obtain ⟨r2, hc2, hf⟩ := z_bind hf
    refine m_callVi [.int x1] X hl.1 (c_wordFrom D cy ad hc2) gm_wordFrom pd_wordFrom rfl ⟨by decide, by decide⟩ (Nat.le_of_ble_eq_true rfl) rfl dX11_isWide_17 ?_
    refine z_iconst (v := 1) X dX11_isWide_20 (by decide) ?_
    refine z_aload_n X dX11_isWide_21 rfl (lv_at hl 0 rfl) ?_
    refine m_geta X ff_14 dX11_isWide_22 ?_
    refine z_aload_n X dX11_isWide_25 rfl (lv_at hl 0 rfl) ?_
    refine m_geti X ff_13 dX11_isWide_26 ?_
    obtain ⟨hb3, hf⟩ := z_ite hf
    refine m_iald X pa_2 hb3 dX11_isWide_29 ?_
    refine z_ishl X dX11_isWide_30 ?_
    refine z_iconst (v := 1) X dX11_isWide_31 (by decide) ?_
    refine z_isub X dX11_isWide_32 ?_
    refine z_icmp_eq (tgt := 38) X dX11_isWide_33 (by decide) (fun c_ => ?_) (fun c_ => ?_)
    · have hf := (if_pos c_).symm.trans hf
      refine z_iinc (v := x1 + 1) (k0 := 1) (lv' := [(1, .int (x1 + 1)), (0, .ref (ad 0))]) X dX11_isWide_38 hl rfl rfl (by decide) rfl (fun ls hl => ?_)
      refine z_goto (tgt := 2) X dX11_isWide_41 (by decide) ?_
      exact hk2 (x1 + 1) r2.2.1 r2.2.2 ls (lv_sub hl [1, 0] rfl) hf
    · have hf := (if_neg c_).symm.trans hf
      refine z_iconst (v := 0) X dX11_isWide_36 (by decide) ?_
      exact m_iret X Z hf (by decide) dX11_isWide_37

set_option maxHeartbeats 4000000 in
set_option maxRecDepth 100000 in
theorem w_isWide {M : zM} {D : va_G} {cy : Nat → ClassId} {ad : Nat → Nat} {r' : Int32 × zI × zL} (X : RX M (zR D cy ad) cX11_isWide 2 RX11 2 46) (Z : RZi M (zR D cy ad) .boolean r'.1 r'.2.1 r'.2.2)  (V : zI) (L : zL) (ls : Array Slot) (hl : lv_has ls 2 [(0, .ref (ad 0))]) (hf : f_isWide V L = some r') : RG M (zR D cy ad) V L 0 ls [] := by
  unfold f_isWide at hf
  refine z_iconst (v := 0) X dX11_isWide_0 (by decide) ?_
  refine z_istore_n (lv' := [(1, .int 0), (0, .ref (ad 0))]) X dX11_isWide_1 rfl hl (by decide) rfl (fun ls hl => ?_)
  exact w_isWide_2 X Z FU 0 V L ls (lv_sub hl [1, 0] rfl) hf

theorem c_isWide (D : va_G) (cy : Nat → ClassId) (ad : Nat → Nat)  {V : zI} {L : zL} {r' : Int32 × zI × zL} (hf : f_isWide V L = some r') : RMi (zR D cy ad) yX11_isWide cX11_isWide 2 .boolean 2 46 [.ref (ad 0)] V L r'.1 r'.2.1 r'.2.2 :=
  RMi.of (by decide) zR_nd (Nat.le_of_ble_eq_true rfl) (fun M X Z ls hl => w_isWide X Z V L ls hl hf)
def f_isDone (V : zI) (L : zL) : Option (Int32 × zI × zL) :=
  (if (V 0 57) = (-1) then (f_isWide V L).bind fun r3 => if zB r3.1 then some (r3.1, r3.2.1, r3.2.2) else none else (f_wordFrom (V 0 57) V L).bind fun r1 => (f_has2 r1.1 (r1.2.1 0 58)).bind fun r2 => (if r2 = 0 then some (1, r1.2.1, r1.2.2) else some (0, r1.2.1, r1.2.2)))
set_option maxHeartbeats 4000000 in
set_option maxRecDepth 100000 in
theorem w_isDone {M : zM} {D : va_G} {cy : Nat → ClassId} {ad : Nat → Nat} {r' : Int32 × zI × zL} (X : RX M (zR D cy ad) cX11_isDone 1 RX11 3 67) (Z : RZi M (zR D cy ad) .boolean r'.1 r'.2.1 r'.2.2)  (V : zI) (L : zL) (ls : Array Slot) (hl : lv_has ls 1 [(0, .ref (ad 0))]) (hf : f_isDone V L = some r') : RG M (zR D cy ad) V L 0 ls [] := by
  unfold f_isDone at hf
  refine z_aload_n X dX11_isDone_0 rfl (lv_at hl 0 rfl) ?_
  refine m_geti X ff_57 dX11_isDone_1 ?_
  refine z_iconst (v := -1) X dX11_isDone_4 (by decide) ?_
  refine z_icmp_ne (tgt := 15) X dX11_isDone_5 (by decide) (fun c_ => ?_) (fun c_ => ?_)
  · have hf := (if_neg c_).symm.trans hf
    refine z_aload_n X dX11_isDone_15 rfl (lv_at hl 0 rfl) ?_
    refine z_aload_n X dX11_isDone_16 rfl (lv_at hl 0 rfl) ?_
    refine m_geti X ff_57 dX11_isDone_17 ?_
    obtain ⟨r1, hc1, hf⟩ := z_bind hf
    refine m_callVi [.int (V 0 57)] X hl.1 (c_wordFrom D cy ad hc1) gm_wordFrom pd_wordFrom rfl ⟨by decide, by decide⟩ (Nat.le_of_ble_eq_true rfl) rfl dX11_isDone_20 ?_
    refine z_aload_n X dX11_isDone_23 rfl (lv_at hl 0 rfl) ?_
    refine m_geti X ff_58 dX11_isDone_24 ?_
    obtain ⟨r2, hc2, hf⟩ := z_bind hf
    refine m_callSi [.int r1.1, .int (r1.2.1 0 58)] X hl.1 (c_has2 D cy ad hc2) gm_has2 pd_has2 rfl ⟨by decide, by decide⟩ (Nat.le_of_ble_eq_true rfl) rfl dX11_isDone_27 ?_
    refine z_if_ne (tgt := 37) X dX11_isDone_30 (by decide) (fun c_ => ?_) (fun c_ => ?_)
    · have hf := (if_neg c_).symm.trans hf
      refine z_iconst (v := 0) X dX11_isDone_37 (by decide) ?_
      exact m_iret X Z hf (by decide) dX11_isDone_38
    · have hf := (if_pos c_).symm.trans hf
      refine z_iconst (v := 1) X dX11_isDone_33 (by decide) ?_
      refine z_goto (tgt := 38) X dX11_isDone_34 (by decide) ?_
      exact m_iret X Z hf (by decide) dX11_isDone_38
  · have hf := (if_pos c_).symm.trans hf
    refine z_aload_n X dX11_isDone_8 rfl (lv_at hl 0 rfl) ?_
    obtain ⟨r3, hc3, hf⟩ := z_bind hf
    refine m_callVi [] X hl.1 (c_isWide D cy ad hc3) gm_isWide pd_isWide rfl ⟨by decide, by decide⟩ (Nat.le_of_ble_eq_true rfl) rfl dX11_isDone_9 ?_
    refine z_goto (tgt := 38) X dX11_isDone_12 (by decide) ?_
    obtain ⟨hb4, hf⟩ := z_ite hf
    exact m_iret X Z hf (zB_nar hb4) dX11_isDone_38

theorem c_isDone (D : va_G) (cy : Nat → ClassId) (ad : Nat → Nat)  {V : zI} {L : zL} {r' : Int32 × zI × zL} (hf : f_isDone V L = some r') : RMi (zR D cy ad) yX11_isDone cX11_isDone 1 .boolean 3 67 [.ref (ad 0)] V L r'.1 r'.2.1 r'.2.2 :=
  RMi.of (by decide) zR_nd (Nat.le_of_ble_eq_true rfl) (fun M X Z ls hl => w_isDone X Z V L ls hl hf)
def f_canChange_61 (s0 : Int32) (s1 : Int32) (V : zI) (L : zL) : Option (Int32 × zI × zL) :=
  (if s0 = s1 then some (1, V, L) else some (0, V, L))
def f_canChange_48 (s0 : Int32) (V : zI) (L : zL) : Option (Int32 × zI × zL) :=
  (if (V 0 57) = (-1) then f_canChange_61 s0 0 V L else f_canChange_61 s0 1 V L)
def f_canChange (x1 : Int32) (V : zI) (L : zL) : Option (Int32 × zI × zL) :=
  (f_isPair (x1 / 6) (x1 - x1 / 6 * 6) V L).bind fun r1 => (if r1.1 = 0 then some (0, r1.2.1, r1.2.2) else (f_isWay (x1 / 6) (x1 - x1 / 6 * 6) r1.2.1 r1.2.2).bind fun r2 => (if r2.1 = 0 then some (0, r2.2.1, r2.2.2) else (f_at 0 (x1 / 6) (x1 - x1 / 6 * 6) r2.2.1 r2.2.2).bind fun r3 => if inB r3.1 792 then (if (r3.2.1 21 r3.1.toNatClampNeg) ≤ 0 then f_canChange_48 0 r3.2.1 r3.2.2 else f_canChange_48 1 r3.2.1 r3.2.2) else none))
set_option maxHeartbeats 4000000 in
set_option maxRecDepth 100000 in
theorem w_canChange_61 {M : zM} {D : va_G} {cy : Nat → ClassId} {ad : Nat → Nat} {r' : Int32 × zI × zL} (X : RX M (zR D cy ad) cX11_canChange 4 RX11 3 67) (Z : RZi M (zR D cy ad) .boolean r'.1 r'.2.1 r'.2.2) (s0 : Int32) (s1 : Int32) (V : zI) (L : zL) (ls : Array Slot) (hl : lv_has ls 4 [(0, .ref (ad 0))]) (hf : f_canChange_61 s0 s1 V L = some r') : RG M (zR D cy ad) V L 61 ls [.int s1, .int s0] := by
  unfold f_canChange_61 at hf
  refine z_icmp_ne (tgt := 68) X dX11_canChange_61 (by decide) (fun c_ => ?_) (fun c_ => ?_)
  · have hf := (if_neg c_).symm.trans hf
    refine z_iconst (v := 0) X dX11_canChange_68 (by decide) ?_
    exact m_iret X Z hf (by decide) dX11_canChange_69
  · have hf := (if_pos c_).symm.trans hf
    refine z_iconst (v := 1) X dX11_canChange_64 (by decide) ?_
    refine z_goto (tgt := 69) X dX11_canChange_65 (by decide) ?_
    exact m_iret X Z hf (by decide) dX11_canChange_69

set_option maxHeartbeats 4000000 in
set_option maxRecDepth 100000 in
theorem w_canChange_48 {M : zM} {D : va_G} {cy : Nat → ClassId} {ad : Nat → Nat} {r' : Int32 × zI × zL} (X : RX M (zR D cy ad) cX11_canChange 4 RX11 3 67) (Z : RZi M (zR D cy ad) .boolean r'.1 r'.2.1 r'.2.2) (s0 : Int32) (V : zI) (L : zL) (ls : Array Slot) (hl : lv_has ls 4 [(0, .ref (ad 0))]) (hf : f_canChange_48 s0 V L = some r') : RG M (zR D cy ad) V L 48 ls [.int s0] := by
  unfold f_canChange_48 at hf
  refine z_aload_n X dX11_canChange_48 rfl (lv_at hl 0 rfl) ?_
  refine m_geti X ff_57 dX11_canChange_49 ?_
  refine z_iconst (v := -1) X dX11_canChange_52 (by decide) ?_
  refine z_icmp_eq (tgt := 60) X dX11_canChange_53 (by decide) (fun c_ => ?_) (fun c_ => ?_)
  · have hf := (if_pos c_).symm.trans hf
    refine z_iconst (v := 0) X dX11_canChange_60 (by decide) ?_
    exact w_canChange_61 X Z s0 0 V L ls (lv_sub hl [0] rfl) hf
  · have hf := (if_neg c_).symm.trans hf
    refine z_iconst (v := 1) X dX11_canChange_56 (by decide) ?_
    refine z_goto (tgt := 61) X dX11_canChange_57 (by decide) ?_
    exact w_canChange_61 X Z s0 1 V L ls (lv_sub hl [0] rfl) hf

set_option maxHeartbeats 4000000 in
set_option maxRecDepth 100000 in
theorem w_canChange {M : zM} {D : va_G} {cy : Nat → ClassId} {ad : Nat → Nat} {r' : Int32 × zI × zL} (X : RX M (zR D cy ad) cX11_canChange 4 RX11 3 67) (Z : RZi M (zR D cy ad) .boolean r'.1 r'.2.1 r'.2.2) (x1 : Int32) (V : zI) (L : zL) (ls : Array Slot) (hl : lv_has ls 4 [(0, .ref (ad 0)), (1, .int x1)]) (hf : f_canChange x1 V L = some r') : RG M (zR D cy ad) V L 0 ls [] := by
  unfold f_canChange at hf
  refine z_iload_n X dX11_canChange_0 rfl (lv_at hl 1 rfl) ?_
  refine z_bipush (v := 6) X dX11_canChange_1 (by decide) ?_
  refine z_idiv X dX11_canChange_3 (by decide) ?_
  refine z_istore_n (lv' := [(2, .int (x1 / 6)), (0, .ref (ad 0)), (1, .int x1)]) X dX11_canChange_4 rfl hl (by decide) rfl (fun ls hl => ?_)
  refine z_iload_n X dX11_canChange_5 rfl (lv_at hl 2 rfl) ?_
  refine z_bipush (v := 6) X dX11_canChange_6 (by decide) ?_
  refine z_irem X dX11_canChange_8 (by decide) ?_
  refine z_istore_n (lv' := [(3, .int (x1 - x1 / 6 * 6)), (2, .int (x1 / 6)), (0, .ref (ad 0)), (1, .int x1)]) X dX11_canChange_9 rfl hl (by decide) rfl (fun ls hl => ?_)
  refine z_aload_n X dX11_canChange_10 rfl (lv_at hl 2 rfl) ?_
  refine z_iload_n X dX11_canChange_11 rfl (lv_at hl 1 rfl) ?_
  refine z_iload_n X dX11_canChange_12 rfl (lv_at hl 0 rfl) ?_
  obtain ⟨r1, hc1, hf⟩ := z_bind hf
  refine m_callVi [.int (x1 / 6), .int (x1 - x1 / 6 * 6)] X hl.1 (c_isPair D cy ad hc1) gm_isPair pd_isPair rfl ⟨by decide, by decide⟩ (Nat.le_of_ble_eq_true rfl) rfl dX11_canChange_13 ?_
  refine z_if_eq (tgt := 68) X dX11_canChange_16 (by decide) (fun c_ => ?_) (fun c_ => ?_)
  · have hf := (if_pos c_).symm.trans hf
    refine z_iconst (v := 0) X dX11_canChange_68 (by decide) ?_
    exact m_iret X Z hf (by decide) dX11_canChange_69
  · have hf := (if_neg c_).symm.trans hf
    refine z_aload_n X dX11_canChange_19 rfl (lv_at hl 2 rfl) ?_
    refine z_iload_n X dX11_canChange_20 rfl (lv_at hl 1 rfl) ?_
    refine z_iload_n X dX11_canChange_21 rfl (lv_at hl 0 rfl) ?_
    obtain ⟨r2, hc2, hf⟩ := z_bind hf
    refine m_callVi [.int (x1 / 6), .int (x1 - x1 / 6 * 6)] X hl.1 (c_isWay D cy ad hc2) gm_isWay pd_isWay rfl ⟨by decide, by decide⟩ (Nat.le_of_ble_eq_true rfl) rfl dX11_canChange_22 ?_
    refine z_if_eq (tgt := 68) X dX11_canChange_25 (by decide) (fun c_ => ?_) (fun c_ => ?_)
    · have hf := (if_pos c_).symm.trans hf
      refine z_iconst (v := 0) X dX11_canChange_68 (by decide) ?_
      exact m_iret X Z hf (by decide) dX11_canChange_69
    · have hf := (if_neg c_).symm.trans hf
      refine z_aload_n X dX11_canChange_28 rfl (lv_at hl 2 rfl) ?_
      refine m_geta X ff_40 dX11_canChange_29 ?_
      refine z_aload_n X dX11_canChange_32 rfl (lv_at hl 2 rfl) ?_
      refine z_iconst (v := 0) X dX11_canChange_33 (by decide) ?_
      refine z_iload_n X dX11_canChange_34 rfl (lv_at hl 1 rfl) ?_
      refine z_iload_n X dX11_canChange_35 rfl (lv_at hl 0 rfl) ?_
      obtain ⟨r3, hc3, hf⟩ := z_bind hf
      refine m_callVi [.int 0, .int (x1 / 6), .int (x1 - x1 / 6 * 6)] X hl.1 (c_at D cy ad hc3) gm_at pd_at rfl ⟨by decide, by decide⟩ (Nat.le_of_ble_eq_true rfl) rfl dX11_canChange_36 ?_
      obtain ⟨hb4, hf⟩ := z_ite hf
      refine m_iald X pa_21 hb4 dX11_canChange_39 ?_
      refine z_if_le (tgt := 47) X dX11_canChange_40 (by decide) (fun c_ => ?_) (fun c_ => ?_)
      · have hf := (if_pos c_).symm.trans hf
        refine z_iconst (v := 0) X dX11_canChange_47 (by decide) ?_
        exact w_canChange_48 X Z 0 r3.2.1 r3.2.2 ls (lv_sub hl [2] rfl) hf
      · have hf := (if_neg c_).symm.trans hf
        refine z_iconst (v := 1) X dX11_canChange_43 (by decide) ?_
        refine z_goto (tgt := 48) X dX11_canChange_44 (by decide) ?_
        exact w_canChange_48 X Z 1 r3.2.1 r3.2.2 ls (lv_sub hl [2] rfl) hf

theorem c_canChange (D : va_G) (cy : Nat → ClassId) (ad : Nat → Nat) {x1 : Int32} {V : zI} {L : zL} {r' : Int32 × zI × zL} (hf : f_canChange x1 V L = some r') : RMi (zR D cy ad) yX11_canChange cX11_canChange 4 .boolean 3 67 [.ref (ad 0), .int x1] V L r'.1 r'.2.1 r'.2.2 :=
  RMi.of (by decide) zR_nd (Nat.le_of_ble_eq_true rfl) (fun M X Z ls hl => w_canChange X Z x1 V L ls hl hf)
def b_isBy_191 (k35 : Int32 × Int32 × Int32 × zI × zL → Option (Int32 × zI × zL)) (k191 : Int32 × Int32 × Int32 × Int32 × Int32 × zI × zL → Option (Int32 × zI × zL)) : Int32 × Int32 × Int32 × Int32 × Int32 × zI × zL → Option (Int32 × zI × zL) := fun ⟨x1, x2, x3, x6, x7, V, L⟩ =>
  (if x1 ≤ x7 then (if x6 = 0 then k35 (x1, x2, (x3 + 1), V, L) else some (1, V, L)) else if inB x7 3 then (if (V 0 57) = (-1) then if inB (V 31 x7.toNatClampNeg) 36 then k191 (x1, x2, x3, x6, (x7 + 1), z_uI V 30 (V 31 x7.toNatClampNeg).toNatClampNeg (vp_nar .boolean 0), L) else none else if inB (V 31 x7.toNatClampNeg) 36 then k191 (x1, x2, x3, x6, (x7 + 1), z_uI V 30 (V 31 x7.toNatClampNeg).toNatClampNeg (vp_nar .boolean 1), L) else none) else none)
def b_isBy_145 (k35 : Int32 × Int32 × Int32 × zI × zL → Option (Int32 × zI × zL)) (k145 : Int32 × Int32 × Int32 × Int32 × zI × zL → Option (Int32 × zI × zL)) : Int32 × Int32 × Int32 × Int32 × zI × zL → Option (Int32 × zI × zL) := fun ⟨x1, x2, x3, x6, V, L⟩ =>
  (if x1 ≤ x6 then (f_isDone V L).bind fun r1 => zfix (b_isBy_191 k35) FU (x1, x2, x3, r1.1, 0, r1.2.1, r1.2.2) else if inB x6 3 then (if (V 0 57) = (-1) then if inB (V 31 x6.toNatClampNeg) 36 then k145 (x1, x2, x3, (x6 + 1), z_uI V 30 (V 31 x6.toNatClampNeg).toNatClampNeg (vp_nar .boolean 1), L) else none else if inB (V 31 x6.toNatClampNeg) 36 then k145 (x1, x2, x3, (x6 + 1), z_uI V 30 (V 31 x6.toNatClampNeg).toNatClampNeg (vp_nar .boolean 0), L) else none) else none)
def b_isBy_51 (k35 : Int32 × Int32 × Int32 × zI × zL → Option (Int32 × zI × zL)) (k51 : Int32 × Int32 × Int32 × Int32 × Int32 × Int32 × zI × zL → Option (Int32 × zI × zL)) : Int32 × Int32 × Int32 × Int32 × Int32 × Int32 × zI × zL → Option (Int32 × zI × zL) := fun ⟨x1, x2, x3, x4, x5, x6, V, L⟩ =>
  (if x6 < 0 then (if x5 = 0 then k35 (x1, x2, (x3 + 1), V, L) else zfix (b_isBy_145 k35) FU (x1, x2, x3, 0, V, L)) else if inB x6 3 then (if x5 = 0 then k51 (x1, x2, x3, (x4 / 36), 0, (x6 + Int32.ofInt (-1)), z_uI V 31 x6.toNatClampNeg (x4 - x4 / 36 * 36), L) else if inB x6 3 then (f_canChange ((z_uI V 31 x6.toNatClampNeg (x4 - x4 / 36 * 36)) 31 x6.toNatClampNeg) (z_uI V 31 x6.toNatClampNeg (x4 - x4 / 36 * 36)) L).bind fun r3 => (if r3.1 = 0 then k51 (x1, x2, x3, (x4 / 36), 0, (x6 + Int32.ofInt (-1)), r3.2.1, r3.2.2) else (if x6 = (x1 - 1) then k51 (x1, x2, x3, (x4 / 36), 1, (x6 + Int32.ofInt (-1)), r3.2.1, r3.2.2) else if inB x6 3 then if inB (x6 + 1) 3 then (if (r3.2.1 31 (x6 + 1).toNatClampNeg) ≤ (r3.2.1 31 x6.toNatClampNeg) then k51 (x1, x2, x3, (x4 / 36), 0, (x6 + Int32.ofInt (-1)), r3.2.1, r3.2.2) else k51 (x1, x2, x3, (x4 / 36), 1, (x6 + Int32.ofInt (-1)), r3.2.1, r3.2.2)) else none else none)) else none) else none)
def b_isBy_35 (k35 : Int32 × Int32 × Int32 × zI × zL → Option (Int32 × zI × zL)) : Int32 × Int32 × Int32 × zI × zL → Option (Int32 × zI × zL) := fun ⟨x1, x2, x3, V, L⟩ =>
  (if x2 ≤ x3 then some (0, V, L) else zfix (b_isBy_51 k35) FU (x1, x2, x3, x3, 1, (x1 - 1), V, L))
def f_isBy_32 (x1 : Int32) (s0 : Int32) (V : zI) (L : zL) : Option (Int32 × zI × zL) :=
  zfix (b_isBy_35) FU (x1, s0, 0, V, L)
def f_isBy (x1 : Int32) (V : zI) (L : zL) : Option (Int32 × zI × zL) :=
  (if x1 = 0 then f_isBy_32 x1 1 V L else (if x1 = 1 then f_isBy_32 x1 36 V L else (if x1 = 2 then f_isBy_32 x1 1296 V L else f_isBy_32 x1 46656 V L)))
set_option maxHeartbeats 4000000 in
set_option maxRecDepth 100000 in
theorem w_isBy_191 {M : zM} {D : va_G} {cy : Nat → ClassId} {ad : Nat → Nat} {r' : Int32 × zI × zL} (X : RX M (zR D cy ad) cX11_isBy 8 RX11 4 90) (Z : RZi M (zR D cy ad) .boolean r'.1 r'.2.1 r'.2.2) {k35 : Int32 × Int32 × Int32 × zI × zL → Option (Int32 × zI × zL)} (hk35 : ∀ (x1 : Int32) (x2 : Int32) (x3 : Int32) (V : zI) (L : zL) (ls : Array Slot), lv_has ls 8 [(0, .ref (ad 0)), (1, .int x1), (2, .int x2), (3, .int x3)] → k35 (x1, x2, x3, V, L) = some r' → RG M (zR D cy ad) V L 35 ls []) (n : Nat) : ∀ (x1 : Int32) (x2 : Int32) (x3 : Int32) (x6 : Int32) (x7 : Int32) (V : zI) (L : zL) (ls : Array Slot) (hl : lv_has ls 8 [(0, .ref (ad 0)), (1, .int x1), (2, .int x2), (3, .int x3), (6, .int x6), (7, .int x7)]) (hf : zfix (b_isBy_191 k35) n (x1, x2, x3, x6, x7, V, L) = some r'), RG M (zR D cy ad) V L 191 ls [] := by
  induction n with
  | zero => intro x1 x2 x3 x6 x7 V L ls hl hf; cases hf
  | succ n ih =>
  intro x1 x2 x3 x6 x7 V L ls hl hf
  have hk191 : ∀ (x1 : Int32) (x2 : Int32) (x3 : Int32) (x6 : Int32) (x7 : Int32) (V : zI) (L : zL) (ls : Array Slot), lv_has ls 8 [(0, .ref (ad 0)), (1, .int x1), (2, .int x2), (3, .int x3), (6, .int x6), (7, .int x7)] → zfix (b_isBy_191 k35) n (x1, x2, x3, x6, x7, V, L) = some r' → RG M (zR D cy ad) V L 191 ls [] := ih
  have hf : b_isBy_191 k35 (zfix (b_isBy_191 k35) n) (x1, x2, x3, x6, x7, V, L) = some r' := hf
  generalize zfix (b_isBy_191 k35) n = k191 at hk191 hf
  unfold b_isBy_191 at hf
  clear ih
  refine z_iload X dX11_isBy_191 (lv_at hl 5 rfl) ?_
  refine z_iload_n X dX11_isBy_193 rfl (lv_at hl 1 rfl) ?_
  refine z_icmp_ge (tgt := 228) X dX11_isBy_194 (by decide) (fun c_ => ?_) (fun c_ => ?_)
  · have hf := (if_pos c_).symm.trans hf
    refine z_iload X dX11_isBy_228 (lv_at hl 4 rfl) ?_
    refine z_if_eq (tgt := 235) X dX11_isBy_230 (by decide) (fun c_ => ?_) (fun c_ => ?_)
    · have hf := (if_pos c_).symm.trans hf
      refine z_iinc (v := x3 + 1) (k0 := 3) (lv' := [(3, .int (x3 + 1)), (0, .ref (ad 0)), (1, .int x1), (2, .int x2), (6, .int x6), (7, .int x7)]) X dX11_isBy_235 hl rfl rfl (by decide) rfl (fun ls hl => ?_)
      refine z_goto (tgt := 35) X dX11_isBy_238 (by decide) ?_
      exact hk35 x1 x2 (x3 + 1) V L ls (lv_sub hl [1, 2, 3, 0] rfl) hf
    · have hf := (if_neg c_).symm.trans hf
      refine z_iconst (v := 1) X dX11_isBy_233 (by decide) ?_
      exact m_iret X Z hf (by decide) dX11_isBy_234
  · have hf := (if_neg c_).symm.trans hf
    refine z_aload_n X dX11_isBy_197 rfl (lv_at hl 0 rfl) ?_
    refine m_geta X ff_55 dX11_isBy_198 ?_
    refine z_aload_n X dX11_isBy_201 rfl (lv_at hl 0 rfl) ?_
    refine m_geta X ff_56 dX11_isBy_202 ?_
    refine z_iload X dX11_isBy_205 (lv_at hl 5 rfl) ?_
    obtain ⟨hb1, hf⟩ := z_ite hf
    refine m_iald X pa_31 hb1 dX11_isBy_207 ?_
    refine z_aload_n X dX11_isBy_208 rfl (lv_at hl 0 rfl) ?_
    refine m_geti X ff_57 dX11_isBy_209 ?_
    refine z_iconst (v := -1) X dX11_isBy_212 (by decide) ?_
    refine z_icmp_eq (tgt := 220) X dX11_isBy_213 (by decide) (fun c_ => ?_) (fun c_ => ?_)
    · have hf := (if_pos c_).symm.trans hf
      refine z_iconst (v := 0) X dX11_isBy_220 (by decide) ?_
      obtain ⟨hb2, hf⟩ := z_ite hf
      refine m_zast X pa_30 hb2 dX11_isBy_221 ?_
      refine z_iinc (v := x7 + 1) (k0 := 5) (lv' := [(7, .int (x7 + 1)), (0, .ref (ad 0)), (1, .int x1), (2, .int x2), (3, .int x3), (6, .int x6)]) X dX11_isBy_222 hl rfl rfl (by decide) rfl (fun ls hl => ?_)
      refine z_goto (tgt := 191) X dX11_isBy_225 (by decide) ?_
      exact hk191 x1 x2 x3 x6 (x7 + 1) (z_uI V 30 (V 31 x7.toNatClampNeg).toNatClampNeg (vp_nar .boolean 0)) L ls (lv_sub hl [1, 2, 3, 4, 5, 0] rfl) hf
    · have hf := (if_neg c_).symm.trans hf
      refine z_iconst (v := 1) X dX11_isBy_216 (by decide) ?_
      refine z_goto (tgt := 221) X dX11_isBy_217 (by decide) ?_
      obtain ⟨hb3, hf⟩ := z_ite hf
      refine m_zast X pa_30 hb3 dX11_isBy_221 ?_
      refine z_iinc (v := x7 + 1) (k0 := 5) (lv' := [(7, .int (x7 + 1)), (0, .ref (ad 0)), (1, .int x1), (2, .int x2), (3, .int x3), (6, .int x6)]) X dX11_isBy_222 hl rfl rfl (by decide) rfl (fun ls hl => ?_)
      refine z_goto (tgt := 191) X dX11_isBy_225 (by decide) ?_
      exact hk191 x1 x2 x3 x6 (x7 + 1) (z_uI V 30 (V 31 x7.toNatClampNeg).toNatClampNeg (vp_nar .boolean 1)) L ls (lv_sub hl [1, 2, 3, 4, 5, 0] rfl) hf

set_option maxHeartbeats 4000000 in
set_option maxRecDepth 100000 in
theorem w_isBy_145 {M : zM} {D : va_G} {cy : Nat → ClassId} {ad : Nat → Nat} {r' : Int32 × zI × zL} (X : RX M (zR D cy ad) cX11_isBy 8 RX11 4 90) (Z : RZi M (zR D cy ad) .boolean r'.1 r'.2.1 r'.2.2) {k35 : Int32 × Int32 × Int32 × zI × zL → Option (Int32 × zI × zL)} (hk35 : ∀ (x1 : Int32) (x2 : Int32) (x3 : Int32) (V : zI) (L : zL) (ls : Array Slot), lv_has ls 8 [(0, .ref (ad 0)), (1, .int x1), (2, .int x2), (3, .int x3)] → k35 (x1, x2, x3, V, L) = some r' → RG M (zR D cy ad) V L 35 ls []) (n : Nat) : ∀ (x1 : Int32) (x2 : Int32) (x3 : Int32) (x6 : Int32) (V : zI) (L : zL) (ls : Array Slot) (hl : lv_has ls 8 [(0, .ref (ad 0)), (1, .int x1), (2, .int x2), (3, .int x3), (6, .int x6)]) (hf : zfix (b_isBy_145 k35) n (x1, x2, x3, x6, V, L) = some r'), RG M (zR D cy ad) V L 145 ls [] := by
  induction n with
  | zero => intro x1 x2 x3 x6 V L ls hl hf; cases hf
  | succ n ih =>
  intro x1 x2 x3 x6 V L ls hl hf
  have hk145 : ∀ (x1 : Int32) (x2 : Int32) (x3 : Int32) (x6 : Int32) (V : zI) (L : zL) (ls : Array Slot), lv_has ls 8 [(0, .ref (ad 0)), (1, .int x1), (2, .int x2), (3, .int x3), (6, .int x6)] → zfix (b_isBy_145 k35) n (x1, x2, x3, x6, V, L) = some r' → RG M (zR D cy ad) V L 145 ls [] := ih
  have hf : b_isBy_145 k35 (zfix (b_isBy_145 k35) n) (x1, x2, x3, x6, V, L) = some r' := hf
  generalize zfix (b_isBy_145 k35) n = k145 at hk145 hf
  unfold b_isBy_145 at hf
  clear ih
  refine z_iload X dX11_isBy_145 (lv_at hl 4 rfl) ?_
  refine z_iload_n X dX11_isBy_147 rfl (lv_at hl 1 rfl) ?_
  refine z_icmp_ge (tgt := 182) X dX11_isBy_148 (by decide) (fun c_ => ?_) (fun c_ => ?_)
  · have hf := (if_pos c_).symm.trans hf
    refine z_aload_n X dX11_isBy_182 rfl (lv_at hl 0 rfl) ?_
    obtain ⟨r1, hc1, hf⟩ := z_bind hf
    refine m_callVi [] X hl.1 (c_isDone D cy ad hc1) gm_isDone pd_isDone rfl ⟨by decide, by decide⟩ (Nat.le_of_ble_eq_true rfl) rfl dX11_isBy_183 ?_
    refine z_istore (lv' := [(6, .int r1.1), (0, .ref (ad 0)), (1, .int x1), (2, .int x2), (3, .int x3)]) X dX11_isBy_186 hl (by decide) rfl (fun ls hl => ?_)
    refine z_iconst (v := 0) X dX11_isBy_188 (by decide) ?_
    refine z_istore (lv' := [(7, .int 0), (6, .int r1.1), (0, .ref (ad 0)), (1, .int x1), (2, .int x2), (3, .int x3)]) X dX11_isBy_189 hl (by decide) rfl (fun ls hl => ?_)
    exact w_isBy_191 X Z hk35 FU x1 x2 x3 r1.1 0 r1.2.1 r1.2.2 ls (lv_sub hl [2, 3, 4, 5, 1, 0] rfl) hf
  · have hf := (if_neg c_).symm.trans hf
    refine z_aload_n X dX11_isBy_151 rfl (lv_at hl 0 rfl) ?_
    refine m_geta X ff_55 dX11_isBy_152 ?_
    refine z_aload_n X dX11_isBy_155 rfl (lv_at hl 0 rfl) ?_
    refine m_geta X ff_56 dX11_isBy_156 ?_
    refine z_iload X dX11_isBy_159 (lv_at hl 4 rfl) ?_
    obtain ⟨hb2, hf⟩ := z_ite hf
    refine m_iald X pa_31 hb2 dX11_isBy_161 ?_
    refine z_aload_n X dX11_isBy_162 rfl (lv_at hl 0 rfl) ?_
    refine m_geti X ff_57 dX11_isBy_163 ?_
    refine z_iconst (v := -1) X dX11_isBy_166 (by decide) ?_
    refine z_icmp_ne (tgt := 174) X dX11_isBy_167 (by decide) (fun c_ => ?_) (fun c_ => ?_)
    · have hf := (if_neg c_).symm.trans hf
      refine z_iconst (v := 0) X dX11_isBy_174 (by decide) ?_
      obtain ⟨hb3, hf⟩ := z_ite hf
      refine m_zast X pa_30 hb3 dX11_isBy_175 ?_
      refine z_iinc (v := x6 + 1) (k0 := 4) (lv' := [(6, .int (x6 + 1)), (0, .ref (ad 0)), (1, .int x1), (2, .int x2), (3, .int x3)]) X dX11_isBy_176 hl rfl rfl (by decide) rfl (fun ls hl => ?_)
      refine z_goto (tgt := 145) X dX11_isBy_179 (by decide) ?_
      exact hk145 x1 x2 x3 (x6 + 1) (z_uI V 30 (V 31 x6.toNatClampNeg).toNatClampNeg (vp_nar .boolean 0)) L ls (lv_sub hl [1, 2, 3, 4, 0] rfl) hf
    · have hf := (if_pos c_).symm.trans hf
      refine z_iconst (v := 1) X dX11_isBy_170 (by decide) ?_
      refine z_goto (tgt := 175) X dX11_isBy_171 (by decide) ?_
      obtain ⟨hb4, hf⟩ := z_ite hf
      refine m_zast X pa_30 hb4 dX11_isBy_175 ?_
      refine z_iinc (v := x6 + 1) (k0 := 4) (lv' := [(6, .int (x6 + 1)), (0, .ref (ad 0)), (1, .int x1), (2, .int x2), (3, .int x3)]) X dX11_isBy_176 hl rfl rfl (by decide) rfl (fun ls hl => ?_)
      refine z_goto (tgt := 145) X dX11_isBy_179 (by decide) ?_
      exact hk145 x1 x2 x3 (x6 + 1) (z_uI V 30 (V 31 x6.toNatClampNeg).toNatClampNeg (vp_nar .boolean 1)) L ls (lv_sub hl [1, 2, 3, 4, 0] rfl) hf

set_option maxHeartbeats 4000000 in
set_option maxRecDepth 100000 in
theorem w_isBy_51 {M : zM} {D : va_G} {cy : Nat → ClassId} {ad : Nat → Nat} {r' : Int32 × zI × zL} (X : RX M (zR D cy ad) cX11_isBy 8 RX11 4 90) (Z : RZi M (zR D cy ad) .boolean r'.1 r'.2.1 r'.2.2) {k35 : Int32 × Int32 × Int32 × zI × zL → Option (Int32 × zI × zL)} (hk35 : ∀ (x1 : Int32) (x2 : Int32) (x3 : Int32) (V : zI) (L : zL) (ls : Array Slot), lv_has ls 8 [(0, .ref (ad 0)), (1, .int x1), (2, .int x2), (3, .int x3)] → k35 (x1, x2, x3, V, L) = some r' → RG M (zR D cy ad) V L 35 ls []) (n : Nat) : ∀ (x1 : Int32) (x2 : Int32) (x3 : Int32) (x4 : Int32) (x5 : Int32) (x6 : Int32) (V : zI) (L : zL) (ls : Array Slot) (hl : lv_has ls 8 [(0, .ref (ad 0)), (1, .int x1), (2, .int x2), (3, .int x3), (4, .int x4), (5, .int x5), (6, .int x6)]) (hf : zfix (b_isBy_51 k35) n (x1, x2, x3, x4, x5, x6, V, L) = some r'), RG M (zR D cy ad) V L 51 ls [] := by
  induction n with
  | zero => intro x1 x2 x3 x4 x5 x6 V L ls hl hf; cases hf
  | succ n ih =>
  intro x1 x2 x3 x4 x5 x6 V L ls hl hf
  have hk51 : ∀ (x1 : Int32) (x2 : Int32) (x3 : Int32) (x4 : Int32) (x5 : Int32) (x6 : Int32) (V : zI) (L : zL) (ls : Array Slot), lv_has ls 8 [(0, .ref (ad 0)), (1, .int x1), (2, .int x2), (3, .int x3), (4, .int x4), (5, .int x5), (6, .int x6)] → zfix (b_isBy_51 k35) n (x1, x2, x3, x4, x5, x6, V, L) = some r' → RG M (zR D cy ad) V L 51 ls [] := ih
  have hf : b_isBy_51 k35 (zfix (b_isBy_51 k35) n) (x1, x2, x3, x4, x5, x6, V, L) = some r' := hf
  generalize zfix (b_isBy_51 k35) n = k51 at hk51 hf
  unfold b_isBy_51 at hf
  clear ih
  refine z_iload X dX11_isBy_51 (lv_at hl 6 rfl) ?_
  refine z_if_lt (tgt := 134) X dX11_isBy_53 (by decide) (fun c_ => ?_) (fun c_ => ?_)
  · have hf := (if_pos c_).symm.trans hf
    refine z_iload X dX11_isBy_134 (lv_at hl 5 rfl) ?_
    refine z_if_ne (tgt := 142) X dX11_isBy_136 (by decide) (fun c_ => ?_) (fun c_ => ?_)
    · have hf := (if_neg c_).symm.trans hf
      refine z_iconst (v := 0) X dX11_isBy_142 (by decide) ?_
      refine z_istore (lv' := [(6, .int 0), (0, .ref (ad 0)), (1, .int x1), (2, .int x2), (3, .int x3), (4, .int x4), (5, .int x5)]) X dX11_isBy_143 hl (by decide) rfl (fun ls hl => ?_)
      exact w_isBy_145 X Z hk35 FU x1 x2 x3 0 V L ls (lv_sub hl [1, 2, 3, 4, 0] rfl) hf
    · have hf := (if_pos c_).symm.trans hf
      refine z_goto (tgt := 235) X dX11_isBy_139 (by decide) ?_
      refine z_iinc (v := x3 + 1) (k0 := 3) (lv' := [(3, .int (x3 + 1)), (0, .ref (ad 0)), (1, .int x1), (2, .int x2), (4, .int x4), (5, .int x5), (6, .int x6)]) X dX11_isBy_235 hl rfl rfl (by decide) rfl (fun ls hl => ?_)
      refine z_goto (tgt := 35) X dX11_isBy_238 (by decide) ?_
      exact hk35 x1 x2 (x3 + 1) V L ls (lv_sub hl [1, 2, 3, 0] rfl) hf
  · have hf := (if_neg c_).symm.trans hf
    refine z_aload_n X dX11_isBy_56 rfl (lv_at hl 0 rfl) ?_
    refine m_geta X ff_56 dX11_isBy_57 ?_
    refine z_iload X dX11_isBy_60 (lv_at hl 6 rfl) ?_
    refine z_iload X dX11_isBy_62 (lv_at hl 4 rfl) ?_
    refine z_bipush (v := 36) X dX11_isBy_64 (by decide) ?_
    refine z_irem X dX11_isBy_66 (by decide) ?_
    obtain ⟨hb1, hf⟩ := z_ite hf
    refine m_iast X pa_31 hb1 dX11_isBy_67 ?_
    refine z_iload X dX11_isBy_68 (lv_at hl 4 rfl) ?_
    refine z_bipush (v := 36) X dX11_isBy_70 (by decide) ?_
    refine z_idiv X dX11_isBy_72 (by decide) ?_
    refine z_istore (lv' := [(4, .int (x4 / 36)), (0, .ref (ad 0)), (1, .int x1), (2, .int x2), (3, .int x3), (5, .int x5), (6, .int x6)]) X dX11_isBy_73 hl (by decide) rfl (fun ls hl => ?_)
    refine z_iload X dX11_isBy_75 (lv_at hl 5 rfl) ?_
    refine z_if_eq (tgt := 125) X dX11_isBy_77 (by decide) (fun c_ => ?_) (fun c_ => ?_)
    · have hf := (if_pos c_).symm.trans hf
      refine z_iconst (v := 0) X dX11_isBy_125 (by decide) ?_
      refine z_istore (lv' := [(5, .int 0), (4, .int (x4 / 36)), (0, .ref (ad 0)), (1, .int x1), (2, .int x2), (3, .int x3), (6, .int x6)]) X dX11_isBy_126 hl (by decide) rfl (fun ls hl => ?_)
      refine z_iinc (v := x6 + Int32.ofInt (-1)) (k0 := 6) (lv' := [(6, .int (x6 + Int32.ofInt (-1))), (5, .int 0), (4, .int (x4 / 36)), (0, .ref (ad 0)), (1, .int x1), (2, .int x2), (3, .int x3)]) X dX11_isBy_128 hl rfl rfl (by decide) rfl (fun ls hl => ?_)
      refine z_goto (tgt := 51) X dX11_isBy_131 (by decide) ?_
      exact hk51 x1 x2 x3 (x4 / 36) 0 (x6 + Int32.ofInt (-1)) (z_uI V 31 x6.toNatClampNeg (x4 - x4 / 36 * 36)) L ls (lv_sub hl [3, 4, 5, 6, 2, 1, 0] rfl) hf
    · have hf := (if_neg c_).symm.trans hf
      refine z_aload_n X dX11_isBy_80 rfl (lv_at hl 1 rfl) ?_
      refine z_aload_n X dX11_isBy_81 rfl (lv_at hl 1 rfl) ?_
      refine m_geta X ff_56 dX11_isBy_82 ?_
      refine z_iload X dX11_isBy_85 (lv_at hl 6 rfl) ?_
      obtain ⟨hb2, hf⟩ := z_ite hf
      refine m_iald X pa_31 hb2 dX11_isBy_87 ?_
      obtain ⟨r3, hc3, hf⟩ := z_bind hf
      refine m_callVi [.int ((z_uI V 31 x6.toNatClampNeg (x4 - x4 / 36 * 36)) 31 x6.toNatClampNeg)] X hl.1 (c_canChange D cy ad hc3) gm_canChange pd_canChange rfl ⟨by decide, by decide⟩ (Nat.le_of_ble_eq_true rfl) rfl dX11_isBy_88 ?_
      refine z_if_eq (tgt := 125) X dX11_isBy_91 (by decide) (fun c_ => ?_) (fun c_ => ?_)
      · have hf := (if_pos c_).symm.trans hf
        refine z_iconst (v := 0) X dX11_isBy_125 (by decide) ?_
        refine z_istore (lv' := [(5, .int 0), (4, .int (x4 / 36)), (0, .ref (ad 0)), (1, .int x1), (2, .int x2), (3, .int x3), (6, .int x6)]) X dX11_isBy_126 hl (by decide) rfl (fun ls hl => ?_)
        refine z_iinc (v := x6 + Int32.ofInt (-1)) (k0 := 6) (lv' := [(6, .int (x6 + Int32.ofInt (-1))), (5, .int 0), (4, .int (x4 / 36)), (0, .ref (ad 0)), (1, .int x1), (2, .int x2), (3, .int x3)]) X dX11_isBy_128 hl rfl rfl (by decide) rfl (fun ls hl => ?_)
        refine z_goto (tgt := 51) X dX11_isBy_131 (by decide) ?_
        exact hk51 x1 x2 x3 (x4 / 36) 0 (x6 + Int32.ofInt (-1)) r3.2.1 r3.2.2 ls (lv_sub hl [3, 4, 5, 6, 2, 1, 0] rfl) hf
      · have hf := (if_neg c_).symm.trans hf
        refine z_iload X dX11_isBy_94 (lv_at hl 6 rfl) ?_
        refine z_iload_n X dX11_isBy_96 rfl (lv_at hl 2 rfl) ?_
        refine z_iconst (v := 1) X dX11_isBy_97 (by decide) ?_
        refine z_isub X dX11_isBy_98 ?_
        refine z_icmp_eq (tgt := 121) X dX11_isBy_99 (by decide) (fun c_ => ?_) (fun c_ => ?_)
        · have hf := (if_pos c_).symm.trans hf
          refine z_iconst (v := 1) X dX11_isBy_121 (by decide) ?_
          refine z_goto (tgt := 126) X dX11_isBy_122 (by decide) ?_
          refine z_istore (lv' := [(5, .int 1), (4, .int (x4 / 36)), (0, .ref (ad 0)), (1, .int x1), (2, .int x2), (3, .int x3), (6, .int x6)]) X dX11_isBy_126 hl (by decide) rfl (fun ls hl => ?_)
          refine z_iinc (v := x6 + Int32.ofInt (-1)) (k0 := 6) (lv' := [(6, .int (x6 + Int32.ofInt (-1))), (5, .int 1), (4, .int (x4 / 36)), (0, .ref (ad 0)), (1, .int x1), (2, .int x2), (3, .int x3)]) X dX11_isBy_128 hl rfl rfl (by decide) rfl (fun ls hl => ?_)
          refine z_goto (tgt := 51) X dX11_isBy_131 (by decide) ?_
          exact hk51 x1 x2 x3 (x4 / 36) 1 (x6 + Int32.ofInt (-1)) r3.2.1 r3.2.2 ls (lv_sub hl [3, 4, 5, 6, 2, 1, 0] rfl) hf
        · have hf := (if_neg c_).symm.trans hf
          refine z_aload_n X dX11_isBy_102 rfl (lv_at hl 1 rfl) ?_
          refine m_geta X ff_56 dX11_isBy_103 ?_
          refine z_iload X dX11_isBy_106 (lv_at hl 6 rfl) ?_
          obtain ⟨hb4, hf⟩ := z_ite hf
          refine m_iald X pa_31 hb4 dX11_isBy_108 ?_
          refine z_aload_n X dX11_isBy_109 rfl (lv_at hl 1 rfl) ?_
          refine m_geta X ff_56 dX11_isBy_110 ?_
          refine z_iload X dX11_isBy_113 (lv_at hl 6 rfl) ?_
          refine z_iconst (v := 1) X dX11_isBy_115 (by decide) ?_
          refine z_iadd X dX11_isBy_116 ?_
          obtain ⟨hb5, hf⟩ := z_ite hf
          refine m_iald X pa_31 hb5 dX11_isBy_117 ?_
          refine z_icmp_ge (tgt := 125) X dX11_isBy_118 (by decide) (fun c_ => ?_) (fun c_ => ?_)
          · have hf := (if_pos c_).symm.trans hf
            refine z_iconst (v := 0) X dX11_isBy_125 (by decide) ?_
            refine z_istore (lv' := [(5, .int 0), (4, .int (x4 / 36)), (0, .ref (ad 0)), (1, .int x1), (2, .int x2), (3, .int x3), (6, .int x6)]) X dX11_isBy_126 hl (by decide) rfl (fun ls hl => ?_)
            refine z_iinc (v := x6 + Int32.ofInt (-1)) (k0 := 6) (lv' := [(6, .int (x6 + Int32.ofInt (-1))), (5, .int 0), (4, .int (x4 / 36)), (0, .ref (ad 0)), (1, .int x1), (2, .int x2), (3, .int x3)]) X dX11_isBy_128 hl rfl rfl (by decide) rfl (fun ls hl => ?_)
            refine z_goto (tgt := 51) X dX11_isBy_131 (by decide) ?_
            exact hk51 x1 x2 x3 (x4 / 36) 0 (x6 + Int32.ofInt (-1)) r3.2.1 r3.2.2 ls (lv_sub hl [3, 4, 5, 6, 2, 1, 0] rfl) hf
          · have hf := (if_neg c_).symm.trans hf
            refine z_iconst (v := 1) X dX11_isBy_121 (by decide) ?_
            refine z_goto (tgt := 126) X dX11_isBy_122 (by decide) ?_
            refine z_istore (lv' := [(5, .int 1), (4, .int (x4 / 36)), (0, .ref (ad 0)), (1, .int x1), (2, .int x2), (3, .int x3), (6, .int x6)]) X dX11_isBy_126 hl (by decide) rfl (fun ls hl => ?_)
            refine z_iinc (v := x6 + Int32.ofInt (-1)) (k0 := 6) (lv' := [(6, .int (x6 + Int32.ofInt (-1))), (5, .int 1), (4, .int (x4 / 36)), (0, .ref (ad 0)), (1, .int x1), (2, .int x2), (3, .int x3)]) X dX11_isBy_128 hl rfl rfl (by decide) rfl (fun ls hl => ?_)
            refine z_goto (tgt := 51) X dX11_isBy_131 (by decide) ?_
            exact hk51 x1 x2 x3 (x4 / 36) 1 (x6 + Int32.ofInt (-1)) r3.2.1 r3.2.2 ls (lv_sub hl [3, 4, 5, 6, 2, 1, 0] rfl) hf

set_option maxHeartbeats 4000000 in
set_option maxRecDepth 100000 in
theorem w_isBy_35 {M : zM} {D : va_G} {cy : Nat → ClassId} {ad : Nat → Nat} {r' : Int32 × zI × zL} (X : RX M (zR D cy ad) cX11_isBy 8 RX11 4 90) (Z : RZi M (zR D cy ad) .boolean r'.1 r'.2.1 r'.2.2) (n : Nat) : ∀ (x1 : Int32) (x2 : Int32) (x3 : Int32) (V : zI) (L : zL) (ls : Array Slot) (hl : lv_has ls 8 [(0, .ref (ad 0)), (1, .int x1), (2, .int x2), (3, .int x3)]) (hf : zfix (b_isBy_35) n (x1, x2, x3, V, L) = some r'), RG M (zR D cy ad) V L 35 ls [] := by
  induction n with
  | zero => intro x1 x2 x3 V L ls hl hf; cases hf
  | succ n ih =>
  intro x1 x2 x3 V L ls hl hf
  have hk35 : ∀ (x1 : Int32) (x2 : Int32) (x3 : Int32) (V : zI) (L : zL) (ls : Array Slot), lv_has ls 8 [(0, .ref (ad 0)), (1, .int x1), (2, .int x2), (3, .int x3)] → zfix (b_isBy_35) n (x1, x2, x3, V, L) = some r' → RG M (zR D cy ad) V L 35 ls [] := ih
  have hf : b_isBy_35 (zfix (b_isBy_35) n) (x1, x2, x3, V, L) = some r' := hf
  generalize zfix (b_isBy_35) n = k35 at hk35 hf
  unfold b_isBy_35 at hf
  clear ih
  refine z_iload_n X dX11_isBy_35 rfl (lv_at hl 3 rfl) ?_
  refine z_iload_n X dX11_isBy_36 rfl (lv_at hl 2 rfl) ?_
  refine z_icmp_ge (tgt := 241) X dX11_isBy_37 (by decide) (fun c_ => ?_) (fun c_ => ?_)
  · have hf := (if_pos c_).symm.trans hf
    refine z_iconst (v := 0) X dX11_isBy_241 (by decide) ?_
    exact m_iret X Z hf (by decide) dX11_isBy_242
  · have hf := (if_neg c_).symm.trans hf
    refine z_iload_n X dX11_isBy_40 rfl (lv_at hl 3 rfl) ?_
    refine z_istore (lv' := [(4, .int x3), (0, .ref (ad 0)), (1, .int x1), (2, .int x2), (3, .int x3)]) X dX11_isBy_41 hl (by decide) rfl (fun ls hl => ?_)
    refine z_iconst (v := 1) X dX11_isBy_43 (by decide) ?_
    refine z_istore (lv' := [(5, .int 1), (4, .int x3), (0, .ref (ad 0)), (1, .int x1), (2, .int x2), (3, .int x3)]) X dX11_isBy_44 hl (by decide) rfl (fun ls hl => ?_)
    refine z_iload_n X dX11_isBy_46 rfl (lv_at hl 3 rfl) ?_
    refine z_iconst (v := 1) X dX11_isBy_47 (by decide) ?_
    refine z_isub X dX11_isBy_48 ?_
    refine z_istore (lv' := [(6, .int (x1 - 1)), (5, .int 1), (4, .int x3), (0, .ref (ad 0)), (1, .int x1), (2, .int x2), (3, .int x3)]) X dX11_isBy_49 hl (by decide) rfl (fun ls hl => ?_)
    exact w_isBy_51 X Z hk35 FU x1 x2 x3 x3 1 (x1 - 1) V L ls (lv_sub hl [3, 4, 5, 6, 2, 1, 0] rfl) hf

set_option maxHeartbeats 4000000 in
set_option maxRecDepth 100000 in
theorem w_isBy_32 {M : zM} {D : va_G} {cy : Nat → ClassId} {ad : Nat → Nat} {r' : Int32 × zI × zL} (X : RX M (zR D cy ad) cX11_isBy 8 RX11 4 90) (Z : RZi M (zR D cy ad) .boolean r'.1 r'.2.1 r'.2.2) (x1 : Int32) (s0 : Int32) (V : zI) (L : zL) (ls : Array Slot) (hl : lv_has ls 8 [(0, .ref (ad 0)), (1, .int x1)]) (hf : f_isBy_32 x1 s0 V L = some r') : RG M (zR D cy ad) V L 32 ls [.int s0] := by
  unfold f_isBy_32 at hf
  refine z_istore_n (lv' := [(2, .int s0), (0, .ref (ad 0)), (1, .int x1)]) X dX11_isBy_32 rfl hl (by decide) rfl (fun ls hl => ?_)
  refine z_iconst (v := 0) X dX11_isBy_33 (by decide) ?_
  refine z_istore_n (lv' := [(3, .int 0), (2, .int s0), (0, .ref (ad 0)), (1, .int x1)]) X dX11_isBy_34 rfl hl (by decide) rfl (fun ls hl => ?_)
  exact w_isBy_35 X Z FU x1 s0 0 V L ls (lv_sub hl [2, 3, 1, 0] rfl) hf

set_option maxHeartbeats 4000000 in
set_option maxRecDepth 100000 in
theorem w_isBy {M : zM} {D : va_G} {cy : Nat → ClassId} {ad : Nat → Nat} {r' : Int32 × zI × zL} (X : RX M (zR D cy ad) cX11_isBy 8 RX11 4 90) (Z : RZi M (zR D cy ad) .boolean r'.1 r'.2.1 r'.2.2) (x1 : Int32) (V : zI) (L : zL) (ls : Array Slot) (hl : lv_has ls 8 [(0, .ref (ad 0)), (1, .int x1)]) (hf : f_isBy x1 V L = some r') : RG M (zR D cy ad) V L 0 ls [] := by
  unfold f_isBy at hf
  refine z_iload_n X dX11_isBy_0 rfl (lv_at hl 1 rfl) ?_
  refine z_if_ne (tgt := 8) X dX11_isBy_1 (by decide) (fun c_ => ?_) (fun c_ => ?_)
  · have hf := (if_neg c_).symm.trans hf
    refine z_iload_n X dX11_isBy_8 rfl (lv_at hl 1 rfl) ?_
    refine z_iconst (v := 1) X dX11_isBy_9 (by decide) ?_
    refine z_icmp_ne (tgt := 18) X dX11_isBy_10 (by decide) (fun c_ => ?_) (fun c_ => ?_)
    · have hf := (if_neg c_).symm.trans hf
      refine z_iload_n X dX11_isBy_18 rfl (lv_at hl 1 rfl) ?_
      refine z_iconst (v := 2) X dX11_isBy_19 (by decide) ?_
      refine z_icmp_ne (tgt := 29) X dX11_isBy_20 (by decide) (fun c_ => ?_) (fun c_ => ?_)
      · have hf := (if_neg c_).symm.trans hf
        refine z_ldcw X dX11_isBy_29 kc_472 ?_
        exact w_isBy_32 X Z x1 46656 V L ls (lv_sub hl [0, 1] rfl) hf
      · have hf := (if_pos c_).symm.trans hf
        refine z_sipush (v := 1296) X dX11_isBy_23 (by decide) ?_
        refine z_goto (tgt := 32) X dX11_isBy_26 (by decide) ?_
        exact w_isBy_32 X Z x1 1296 V L ls (lv_sub hl [0, 1] rfl) hf
    · have hf := (if_pos c_).symm.trans hf
      refine z_bipush (v := 36) X dX11_isBy_13 (by decide) ?_
      refine z_goto (tgt := 32) X dX11_isBy_15 (by decide) ?_
      exact w_isBy_32 X Z x1 36 V L ls (lv_sub hl [0, 1] rfl) hf
  · have hf := (if_pos c_).symm.trans hf
    refine z_iconst (v := 1) X dX11_isBy_4 (by decide) ?_
    refine z_goto (tgt := 32) X dX11_isBy_5 (by decide) ?_
    exact w_isBy_32 X Z x1 1 V L ls (lv_sub hl [0, 1] rfl) hf

theorem c_isBy (D : va_G) (cy : Nat → ClassId) (ad : Nat → Nat) {x1 : Int32} {V : zI} {L : zL} {r' : Int32 × zI × zL} (hf : f_isBy x1 V L = some r') : RMi (zR D cy ad) yX11_isBy cX11_isBy 8 .boolean 4 90 [.ref (ad 0), .int x1] V L r'.1 r'.2.1 r'.2.2 :=
  RMi.of (by decide) zR_nd (Nat.le_of_ble_eq_true rfl) (fun M X Z ls hl => w_isBy X Z x1 V L ls hl hf)
def b_fewest_6 (k6 : Int32 × Int32 × zI × zL → Option (Int32 × zI × zL)) : Int32 × Int32 × zI × zL → Option (Int32 × zI × zL) := fun ⟨x1, x2, V, L⟩ =>
  (if 3 < x2 then some ((-1), V, L) else (f_isBy x2 V L).bind fun r1 => (if r1.1 = 0 then k6 (x1, (x2 + 1), r1.2.1, r1.2.2) else (if x1 = (-1) then some (x2, r1.2.1, r1.2.2) else (f_is x1 0 (x2 - 1)).bind fun r2 => (if r2 = 0 then some ((-1), r1.2.1, r1.2.2) else if inB x1 3 then some (r1.2.1 31 x1.toNatClampNeg, r1.2.1, r1.2.2) else none))))
def f_fewest (x1 : Int32) (V : zI) (L : zL) : Option (Int32 × zI × zL) :=
  (f_isAsHeld V L).bind fun r1 => zfix (b_fewest_6) FU (x1, 0, r1.1, r1.2)
set_option maxHeartbeats 4000000 in
set_option maxRecDepth 100000 in
theorem w_fewest_6 {M : zM} {D : va_G} {cy : Nat → ClassId} {ad : Nat → Nat} {r' : Int32 × zI × zL} (X : RX M (zR D cy ad) cX11_fewest 3 RX11 5 117) (Z : RZi M (zR D cy ad) .int r'.1 r'.2.1 r'.2.2) (n : Nat) : ∀ (x1 : Int32) (x2 : Int32) (V : zI) (L : zL) (ls : Array Slot) (hl : lv_has ls 3 [(0, .ref (ad 0)), (1, .int x1), (2, .int x2)]) (hf : zfix (b_fewest_6) n (x1, x2, V, L) = some r'), RG M (zR D cy ad) V L 6 ls [] := by
  induction n with
  | zero => intro x1 x2 V L ls hl hf; cases hf
  | succ n ih =>
  intro x1 x2 V L ls hl hf
  have hk6 : ∀ (x1 : Int32) (x2 : Int32) (V : zI) (L : zL) (ls : Array Slot), lv_has ls 3 [(0, .ref (ad 0)), (1, .int x1), (2, .int x2)] → zfix (b_fewest_6) n (x1, x2, V, L) = some r' → RG M (zR D cy ad) V L 6 ls [] := ih
  have hf : b_fewest_6 (zfix (b_fewest_6) n) (x1, x2, V, L) = some r' := hf
  generalize zfix (b_fewest_6) n = k6 at hk6 hf
  unfold b_fewest_6 at hf
  clear ih
  refine z_iload_n X dX11_fewest_6 rfl (lv_at hl 2 rfl) ?_
  refine z_iconst (v := 3) X dX11_fewest_7 (by decide) ?_
  refine z_icmp_gt (tgt := 56) X dX11_fewest_8 (by decide) (fun c_ => ?_) (fun c_ => ?_)
  · have hf := (if_pos c_).symm.trans hf
    refine z_iconst (v := -1) X dX11_fewest_56 (by decide) ?_
    exact m_iret X Z hf rfl dX11_fewest_57
  · have hf := (if_neg c_).symm.trans hf
    refine z_aload_n X dX11_fewest_11 rfl (lv_at hl 0 rfl) ?_
    refine z_iload_n X dX11_fewest_12 rfl (lv_at hl 2 rfl) ?_
    obtain ⟨r1, hc1, hf⟩ := z_bind hf
    refine m_callVi [.int x2] X hl.1 (c_isBy D cy ad hc1) gm_isBy pd_isBy rfl ⟨by decide, by decide⟩ (Nat.le_of_ble_eq_true rfl) rfl dX11_fewest_13 ?_
    refine z_if_eq (tgt := 50) X dX11_fewest_16 (by decide) (fun c_ => ?_) (fun c_ => ?_)
    · have hf := (if_pos c_).symm.trans hf
      refine z_iinc (v := x2 + 1) (k0 := 2) (lv' := [(2, .int (x2 + 1)), (0, .ref (ad 0)), (1, .int x1)]) X dX11_fewest_50 hl rfl rfl (by decide) rfl (fun ls hl => ?_)
      refine z_goto (tgt := 6) X dX11_fewest_53 (by decide) ?_
      exact hk6 x1 (x2 + 1) r1.2.1 r1.2.2 ls (lv_sub hl [1, 2, 0] rfl) hf
    · have hf := (if_neg c_).symm.trans hf
      refine z_iload_n X dX11_fewest_19 rfl (lv_at hl 1 rfl) ?_
      refine z_iconst (v := -1) X dX11_fewest_20 (by decide) ?_
      refine z_icmp_ne (tgt := 28) X dX11_fewest_21 (by decide) (fun c_ => ?_) (fun c_ => ?_)
      · have hf := (if_neg c_).symm.trans hf
        refine z_iload_n X dX11_fewest_28 rfl (lv_at hl 1 rfl) ?_
        refine z_iconst (v := 0) X dX11_fewest_29 (by decide) ?_
        refine z_iload_n X dX11_fewest_30 rfl (lv_at hl 2 rfl) ?_
        refine z_iconst (v := 1) X dX11_fewest_31 (by decide) ?_
        refine z_isub X dX11_fewest_32 ?_
        obtain ⟨r2, hc2, hf⟩ := z_bind hf
        refine m_callSi [.int x1, .int 0, .int (x2 - 1)] X hl.1 (c_is D cy ad hc2) gm_is pd_is rfl ⟨by decide, by decide⟩ (Nat.le_of_ble_eq_true rfl) rfl dX11_fewest_33 ?_
        refine z_if_eq (tgt := 48) X dX11_fewest_36 (by decide) (fun c_ => ?_) (fun c_ => ?_)
        · have hf := (if_pos c_).symm.trans hf
          refine z_iconst (v := -1) X dX11_fewest_48 (by decide) ?_
          exact m_iret X Z hf rfl dX11_fewest_49
        · have hf := (if_neg c_).symm.trans hf
          refine z_aload_n X dX11_fewest_39 rfl (lv_at hl 0 rfl) ?_
          refine m_geta X ff_56 dX11_fewest_40 ?_
          refine z_iload_n X dX11_fewest_43 rfl (lv_at hl 1 rfl) ?_
          obtain ⟨hb3, hf⟩ := z_ite hf
          refine m_iald X pa_31 hb3 dX11_fewest_44 ?_
          refine z_goto (tgt := 49) X dX11_fewest_45 (by decide) ?_
          exact m_iret X Z hf rfl dX11_fewest_49
      · have hf := (if_pos c_).symm.trans hf
        refine z_iload_n X dX11_fewest_24 rfl (lv_at hl 2 rfl) ?_
        refine z_goto (tgt := 49) X dX11_fewest_25 (by decide) ?_
        exact m_iret X Z hf rfl dX11_fewest_49

set_option maxHeartbeats 4000000 in
set_option maxRecDepth 100000 in
theorem w_fewest {M : zM} {D : va_G} {cy : Nat → ClassId} {ad : Nat → Nat} {r' : Int32 × zI × zL} (X : RX M (zR D cy ad) cX11_fewest 3 RX11 5 117) (Z : RZi M (zR D cy ad) .int r'.1 r'.2.1 r'.2.2) (x1 : Int32) (V : zI) (L : zL) (ls : Array Slot) (hl : lv_has ls 3 [(0, .ref (ad 0)), (1, .int x1)]) (hf : f_fewest x1 V L = some r') : RG M (zR D cy ad) V L 0 ls [] := by
  unfold f_fewest at hf
  refine z_aload_n X dX11_fewest_0 rfl (lv_at hl 0 rfl) ?_
  obtain ⟨r1, hc1, hf⟩ := z_bind hf
  refine m_callVv [] X hl.1 (c_isAsHeld D cy ad hc1) gm_isAsHeld pd_isAsHeld rfl ⟨by decide, by decide⟩ (Nat.le_of_ble_eq_true rfl) rfl dX11_fewest_1 ?_
  refine z_iconst (v := 0) X dX11_fewest_4 (by decide) ?_
  refine z_istore_n (lv' := [(2, .int 0), (0, .ref (ad 0)), (1, .int x1)]) X dX11_fewest_5 rfl hl (by decide) rfl (fun ls hl => ?_)
  exact w_fewest_6 X Z FU x1 0 r1.1 r1.2 ls (lv_sub hl [1, 2, 0] rfl) hf

theorem c_fewest (D : va_G) (cy : Nat → ClassId) (ad : Nat → Nat) {x1 : Int32} {V : zI} {L : zL} {r' : Int32 × zI × zL} (hf : f_fewest x1 V L = some r') : RMi (zR D cy ad) yX11_fewest cX11_fewest 3 .int 5 117 [.ref (ad 0), .int x1] V L r'.1 r'.2.1 r'.2.2 :=
  RMi.of (by decide) zR_nd (Nat.le_of_ble_eq_true rfl) (fun M X Z ls hl => w_fewest X Z x1 V L ls hl hf)
def f_wide (x1 : Int32) (V : zI) (L : zL) : Option (Int32 × zI × zL) :=
  (f_fewest x1 (z_uI V 0 57 (-1)) L).bind fun r1 => some (r1.1, r1.2.1, r1.2.2)
set_option maxHeartbeats 4000000 in
set_option maxRecDepth 100000 in
theorem w_wide {M : zM} {D : va_G} {cy : Nat → ClassId} {ad : Nat → Nat} {r' : Int32 × zI × zL} (X : RX M (zR D cy ad) cX11_wide 2 RX11 6 139) (Z : RZi M (zR D cy ad) .int r'.1 r'.2.1 r'.2.2) (x1 : Int32) (V : zI) (L : zL) (ls : Array Slot) (hl : lv_has ls 2 [(0, .ref (ad 0)), (1, .int x1)]) (hf : f_wide x1 V L = some r') : RG M (zR D cy ad) V L 0 ls [] := by
  unfold f_wide at hf
  refine z_aload_n X dX11_wide_0 rfl (lv_at hl 0 rfl) ?_
  refine z_iconst (v := -1) X dX11_wide_1 (by decide) ?_
  refine m_puti X fp_57 dX11_wide_2 ?_
  refine z_aload_n X dX11_wide_5 rfl (lv_at hl 0 rfl) ?_
  refine z_iload_n X dX11_wide_6 rfl (lv_at hl 1 rfl) ?_
  obtain ⟨r1, hc1, hf⟩ := z_bind hf
  refine m_callVi [.int x1] X hl.1 (c_fewest D cy ad hc1) gm_fewest pd_fewest rfl ⟨by decide, by decide⟩ (Nat.le_of_ble_eq_true rfl) rfl dX11_wide_7 ?_
  exact m_iret X Z hf rfl dX11_wide_10

theorem c_wide (D : va_G) (cy : Nat → ClassId) (ad : Nat → Nat) {x1 : Int32} {V : zI} {L : zL} {r' : Int32 × zI × zL} (hf : f_wide x1 V L = some r') : RMi (zR D cy ad) yX11_wide cX11_wide 2 .int 6 139 [.ref (ad 0), .int x1] V L r'.1 r'.2.1 r'.2.2 :=
  RMi.of (by decide) zR_nd (Nat.le_of_ble_eq_true rfl) (fun M X Z ls hl => w_wide X Z x1 V L ls hl hf)
def f_cut (x1 : Int32) (x2 : Int32) (x3 : Int32) (V : zI) (L : zL) : Option (Int32 × zI × zL) :=
  (f_isPair x1 x2 V L).bind fun r1 => (if r1.1 = 0 then some ((-1), r1.2.1, r1.2.2) else (f_fewest x3 (z_uI (z_uI r1.2.1 0 57 x1) 0 58 x2) r1.2.2).bind fun r2 => some (r2.1, z_uI r2.2.1 0 57 (-1), r2.2.2))
set_option maxHeartbeats 4000000 in
set_option maxRecDepth 100000 in
theorem w_cut {M : zM} {D : va_G} {cy : Nat → ClassId} {ad : Nat → Nat} {r' : Int32 × zI × zL} (X : RX M (zR D cy ad) cX11_cut 5 RX11 6 139) (Z : RZi M (zR D cy ad) .int r'.1 r'.2.1 r'.2.2) (x1 : Int32) (x2 : Int32) (x3 : Int32) (V : zI) (L : zL) (ls : Array Slot) (hl : lv_has ls 5 [(0, .ref (ad 0)), (1, .int x1), (2, .int x2), (3, .int x3)]) (hf : f_cut x1 x2 x3 V L = some r') : RG M (zR D cy ad) V L 0 ls [] := by
  unfold f_cut at hf
  refine z_aload_n X dX11_cut_0 rfl (lv_at hl 0 rfl) ?_
  refine z_iload_n X dX11_cut_1 rfl (lv_at hl 1 rfl) ?_
  refine z_iload_n X dX11_cut_2 rfl (lv_at hl 2 rfl) ?_
  obtain ⟨r1, hc1, hf⟩ := z_bind hf
  refine m_callVi [.int x1, .int x2] X hl.1 (c_isPair D cy ad hc1) gm_isPair pd_isPair rfl ⟨by decide, by decide⟩ (Nat.le_of_ble_eq_true rfl) rfl dX11_cut_3 ?_
  refine z_if_ne (tgt := 11) X dX11_cut_6 (by decide) (fun c_ => ?_) (fun c_ => ?_)
  · have hf := (if_neg c_).symm.trans hf
    refine z_aload_n X dX11_cut_11 rfl (lv_at hl 0 rfl) ?_
    refine z_iload_n X dX11_cut_12 rfl (lv_at hl 1 rfl) ?_
    refine m_puti X fp_57 dX11_cut_13 ?_
    refine z_aload_n X dX11_cut_16 rfl (lv_at hl 0 rfl) ?_
    refine z_iload_n X dX11_cut_17 rfl (lv_at hl 2 rfl) ?_
    refine m_puti X fp_58 dX11_cut_18 ?_
    refine z_aload_n X dX11_cut_21 rfl (lv_at hl 0 rfl) ?_
    refine z_iload_n X dX11_cut_22 rfl (lv_at hl 3 rfl) ?_
    obtain ⟨r2, hc2, hf⟩ := z_bind hf
    refine m_callVi [.int x3] X hl.1 (c_fewest D cy ad hc2) gm_fewest pd_fewest rfl ⟨by decide, by decide⟩ (Nat.le_of_ble_eq_true rfl) rfl dX11_cut_23 ?_
    refine z_istore (lv' := [(4, .int r2.1), (0, .ref (ad 0)), (1, .int x1), (2, .int x2), (3, .int x3)]) X dX11_cut_26 hl (by decide) rfl (fun ls hl => ?_)
    refine z_aload_n X dX11_cut_28 rfl (lv_at hl 1 rfl) ?_
    refine z_iconst (v := -1) X dX11_cut_29 (by decide) ?_
    refine m_puti X fp_57 dX11_cut_30 ?_
    refine z_iload X dX11_cut_33 (lv_at hl 0 rfl) ?_
    exact m_iret X Z hf rfl dX11_cut_35
  · have hf := (if_pos c_).symm.trans hf
    refine z_iconst (v := -1) X dX11_cut_9 (by decide) ?_
    exact m_iret X Z hf rfl dX11_cut_10

theorem c_cut (D : va_G) (cy : Nat → ClassId) (ad : Nat → Nat) {x1 : Int32} {x2 : Int32} {x3 : Int32} {V : zI} {L : zL} {r' : Int32 × zI × zL} (hf : f_cut x1 x2 x3 V L = some r') : RMi (zR D cy ad) yX11_cut cX11_cut 5 .int 6 139 [.ref (ad 0), .int x1, .int x2, .int x3] V L r'.1 r'.2.1 r'.2.2 :=
  RMi.of (by decide) zR_nd (Nat.le_of_ble_eq_true rfl) (fun M X Z ls hl => w_cut X Z x1 x2 x3 V L ls hl hf)
def b_isRing_48 (k2 : Int32 × Int32 × zI × zL → Option (Int32 × zI × zL)) (k48 : Int32 × Int32 × Int32 × zI × zL → Option (Int32 × zI × zL)) : Int32 × Int32 × Int32 × zI × zL → Option (Int32 × zI × zL) := fun ⟨x1, x2, x3, V, L⟩ =>
  (if x2 ≤ x3 then k2 (x1, (x2 + 1), V, L) else if inB x3 6 then if inB x2 6 then (if (V 32 x3.toNatClampNeg) = (V 32 x2.toNatClampNeg) then some (0, V, L) else k48 (x1, x2, (x3 + 1), V, L)) else none else none)
def f_isRing_38 (k2 : Int32 × Int32 × zI × zL → Option (Int32 × zI × zL)) (x1 : Int32) (x2 : Int32) (s1 : Int32) (s3 : Int32) (V : zI) (L : zL) : Option (Int32 × zI × zL) :=
  if inB s3 6 then if inB (s1 + (V 32 s3.toNatClampNeg)) 36 then (if (V 30 (s1 + (V 32 s3.toNatClampNeg)).toNatClampNeg) = 0 then some (0, V, L) else zfix (b_isRing_48 k2) FU (x1, x2, 0, V, L)) else none else none
def b_isRing_2 (k2 : Int32 × Int32 × zI × zL → Option (Int32 × zI × zL)) : Int32 × Int32 × zI × zL → Option (Int32 × zI × zL) := fun ⟨x1, x2, V, L⟩ =>
  (if x1 ≤ x2 then some (1, V, L) else if inB x2 6 then (if x1 ≤ (x2 + 1) then f_isRing_38 k2 x1 x2 ((6 : Int32) * (V 32 x2.toNatClampNeg)) 0 V L else f_isRing_38 k2 x1 x2 ((6 : Int32) * (V 32 x2.toNatClampNeg)) (x2 + 1) V L) else none)
def f_isRing (x1 : Int32) (V : zI) (L : zL) : Option (Int32 × zI × zL) :=
  zfix (b_isRing_2) FU (x1, 0, V, L)
set_option maxHeartbeats 4000000 in
set_option maxRecDepth 100000 in
theorem w_isRing_48 {M : zM} {D : va_G} {cy : Nat → ClassId} {ad : Nat → Nat} {r' : Int32 × zI × zL} (X : RX M (zR D cy ad) cX11_isRing 4 RX11 0 0) (Z : RZi M (zR D cy ad) .boolean r'.1 r'.2.1 r'.2.2) {k2 : Int32 × Int32 × zI × zL → Option (Int32 × zI × zL)} (hk2 : ∀ (x1 : Int32) (x2 : Int32) (V : zI) (L : zL) (ls : Array Slot), lv_has ls 4 [(0, .ref (ad 0)), (1, .int x1), (2, .int x2)] → k2 (x1, x2, V, L) = some r' → RG M (zR D cy ad) V L 2 ls []) (n : Nat) : ∀ (x1 : Int32) (x2 : Int32) (x3 : Int32) (V : zI) (L : zL) (ls : Array Slot) (hl : lv_has ls 4 [(0, .ref (ad 0)), (1, .int x1), (2, .int x2), (3, .int x3)]) (hf : zfix (b_isRing_48 k2) n (x1, x2, x3, V, L) = some r'), RG M (zR D cy ad) V L 48 ls [] := by
  induction n with
  | zero => intro x1 x2 x3 V L ls hl hf; cases hf
  | succ n ih =>
  intro x1 x2 x3 V L ls hl hf
  have hk48 : ∀ (x1 : Int32) (x2 : Int32) (x3 : Int32) (V : zI) (L : zL) (ls : Array Slot), lv_has ls 4 [(0, .ref (ad 0)), (1, .int x1), (2, .int x2), (3, .int x3)] → zfix (b_isRing_48 k2) n (x1, x2, x3, V, L) = some r' → RG M (zR D cy ad) V L 48 ls [] := ih
  have hf : b_isRing_48 k2 (zfix (b_isRing_48 k2) n) (x1, x2, x3, V, L) = some r' := hf
  generalize zfix (b_isRing_48 k2) n = k48 at hk48 hf
  unfold b_isRing_48 at hf
  clear ih
  refine z_iload_n X dX11_isRing_48 rfl (lv_at hl 3 rfl) ?_
  refine z_iload_n X dX11_isRing_49 rfl (lv_at hl 2 rfl) ?_
  refine z_icmp_ge (tgt := 76) X dX11_isRing_50 (by decide) (fun c_ => ?_) (fun c_ => ?_)
  · have hf := (if_pos c_).symm.trans hf
    refine z_iinc (v := x2 + 1) (k0 := 2) (lv' := [(2, .int (x2 + 1)), (0, .ref (ad 0)), (1, .int x1), (3, .int x3)]) X dX11_isRing_76 hl rfl rfl (by decide) rfl (fun ls hl => ?_)
    refine z_goto (tgt := 2) X dX11_isRing_79 (by decide) ?_
    exact hk2 x1 (x2 + 1) V L ls (lv_sub hl [1, 2, 0] rfl) hf
  · have hf := (if_neg c_).symm.trans hf
    refine z_aload_n X dX11_isRing_53 rfl (lv_at hl 0 rfl) ?_
    refine m_geta X ff_59 dX11_isRing_54 ?_
    refine z_iload_n X dX11_isRing_57 rfl (lv_at hl 3 rfl) ?_
    obtain ⟨hb1, hf⟩ := z_ite hf
    refine m_iald X pa_32 hb1 dX11_isRing_58 ?_
    refine z_aload_n X dX11_isRing_59 rfl (lv_at hl 0 rfl) ?_
    refine m_geta X ff_59 dX11_isRing_60 ?_
    refine z_iload_n X dX11_isRing_63 rfl (lv_at hl 2 rfl) ?_
    obtain ⟨hb2, hf⟩ := z_ite hf
    refine m_iald X pa_32 hb2 dX11_isRing_64 ?_
    refine z_icmp_ne (tgt := 70) X dX11_isRing_65 (by decide) (fun c_ => ?_) (fun c_ => ?_)
    · have hf := (if_neg c_).symm.trans hf
      refine z_iinc (v := x3 + 1) (k0 := 3) (lv' := [(3, .int (x3 + 1)), (0, .ref (ad 0)), (1, .int x1), (2, .int x2)]) X dX11_isRing_70 hl rfl rfl (by decide) rfl (fun ls hl => ?_)
      refine z_goto (tgt := 48) X dX11_isRing_73 (by decide) ?_
      exact hk48 x1 x2 (x3 + 1) V L ls (lv_sub hl [1, 2, 3, 0] rfl) hf
    · have hf := (if_pos c_).symm.trans hf
      refine z_iconst (v := 0) X dX11_isRing_68 (by decide) ?_
      exact m_iret X Z hf (by decide) dX11_isRing_69

set_option maxHeartbeats 4000000 in
set_option maxRecDepth 100000 in
theorem w_isRing_38 {M : zM} {D : va_G} {cy : Nat → ClassId} {ad : Nat → Nat} {r' : Int32 × zI × zL} (X : RX M (zR D cy ad) cX11_isRing 4 RX11 0 0) (Z : RZi M (zR D cy ad) .boolean r'.1 r'.2.1 r'.2.2) {k2 : Int32 × Int32 × zI × zL → Option (Int32 × zI × zL)} (hk2 : ∀ (x1 : Int32) (x2 : Int32) (V : zI) (L : zL) (ls : Array Slot), lv_has ls 4 [(0, .ref (ad 0)), (1, .int x1), (2, .int x2)] → k2 (x1, x2, V, L) = some r' → RG M (zR D cy ad) V L 2 ls []) (x1 : Int32) (x2 : Int32) (s1 : Int32) (s3 : Int32) (V : zI) (L : zL) (ls : Array Slot) (hl : lv_has ls 4 [(0, .ref (ad 0)), (1, .int x1), (2, .int x2)]) (hf : f_isRing_38 k2 x1 x2 s1 s3 V L = some r') : RG M (zR D cy ad) V L 38 ls [.int s3, .ref (ad 32), .int s1, .ref (ad 30)] := by
  unfold f_isRing_38 at hf
  obtain ⟨hb1, hf⟩ := z_ite hf
  refine m_iald X pa_32 hb1 dX11_isRing_38 ?_
  refine z_iadd X dX11_isRing_39 ?_
  obtain ⟨hb2, hf⟩ := z_ite hf
  refine m_zald X pa_30 hb2 dX11_isRing_40 ?_
  refine z_if_ne (tgt := 46) X dX11_isRing_41 (by decide) (fun c_ => ?_) (fun c_ => ?_)
  · have hf := (if_neg c_).symm.trans hf
    refine z_iconst (v := 0) X dX11_isRing_46 (by decide) ?_
    refine z_istore_n (lv' := [(3, .int 0), (0, .ref (ad 0)), (1, .int x1), (2, .int x2)]) X dX11_isRing_47 rfl hl (by decide) rfl (fun ls hl => ?_)
    exact w_isRing_48 X Z hk2 FU x1 x2 0 V L ls (lv_sub hl [1, 2, 3, 0] rfl) hf
  · have hf := (if_pos c_).symm.trans hf
    refine z_iconst (v := 0) X dX11_isRing_44 (by decide) ?_
    exact m_iret X Z hf (by decide) dX11_isRing_45

set_option maxHeartbeats 4000000 in
set_option maxRecDepth 100000 in
theorem w_isRing_2 {M : zM} {D : va_G} {cy : Nat → ClassId} {ad : Nat → Nat} {r' : Int32 × zI × zL} (X : RX M (zR D cy ad) cX11_isRing 4 RX11 0 0) (Z : RZi M (zR D cy ad) .boolean r'.1 r'.2.1 r'.2.2) (n : Nat) : ∀ (x1 : Int32) (x2 : Int32) (V : zI) (L : zL) (ls : Array Slot) (hl : lv_has ls 4 [(0, .ref (ad 0)), (1, .int x1), (2, .int x2)]) (hf : zfix (b_isRing_2) n (x1, x2, V, L) = some r'), RG M (zR D cy ad) V L 2 ls [] := by
  induction n with
  | zero => intro x1 x2 V L ls hl hf; cases hf
  | succ n ih =>
  intro x1 x2 V L ls hl hf
  have hk2 : ∀ (x1 : Int32) (x2 : Int32) (V : zI) (L : zL) (ls : Array Slot), lv_has ls 4 [(0, .ref (ad 0)), (1, .int x1), (2, .int x2)] → zfix (b_isRing_2) n (x1, x2, V, L) = some r' → RG M (zR D cy ad) V L 2 ls [] := ih
  have hf : b_isRing_2 (zfix (b_isRing_2) n) (x1, x2, V, L) = some r' := hf
  generalize zfix (b_isRing_2) n = k2 at hk2 hf
  unfold b_isRing_2 at hf
  clear ih
  refine z_iload_n X dX11_isRing_2 rfl (lv_at hl 2 rfl) ?_
  refine z_iload_n X dX11_isRing_3 rfl (lv_at hl 1 rfl) ?_
  refine z_icmp_ge (tgt := 82) X dX11_isRing_4 (by decide) (fun c_ => ?_) (fun c_ => ?_)
  · have hf := (if_pos c_).symm.trans hf
    refine z_iconst (v := 1) X dX11_isRing_82 (by decide) ?_
    exact m_iret X Z hf (by decide) dX11_isRing_83
  · have hf := (if_neg c_).symm.trans hf
    refine z_aload_n X dX11_isRing_7 rfl (lv_at hl 0 rfl) ?_
    refine m_geta X ff_55 dX11_isRing_8 ?_
    refine z_bipush (v := 6) X dX11_isRing_11 (by decide) ?_
    refine z_aload_n X dX11_isRing_13 rfl (lv_at hl 0 rfl) ?_
    refine m_geta X ff_59 dX11_isRing_14 ?_
    refine z_iload_n X dX11_isRing_17 rfl (lv_at hl 2 rfl) ?_
    obtain ⟨hb1, hf⟩ := z_ite hf
    refine m_iald X pa_32 hb1 dX11_isRing_18 ?_
    refine z_imul X dX11_isRing_19 ?_
    refine z_aload_n X dX11_isRing_20 rfl (lv_at hl 0 rfl) ?_
    refine m_geta X ff_59 dX11_isRing_21 ?_
    refine z_iload_n X dX11_isRing_24 rfl (lv_at hl 2 rfl) ?_
    refine z_iconst (v := 1) X dX11_isRing_25 (by decide) ?_
    refine z_iadd X dX11_isRing_26 ?_
    refine z_iload_n X dX11_isRing_27 rfl (lv_at hl 1 rfl) ?_
    refine z_icmp_ge (tgt := 37) X dX11_isRing_28 (by decide) (fun c_ => ?_) (fun c_ => ?_)
    · have hf := (if_pos c_).symm.trans hf
      refine z_iconst (v := 0) X dX11_isRing_37 (by decide) ?_
      exact w_isRing_38 X Z hk2 x1 x2 ((6 : Int32) * (V 32 x2.toNatClampNeg)) 0 V L ls (lv_sub hl [0, 1, 2] rfl) hf
    · have hf := (if_neg c_).symm.trans hf
      refine z_iload_n X dX11_isRing_31 rfl (lv_at hl 2 rfl) ?_
      refine z_iconst (v := 1) X dX11_isRing_32 (by decide) ?_
      refine z_iadd X dX11_isRing_33 ?_
      refine z_goto (tgt := 38) X dX11_isRing_34 (by decide) ?_
      exact w_isRing_38 X Z hk2 x1 x2 ((6 : Int32) * (V 32 x2.toNatClampNeg)) (x2 + 1) V L ls (lv_sub hl [0, 1, 2] rfl) hf

set_option maxHeartbeats 4000000 in
set_option maxRecDepth 100000 in
theorem w_isRing {M : zM} {D : va_G} {cy : Nat → ClassId} {ad : Nat → Nat} {r' : Int32 × zI × zL} (X : RX M (zR D cy ad) cX11_isRing 4 RX11 0 0) (Z : RZi M (zR D cy ad) .boolean r'.1 r'.2.1 r'.2.2) (x1 : Int32) (V : zI) (L : zL) (ls : Array Slot) (hl : lv_has ls 4 [(0, .ref (ad 0)), (1, .int x1)]) (hf : f_isRing x1 V L = some r') : RG M (zR D cy ad) V L 0 ls [] := by
  unfold f_isRing at hf
  refine z_iconst (v := 0) X dX11_isRing_0 (by decide) ?_
  refine z_istore_n (lv' := [(2, .int 0), (0, .ref (ad 0)), (1, .int x1)]) X dX11_isRing_1 rfl hl (by decide) rfl (fun ls hl => ?_)
  exact w_isRing_2 X Z FU x1 0 V L ls (lv_sub hl [1, 2, 0] rfl) hf

theorem c_isRing (D : va_G) (cy : Nat → ClassId) (ad : Nat → Nat) {x1 : Int32} {V : zI} {L : zL} {r' : Int32 × zI × zL} (hf : f_isRing x1 V L = some r') : RMi (zR D cy ad) yX11_isRing cX11_isRing 4 .boolean 0 0 [.ref (ad 0), .int x1] V L r'.1 r'.2.1 r'.2.2 :=
  RMi.of (by decide) zR_nd (Nat.le_of_ble_eq_true rfl) (fun M X Z ls hl => w_isRing X Z x1 V L ls hl hf)
def b_ring_57 (k26 : Int32 × Int32 × Int32 × zI × zL → Option (Int32 × zI × zL)) (k41 : Int32 × Int32 × Int32 × Int32 × zI × zL → Option (Int32 × zI × zL)) (k57 : Int32 × Int32 × Int32 × Int32 × Int32 × Int32 × zI × zL → Option (Int32 × zI × zL)) : Int32 × Int32 × Int32 × Int32 × Int32 × Int32 × zI × zL → Option (Int32 × zI × zL) := fun ⟨x2, x3, x4, x5, x6, x7, V, L⟩ =>
  (if x7 ≤ 0 then (f_isRing x4 V L).bind fun r1 => (if r1.1 = 0 then k41 (x2, x3, x4, (x5 + 1), r1.2.1, r1.2.2) else (if x2 = (-1) then some (x4, r1.2.1, r1.2.2) else (f_is x2 0 (x4 - 1)).bind fun r2 => (if r2 = 0 then some ((-1), r1.2.1, r1.2.2) else if inB x2 6 then some (r1.2.1 32 x2.toNatClampNeg, r1.2.1, r1.2.2) else none))) else if inB x7 6 then k57 (x2, x3, x4, x5, (x6 / 6), (x7 + Int32.ofInt (-1)), z_uI V 32 x7.toNatClampNeg (x6 - x6 / 6 * 6), L) else none)
def b_ring_41 (k26 : Int32 × Int32 × Int32 × zI × zL → Option (Int32 × zI × zL)) (k41 : Int32 × Int32 × Int32 × Int32 × zI × zL → Option (Int32 × zI × zL)) : Int32 × Int32 × Int32 × Int32 × zI × zL → Option (Int32 × zI × zL) := fun ⟨x2, x3, x4, x5, V, L⟩ =>
  (if x3 ≤ x5 then k26 (x2, x3, (x4 + 1), V, L) else zfix (b_ring_57 k26 k41) FU (x2, x3, x4, x5, x5, (x4 - 1), V, L))
def b_ring_26 (k26 : Int32 × Int32 × Int32 × zI × zL → Option (Int32 × zI × zL)) : Int32 × Int32 × Int32 × zI × zL → Option (Int32 × zI × zL) := fun ⟨x2, x3, x4, V, L⟩ =>
  (if 6 < x4 then some ((-1), V, L) else zfix (b_ring_41 k26) FU (x2, (x3 * 6), x4, 0, V, L))
def f_ring (x1 : Int32) (x2 : Int32) (V : zI) (L : zL) : Option (Int32 × zI × zL) :=
  (f_isTown x1 V L).bind fun r1 => (if r1.1 = 0 then some ((-1), r1.2.1, r1.2.2) else (f_isAsHeld r1.2.1 r1.2.2).bind fun r2 => zfix (b_ring_26) FU (x2, 1, 2, z_uI r2.1 32 ((0) : Int32).toNatClampNeg x1, r2.2))
set_option maxHeartbeats 4000000 in
set_option maxRecDepth 100000 in
theorem w_ring_57 {M : zM} {D : va_G} {cy : Nat → ClassId} {ad : Nat → Nat} {r' : Int32 × zI × zL} (X : RX M (zR D cy ad) cX11_ring 8 RX11 4 89) (Z : RZi M (zR D cy ad) .int r'.1 r'.2.1 r'.2.2) {k26 : Int32 × Int32 × Int32 × zI × zL → Option (Int32 × zI × zL)} {k41 : Int32 × Int32 × Int32 × Int32 × zI × zL → Option (Int32 × zI × zL)} (hk26 : ∀ (x2 : Int32) (x3 : Int32) (x4 : Int32) (V : zI) (L : zL) (ls : Array Slot), lv_has ls 8 [(0, .ref (ad 0)), (2, .int x2), (3, .int x3), (4, .int x4)] → k26 (x2, x3, x4, V, L) = some r' → RG M (zR D cy ad) V L 26 ls []) (hk41 : ∀ (x2 : Int32) (x3 : Int32) (x4 : Int32) (x5 : Int32) (V : zI) (L : zL) (ls : Array Slot), lv_has ls 8 [(0, .ref (ad 0)), (2, .int x2), (3, .int x3), (4, .int x4), (5, .int x5)] → k41 (x2, x3, x4, x5, V, L) = some r' → RG M (zR D cy ad) V L 41 ls []) (n : Nat) : ∀ (x2 : Int32) (x3 : Int32) (x4 : Int32) (x5 : Int32) (x6 : Int32) (x7 : Int32) (V : zI) (L : zL) (ls : Array Slot) (hl : lv_has ls 8 [(0, .ref (ad 0)), (2, .int x2), (3, .int x3), (4, .int x4), (5, .int x5), (6, .int x6), (7, .int x7)]) (hf : zfix (b_ring_57 k26 k41) n (x2, x3, x4, x5, x6, x7, V, L) = some r'), RG M (zR D cy ad) V L 57 ls [] := by
  induction n with
  | zero => intro x2 x3 x4 x5 x6 x7 V L ls hl hf; cases hf
  | succ n ih =>
  intro x2 x3 x4 x5 x6 x7 V L ls hl hf
  have hk57 : ∀ (x2 : Int32) (x3 : Int32) (x4 : Int32) (x5 : Int32) (x6 : Int32) (x7 : Int32) (V : zI) (L : zL) (ls : Array Slot), lv_has ls 8 [(0, .ref (ad 0)), (2, .int x2), (3, .int x3), (4, .int x4), (5, .int x5), (6, .int x6), (7, .int x7)] → zfix (b_ring_57 k26 k41) n (x2, x3, x4, x5, x6, x7, V, L) = some r' → RG M (zR D cy ad) V L 57 ls [] := ih
  have hf : b_ring_57 k26 k41 (zfix (b_ring_57 k26 k41) n) (x2, x3, x4, x5, x6, x7, V, L) = some r' := hf
  generalize zfix (b_ring_57 k26 k41) n = k57 at hk57 hf
  unfold b_ring_57 at hf
  clear ih
  refine z_iload X dX11_ring_57 (lv_at hl 6 rfl) ?_
  refine z_if_le (tgt := 87) X dX11_ring_59 (by decide) (fun c_ => ?_) (fun c_ => ?_)
  · have hf := (if_pos c_).symm.trans hf
    refine z_aload_n X dX11_ring_87 rfl (lv_at hl 0 rfl) ?_
    refine z_iload X dX11_ring_88 (lv_at hl 3 rfl) ?_
    obtain ⟨r1, hc1, hf⟩ := z_bind hf
    refine m_callVi [.int x4] X hl.1 (c_isRing D cy ad hc1) gm_isRing pd_isRing rfl ⟨by decide, by decide⟩ (Nat.le_of_ble_eq_true rfl) rfl dX11_ring_90 ?_
    refine z_if_eq (tgt := 129) X dX11_ring_93 (by decide) (fun c_ => ?_) (fun c_ => ?_)
    · have hf := (if_pos c_).symm.trans hf
      refine z_iinc (v := x5 + 1) (k0 := 4) (lv' := [(5, .int (x5 + 1)), (0, .ref (ad 0)), (2, .int x2), (3, .int x3), (4, .int x4), (6, .int x6), (7, .int x7)]) X dX11_ring_129 hl rfl rfl (by decide) rfl (fun ls hl => ?_)
      refine z_goto (tgt := 41) X dX11_ring_132 (by decide) ?_
      exact hk41 x2 x3 x4 (x5 + 1) r1.2.1 r1.2.2 ls (lv_sub hl [1, 2, 3, 4, 0] rfl) hf
    · have hf := (if_neg c_).symm.trans hf
      refine z_iload_n X dX11_ring_96 rfl (lv_at hl 1 rfl) ?_
      refine z_iconst (v := -1) X dX11_ring_97 (by decide) ?_
      refine z_icmp_ne (tgt := 106) X dX11_ring_98 (by decide) (fun c_ => ?_) (fun c_ => ?_)
      · have hf := (if_neg c_).symm.trans hf
        refine z_iload_n X dX11_ring_106 rfl (lv_at hl 1 rfl) ?_
        refine z_iconst (v := 0) X dX11_ring_107 (by decide) ?_
        refine z_iload X dX11_ring_108 (lv_at hl 3 rfl) ?_
        refine z_iconst (v := 1) X dX11_ring_110 (by decide) ?_
        refine z_isub X dX11_ring_111 ?_
        obtain ⟨r2, hc2, hf⟩ := z_bind hf
        refine m_callSi [.int x2, .int 0, .int (x4 - 1)] X hl.1 (c_is D cy ad hc2) gm_is pd_is rfl ⟨by decide, by decide⟩ (Nat.le_of_ble_eq_true rfl) rfl dX11_ring_112 ?_
        refine z_if_eq (tgt := 127) X dX11_ring_115 (by decide) (fun c_ => ?_) (fun c_ => ?_)
        · have hf := (if_pos c_).symm.trans hf
          refine z_iconst (v := -1) X dX11_ring_127 (by decide) ?_
          exact m_iret X Z hf rfl dX11_ring_128
        · have hf := (if_neg c_).symm.trans hf
          refine z_aload_n X dX11_ring_118 rfl (lv_at hl 0 rfl) ?_
          refine m_geta X ff_59 dX11_ring_119 ?_
          refine z_iload_n X dX11_ring_122 rfl (lv_at hl 1 rfl) ?_
          obtain ⟨hb3, hf⟩ := z_ite hf
          refine m_iald X pa_32 hb3 dX11_ring_123 ?_
          refine z_goto (tgt := 128) X dX11_ring_124 (by decide) ?_
          exact m_iret X Z hf rfl dX11_ring_128
      · have hf := (if_pos c_).symm.trans hf
        refine z_iload X dX11_ring_101 (lv_at hl 3 rfl) ?_
        refine z_goto (tgt := 128) X dX11_ring_103 (by decide) ?_
        exact m_iret X Z hf rfl dX11_ring_128
  · have hf := (if_neg c_).symm.trans hf
    refine z_aload_n X dX11_ring_62 rfl (lv_at hl 0 rfl) ?_
    refine m_geta X ff_59 dX11_ring_63 ?_
    refine z_iload X dX11_ring_66 (lv_at hl 6 rfl) ?_
    refine z_iload X dX11_ring_68 (lv_at hl 5 rfl) ?_
    refine z_bipush (v := 6) X dX11_ring_70 (by decide) ?_
    refine z_irem X dX11_ring_72 (by decide) ?_
    obtain ⟨hb4, hf⟩ := z_ite hf
    refine m_iast X pa_32 hb4 dX11_ring_73 ?_
    refine z_iload X dX11_ring_74 (lv_at hl 5 rfl) ?_
    refine z_bipush (v := 6) X dX11_ring_76 (by decide) ?_
    refine z_idiv X dX11_ring_78 (by decide) ?_
    refine z_istore (lv' := [(6, .int (x6 / 6)), (0, .ref (ad 0)), (2, .int x2), (3, .int x3), (4, .int x4), (5, .int x5), (7, .int x7)]) X dX11_ring_79 hl (by decide) rfl (fun ls hl => ?_)
    refine z_iinc (v := x7 + Int32.ofInt (-1)) (k0 := 6) (lv' := [(7, .int (x7 + Int32.ofInt (-1))), (6, .int (x6 / 6)), (0, .ref (ad 0)), (2, .int x2), (3, .int x3), (4, .int x4), (5, .int x5)]) X dX11_ring_81 hl rfl rfl (by decide) rfl (fun ls hl => ?_)
    refine z_goto (tgt := 57) X dX11_ring_84 (by decide) ?_
    exact hk57 x2 x3 x4 x5 (x6 / 6) (x7 + Int32.ofInt (-1)) (z_uI V 32 x7.toNatClampNeg (x6 - x6 / 6 * 6)) L ls (lv_sub hl [2, 3, 4, 5, 6, 1, 0] rfl) hf

set_option maxHeartbeats 4000000 in
set_option maxRecDepth 100000 in
theorem w_ring_41 {M : zM} {D : va_G} {cy : Nat → ClassId} {ad : Nat → Nat} {r' : Int32 × zI × zL} (X : RX M (zR D cy ad) cX11_ring 8 RX11 4 89) (Z : RZi M (zR D cy ad) .int r'.1 r'.2.1 r'.2.2) {k26 : Int32 × Int32 × Int32 × zI × zL → Option (Int32 × zI × zL)} (hk26 : ∀ (x2 : Int32) (x3 : Int32) (x4 : Int32) (V : zI) (L : zL) (ls : Array Slot), lv_has ls 8 [(0, .ref (ad 0)), (2, .int x2), (3, .int x3), (4, .int x4)] → k26 (x2, x3, x4, V, L) = some r' → RG M (zR D cy ad) V L 26 ls []) (n : Nat) : ∀ (x2 : Int32) (x3 : Int32) (x4 : Int32) (x5 : Int32) (V : zI) (L : zL) (ls : Array Slot) (hl : lv_has ls 8 [(0, .ref (ad 0)), (2, .int x2), (3, .int x3), (4, .int x4), (5, .int x5)]) (hf : zfix (b_ring_41 k26) n (x2, x3, x4, x5, V, L) = some r'), RG M (zR D cy ad) V L 41 ls [] := by
  induction n with
  | zero => intro x2 x3 x4 x5 V L ls hl hf; cases hf
  | succ n ih =>
  intro x2 x3 x4 x5 V L ls hl hf
  have hk41 : ∀ (x2 : Int32) (x3 : Int32) (x4 : Int32) (x5 : Int32) (V : zI) (L : zL) (ls : Array Slot), lv_has ls 8 [(0, .ref (ad 0)), (2, .int x2), (3, .int x3), (4, .int x4), (5, .int x5)] → zfix (b_ring_41 k26) n (x2, x3, x4, x5, V, L) = some r' → RG M (zR D cy ad) V L 41 ls [] := ih
  have hf : b_ring_41 k26 (zfix (b_ring_41 k26) n) (x2, x3, x4, x5, V, L) = some r' := hf
  generalize zfix (b_ring_41 k26) n = k41 at hk41 hf
  unfold b_ring_41 at hf
  clear ih
  refine z_iload X dX11_ring_41 (lv_at hl 4 rfl) ?_
  refine z_iload_n X dX11_ring_43 rfl (lv_at hl 2 rfl) ?_
  refine z_icmp_ge (tgt := 135) X dX11_ring_44 (by decide) (fun c_ => ?_) (fun c_ => ?_)
  · have hf := (if_pos c_).symm.trans hf
    refine z_iinc (v := x4 + 1) (k0 := 3) (lv' := [(4, .int (x4 + 1)), (0, .ref (ad 0)), (2, .int x2), (3, .int x3), (5, .int x5)]) X dX11_ring_135 hl rfl rfl (by decide) rfl (fun ls hl => ?_)
    refine z_goto (tgt := 26) X dX11_ring_138 (by decide) ?_
    exact hk26 x2 x3 (x4 + 1) V L ls (lv_sub hl [1, 2, 3, 0] rfl) hf
  · have hf := (if_neg c_).symm.trans hf
    refine z_iload X dX11_ring_47 (lv_at hl 4 rfl) ?_
    refine z_istore (lv' := [(6, .int x5), (0, .ref (ad 0)), (2, .int x2), (3, .int x3), (4, .int x4), (5, .int x5)]) X dX11_ring_49 hl (by decide) rfl (fun ls hl => ?_)
    refine z_iload X dX11_ring_51 (lv_at hl 4 rfl) ?_
    refine z_iconst (v := 1) X dX11_ring_53 (by decide) ?_
    refine z_isub X dX11_ring_54 ?_
    refine z_istore (lv' := [(7, .int (x4 - 1)), (6, .int x5), (0, .ref (ad 0)), (2, .int x2), (3, .int x3), (4, .int x4), (5, .int x5)]) X dX11_ring_55 hl (by decide) rfl (fun ls hl => ?_)
    exact w_ring_57 X Z hk26 hk41 FU x2 x3 x4 x5 x5 (x4 - 1) V L ls (lv_sub hl [2, 3, 4, 5, 6, 1, 0] rfl) hf

set_option maxHeartbeats 4000000 in
set_option maxRecDepth 100000 in
theorem w_ring_26 {M : zM} {D : va_G} {cy : Nat → ClassId} {ad : Nat → Nat} {r' : Int32 × zI × zL} (X : RX M (zR D cy ad) cX11_ring 8 RX11 4 89) (Z : RZi M (zR D cy ad) .int r'.1 r'.2.1 r'.2.2) (n : Nat) : ∀ (x2 : Int32) (x3 : Int32) (x4 : Int32) (V : zI) (L : zL) (ls : Array Slot) (hl : lv_has ls 8 [(0, .ref (ad 0)), (2, .int x2), (3, .int x3), (4, .int x4)]) (hf : zfix (b_ring_26) n (x2, x3, x4, V, L) = some r'), RG M (zR D cy ad) V L 26 ls [] := by
  induction n with
  | zero => intro x2 x3 x4 V L ls hl hf; cases hf
  | succ n ih =>
  intro x2 x3 x4 V L ls hl hf
  have hk26 : ∀ (x2 : Int32) (x3 : Int32) (x4 : Int32) (V : zI) (L : zL) (ls : Array Slot), lv_has ls 8 [(0, .ref (ad 0)), (2, .int x2), (3, .int x3), (4, .int x4)] → zfix (b_ring_26) n (x2, x3, x4, V, L) = some r' → RG M (zR D cy ad) V L 26 ls [] := ih
  have hf : b_ring_26 (zfix (b_ring_26) n) (x2, x3, x4, V, L) = some r' := hf
  generalize zfix (b_ring_26) n = k26 at hk26 hf
  unfold b_ring_26 at hf
  clear ih
  refine z_iload X dX11_ring_26 (lv_at hl 3 rfl) ?_
  refine z_bipush (v := 6) X dX11_ring_28 (by decide) ?_
  refine z_icmp_gt (tgt := 141) X dX11_ring_30 (by decide) (fun c_ => ?_) (fun c_ => ?_)
  · have hf := (if_pos c_).symm.trans hf
    refine z_iconst (v := -1) X dX11_ring_141 (by decide) ?_
    exact m_iret X Z hf rfl dX11_ring_142
  · have hf := (if_neg c_).symm.trans hf
    refine z_iload_n X dX11_ring_33 rfl (lv_at hl 2 rfl) ?_
    refine z_bipush (v := 6) X dX11_ring_34 (by decide) ?_
    refine z_imul X dX11_ring_36 ?_
    refine z_istore_n (lv' := [(3, .int (x3 * 6)), (0, .ref (ad 0)), (2, .int x2), (4, .int x4)]) X dX11_ring_37 rfl hl (by decide) rfl (fun ls hl => ?_)
    refine z_iconst (v := 0) X dX11_ring_38 (by decide) ?_
    refine z_istore (lv' := [(5, .int 0), (3, .int (x3 * 6)), (0, .ref (ad 0)), (2, .int x2), (4, .int x4)]) X dX11_ring_39 hl (by decide) rfl (fun ls hl => ?_)
    exact w_ring_41 X Z hk26 FU x2 (x3 * 6) x4 0 V L ls (lv_sub hl [2, 3, 1, 4, 0] rfl) hf

set_option maxHeartbeats 4000000 in
set_option maxRecDepth 100000 in
theorem w_ring {M : zM} {D : va_G} {cy : Nat → ClassId} {ad : Nat → Nat} {r' : Int32 × zI × zL} (X : RX M (zR D cy ad) cX11_ring 8 RX11 4 89) (Z : RZi M (zR D cy ad) .int r'.1 r'.2.1 r'.2.2) (x1 : Int32) (x2 : Int32) (V : zI) (L : zL) (ls : Array Slot) (hl : lv_has ls 8 [(0, .ref (ad 0)), (1, .int x1), (2, .int x2)]) (hf : f_ring x1 x2 V L = some r') : RG M (zR D cy ad) V L 0 ls [] := by
  unfold f_ring at hf
  refine z_aload_n X dX11_ring_0 rfl (lv_at hl 0 rfl) ?_
  refine z_iload_n X dX11_ring_1 rfl (lv_at hl 1 rfl) ?_
  obtain ⟨r1, hc1, hf⟩ := z_bind hf
  refine m_callVi [.int x1] X hl.1 (c_isTown D cy ad hc1) gm_isTown pd_isTown rfl ⟨by decide, by decide⟩ (Nat.le_of_ble_eq_true rfl) rfl dX11_ring_2 ?_
  refine z_if_ne (tgt := 10) X dX11_ring_5 (by decide) (fun c_ => ?_) (fun c_ => ?_)
  · have hf := (if_neg c_).symm.trans hf
    refine z_aload_n X dX11_ring_10 rfl (lv_at hl 0 rfl) ?_
    obtain ⟨r2, hc2, hf⟩ := z_bind hf
    refine m_callVv [] X hl.1 (c_isAsHeld D cy ad hc2) gm_isAsHeld pd_isAsHeld rfl ⟨by decide, by decide⟩ (Nat.le_of_ble_eq_true rfl) rfl dX11_ring_11 ?_
    refine z_aload_n X dX11_ring_14 rfl (lv_at hl 0 rfl) ?_
    refine m_geta X ff_59 dX11_ring_15 ?_
    refine z_iconst (v := 0) X dX11_ring_18 (by decide) ?_
    refine z_iload_n X dX11_ring_19 rfl (lv_at hl 1 rfl) ?_
    refine m_iast X pa_32 (show inB 0 6 by decide) dX11_ring_20 ?_
    refine z_iconst (v := 1) X dX11_ring_21 (by decide) ?_
    refine z_istore_n (lv' := [(3, .int 1), (0, .ref (ad 0)), (1, .int x1), (2, .int x2)]) X dX11_ring_22 rfl hl (by decide) rfl (fun ls hl => ?_)
    refine z_iconst (v := 2) X dX11_ring_23 (by decide) ?_
    refine z_istore (lv' := [(4, .int 2), (3, .int 1), (0, .ref (ad 0)), (1, .int x1), (2, .int x2)]) X dX11_ring_24 hl (by decide) rfl (fun ls hl => ?_)
    exact w_ring_26 X Z FU x2 1 2 (z_uI r2.1 32 ((0) : Int32).toNatClampNeg x1) r2.2 ls (lv_sub hl [2, 4, 1, 0] rfl) hf
  · have hf := (if_pos c_).symm.trans hf
    refine z_iconst (v := -1) X dX11_ring_8 (by decide) ?_
    exact m_iret X Z hf rfl dX11_ring_9

theorem c_ring (D : va_G) (cy : Nat → ClassId) (ad : Nat → Nat) {x1 : Int32} {x2 : Int32} {V : zI} {L : zL} {r' : Int32 × zI × zL} (hf : f_ring x1 x2 V L = some r') : RMi (zR D cy ad) yX11_ring cX11_ring 8 .int 4 89 [.ref (ad 0), .int x1, .int x2] V L r'.1 r'.2.1 r'.2.2 :=
  RMi.of (by decide) zR_nd (Nat.le_of_ble_eq_true rfl) (fun M X Z ls hl => w_ring X Z x1 x2 V L ls hl hf)
def f_worthOf_54 (k5 : Int32 × Int32 × Int64 × Int32 × zI × zL → Option (Int64 × zI × zL)) (x1 : Int32) (x2 : Int32) (x5 : Int32) (s0 : Int64) (s1 : Int64) (V : zI) (L : zL) : Option (Int64 × zI × zL) :=
  (f_at x1 x2 x5 V L).bind fun r1 => if inB r1.1 792 then k5 (x1, x2, (s0 + (s1 * ((r1.2.1 21 r1.1.toNatClampNeg).toInt64))), (x5 + 1), r1.2.1, r1.2.2) else none
def b_worthOf_5 (k5 : Int32 × Int32 × Int64 × Int32 × zI × zL → Option (Int64 × zI × zL)) : Int32 × Int32 × Int64 × Int32 × zI × zL → Option (Int64 × zI × zL) := fun ⟨x1, x2, x3, x5, V, L⟩ =>
  if inB (V 0 13) 2 then (if (V 2 (V 0 13).toNatClampNeg) ≤ x5 then some (x3, V, L) else (if x2 = x5 then k5 (x1, x2, x3, (x5 + 1), V, L) else (f_tells x1 x2 x5 V L).bind fun r2 => (f_isTold 2 r2.1 r2.2).bind fun r3 => (if r3.1 = 0 then f_worthOf_54 k5 x1 x2 x5 x3 1 r3.2.1 r3.2.2 else (f_reckons 2 r3.2.1 r3.2.2).bind fun r4 => f_worthOf_54 k5 x1 x2 x5 x3 r4.1 r4.2.1 r4.2.2))) else none
def f_worthOf (x1 : Int32) (x2 : Int32) (V : zI) (L : zL) : Option (Int64 × zI × zL) :=
  zfix (b_worthOf_5) FU (x1, x2, 0, 0, V, L)
set_option maxHeartbeats 4000000 in
set_option maxRecDepth 100000 in
theorem w_worthOf_54 {M : zM} {D : va_G} {cy : Nat → ClassId} {ad : Nat → Nat} {r' : Int64 × zI × zL} (X : RX M (zR D cy ad) cX11_worthOf 6 RX11 4 91) (Z : RZl M (zR D cy ad) r'.1 r'.2.1 r'.2.2) {k5 : Int32 × Int32 × Int64 × Int32 × zI × zL → Option (Int64 × zI × zL)} (hk5 : ∀ (x1 : Int32) (x2 : Int32) (x3 : Int64) (x5 : Int32) (V : zI) (L : zL) (ls : Array Slot), lv_has ls 6 [(0, .ref (ad 0)), (1, .int x1), (2, .int x2), (3, .long x3), (5, .int x5)] → k5 (x1, x2, x3, x5, V, L) = some r' → RG M (zR D cy ad) V L 5 ls []) (x1 : Int32) (x2 : Int32) (x5 : Int32) (s0 : Int64) (s1 : Int64) (V : zI) (L : zL) (ls : Array Slot) (hl : lv_has ls 6 [(0, .ref (ad 0)), (1, .int x1), (2, .int x2), (5, .int x5)]) (hf : f_worthOf_54 k5 x1 x2 x5 s0 s1 V L = some r') : RG M (zR D cy ad) V L 54 ls [.long s1, .long s0] := by
  unfold f_worthOf_54 at hf
  refine z_aload_n X dX11_worthOf_54 rfl (lv_at hl 0 rfl) ?_
  refine m_geta X ff_40 dX11_worthOf_55 ?_
  refine z_aload_n X dX11_worthOf_58 rfl (lv_at hl 0 rfl) ?_
  refine z_iload_n X dX11_worthOf_59 rfl (lv_at hl 1 rfl) ?_
  refine z_iload_n X dX11_worthOf_60 rfl (lv_at hl 2 rfl) ?_
  refine z_iload X dX11_worthOf_61 (lv_at hl 3 rfl) ?_
  obtain ⟨r1, hc1, hf⟩ := z_bind hf
  refine m_callVi [.int x1, .int x2, .int x5] X hl.1 (c_at D cy ad hc1) gm_at pd_at rfl ⟨by decide, by decide⟩ (Nat.le_of_ble_eq_true rfl) rfl dX11_worthOf_63 ?_
  obtain ⟨hb2, hf⟩ := z_ite hf
  refine m_iald X pa_21 hb2 dX11_worthOf_66 ?_
  refine z_i2l X dX11_worthOf_67 ?_
  refine z_lmul X dX11_worthOf_68 ?_
  refine z_ladd X dX11_worthOf_69 ?_
  refine z_lstore_n (lv' := [(3, .long (s0 + (s1 * ((r1.2.1 21 r1.1.toNatClampNeg).toInt64)))), (0, .ref (ad 0)), (1, .int x1), (2, .int x2), (5, .int x5)]) X dX11_worthOf_70 rfl hl (by decide) rfl (fun ls hl => ?_)
  refine z_iinc (v := x5 + 1) (k0 := 4) (lv' := [(5, .int (x5 + 1)), (3, .long (s0 + (s1 * ((r1.2.1 21 r1.1.toNatClampNeg).toInt64)))), (0, .ref (ad 0)), (1, .int x1), (2, .int x2)]) X dX11_worthOf_71 hl rfl rfl (by decide) rfl (fun ls hl => ?_)
  refine z_goto (tgt := 5) X dX11_worthOf_74 (by decide) ?_
  exact hk5 x1 x2 (s0 + (s1 * ((r1.2.1 21 r1.1.toNatClampNeg).toInt64))) (x5 + 1) r1.2.1 r1.2.2 ls (lv_sub hl [2, 3, 4, 1, 0] rfl) hf

set_option maxHeartbeats 4000000 in
set_option maxRecDepth 100000 in
theorem w_worthOf_5 {M : zM} {D : va_G} {cy : Nat → ClassId} {ad : Nat → Nat} {r' : Int64 × zI × zL} (X : RX M (zR D cy ad) cX11_worthOf 6 RX11 4 91) (Z : RZl M (zR D cy ad) r'.1 r'.2.1 r'.2.2) (n : Nat) : ∀ (x1 : Int32) (x2 : Int32) (x3 : Int64) (x5 : Int32) (V : zI) (L : zL) (ls : Array Slot) (hl : lv_has ls 6 [(0, .ref (ad 0)), (1, .int x1), (2, .int x2), (3, .long x3), (5, .int x5)]) (hf : zfix (b_worthOf_5) n (x1, x2, x3, x5, V, L) = some r'), RG M (zR D cy ad) V L 5 ls [] := by
  induction n with
  | zero => intro x1 x2 x3 x5 V L ls hl hf; cases hf
  | succ n ih =>
  intro x1 x2 x3 x5 V L ls hl hf
  have hk5 : ∀ (x1 : Int32) (x2 : Int32) (x3 : Int64) (x5 : Int32) (V : zI) (L : zL) (ls : Array Slot), lv_has ls 6 [(0, .ref (ad 0)), (1, .int x1), (2, .int x2), (3, .long x3), (5, .int x5)] → zfix (b_worthOf_5) n (x1, x2, x3, x5, V, L) = some r' → RG M (zR D cy ad) V L 5 ls [] := ih
  have hf : b_worthOf_5 (zfix (b_worthOf_5) n) (x1, x2, x3, x5, V, L) = some r' := hf
  generalize zfix (b_worthOf_5) n = k5 at hk5 hf
  unfold b_worthOf_5 at hf
  clear ih
  refine z_iload X dX11_worthOf_5 (lv_at hl 4 rfl) ?_
  refine z_aload_n X dX11_worthOf_7 rfl (lv_at hl 0 rfl) ?_
  refine m_geta X ff_14 dX11_worthOf_8 ?_
  refine z_aload_n X dX11_worthOf_11 rfl (lv_at hl 0 rfl) ?_
  refine m_geti X ff_13 dX11_worthOf_12 ?_
  obtain ⟨hb1, hf⟩ := z_ite hf
  refine m_iald X pa_2 hb1 dX11_worthOf_15 ?_
  refine z_icmp_ge (tgt := 77) X dX11_worthOf_16 (by decide) (fun c_ => ?_) (fun c_ => ?_)
  · have hf := (if_pos c_).symm.trans hf
    refine z_lload_n X dX11_worthOf_77 rfl (lv_at hl 3 rfl) ?_
    exact m_lret X Z hf dX11_worthOf_78
  · have hf := (if_neg c_).symm.trans hf
    refine z_iload_n X dX11_worthOf_19 rfl (lv_at hl 2 rfl) ?_
    refine z_iload X dX11_worthOf_20 (lv_at hl 4 rfl) ?_
    refine z_icmp_ne (tgt := 28) X dX11_worthOf_22 (by decide) (fun c_ => ?_) (fun c_ => ?_)
    · have hf := (if_neg c_).symm.trans hf
      refine z_aload_n X dX11_worthOf_28 rfl (lv_at hl 0 rfl) ?_
      refine z_iload_n X dX11_worthOf_29 rfl (lv_at hl 1 rfl) ?_
      refine z_iload_n X dX11_worthOf_30 rfl (lv_at hl 2 rfl) ?_
      refine z_iload X dX11_worthOf_31 (lv_at hl 4 rfl) ?_
      obtain ⟨r2, hc2, hf⟩ := z_bind hf
      refine m_callVv [.int x1, .int x2, .int x5] X hl.1 (c_tells D cy ad hc2) gm_tells pd_tells rfl ⟨by decide, by decide⟩ (Nat.le_of_ble_eq_true rfl) rfl dX11_worthOf_33 ?_
      refine z_lload_n X dX11_worthOf_36 rfl (lv_at hl 3 rfl) ?_
      refine z_aload_n X dX11_worthOf_37 rfl (lv_at hl 0 rfl) ?_
      refine z_iconst (v := 2) X dX11_worthOf_38 (by decide) ?_
      obtain ⟨r3, hc3, hf⟩ := z_bind hf
      refine m_callVi [.int 2] X hl.1 (c_isTold D cy ad hc3) gm_isTold pd_isTold rfl ⟨by decide, by decide⟩ (Nat.le_of_ble_eq_true rfl) rfl dX11_worthOf_39 ?_
      refine z_if_eq (tgt := 53) X dX11_worthOf_42 (by decide) (fun c_ => ?_) (fun c_ => ?_)
      · have hf := (if_pos c_).symm.trans hf
        refine z_lconst (v := 1) X dX11_worthOf_53 (by decide) ?_
        exact w_worthOf_54 X Z hk5 x1 x2 x5 x3 1 r3.2.1 r3.2.2 ls (lv_sub hl [0, 1, 2, 4] rfl) hf
      · have hf := (if_neg c_).symm.trans hf
        refine z_aload_n X dX11_worthOf_45 rfl (lv_at hl 0 rfl) ?_
        refine z_iconst (v := 2) X dX11_worthOf_46 (by decide) ?_
        obtain ⟨r4, hc4, hf⟩ := z_bind hf
        refine m_callVl [.int 2] X hl.1 (c_reckons D cy ad hc4) gm_reckons pd_reckons rfl ⟨by decide, by decide⟩ (Nat.le_of_ble_eq_true rfl) rfl dX11_worthOf_47 ?_
        refine z_goto (tgt := 54) X dX11_worthOf_50 (by decide) ?_
        exact w_worthOf_54 X Z hk5 x1 x2 x5 x3 r4.1 r4.2.1 r4.2.2 ls (lv_sub hl [0, 1, 2, 4] rfl) hf
    · have hf := (if_pos c_).symm.trans hf
      refine z_goto (tgt := 71) X dX11_worthOf_25 (by decide) ?_
      refine z_iinc (v := x5 + 1) (k0 := 4) (lv' := [(5, .int (x5 + 1)), (0, .ref (ad 0)), (1, .int x1), (2, .int x2), (3, .long x3)]) X dX11_worthOf_71 hl rfl rfl (by decide) rfl (fun ls hl => ?_)
      refine z_goto (tgt := 5) X dX11_worthOf_74 (by decide) ?_
      exact hk5 x1 x2 x3 (x5 + 1) V L ls (lv_sub hl [1, 2, 3, 4, 0] rfl) hf

set_option maxHeartbeats 4000000 in
set_option maxRecDepth 100000 in
theorem w_worthOf {M : zM} {D : va_G} {cy : Nat → ClassId} {ad : Nat → Nat} {r' : Int64 × zI × zL} (X : RX M (zR D cy ad) cX11_worthOf 6 RX11 4 91) (Z : RZl M (zR D cy ad) r'.1 r'.2.1 r'.2.2) (x1 : Int32) (x2 : Int32) (V : zI) (L : zL) (ls : Array Slot) (hl : lv_has ls 6 [(0, .ref (ad 0)), (1, .int x1), (2, .int x2)]) (hf : f_worthOf x1 x2 V L = some r') : RG M (zR D cy ad) V L 0 ls [] := by
  unfold f_worthOf at hf
  refine z_lconst (v := 0) X dX11_worthOf_0 (by decide) ?_
  refine z_lstore_n (lv' := [(3, .long 0), (0, .ref (ad 0)), (1, .int x1), (2, .int x2)]) X dX11_worthOf_1 rfl hl (by decide) rfl (fun ls hl => ?_)
  refine z_iconst (v := 0) X dX11_worthOf_2 (by decide) ?_
  refine z_istore (lv' := [(5, .int 0), (3, .long 0), (0, .ref (ad 0)), (1, .int x1), (2, .int x2)]) X dX11_worthOf_3 hl (by decide) rfl (fun ls hl => ?_)
  exact w_worthOf_5 X Z FU x1 x2 0 0 V L ls (lv_sub hl [2, 3, 4, 1, 0] rfl) hf

theorem c_worthOf (D : va_G) (cy : Nat → ClassId) (ad : Nat → Nat) {x1 : Int32} {x2 : Int32} {V : zI} {L : zL} {r' : Int64 × zI × zL} (hf : f_worthOf x1 x2 V L = some r') : RMl (zR D cy ad) yX11_worthOf cX11_worthOf 6 4 91 [.ref (ad 0), .int x1, .int x2] V L r'.1 r'.2.1 r'.2.2 :=
  RMl.of (by decide) zR_nd (Nat.le_of_ble_eq_true rfl) (fun M X Z ls hl => w_worthOf X Z x1 x2 V L ls hl hf)
def f_swaps (x1 : Int32) (x2 : Int32) (x3 : Int32) (x4 : Int32) (x5 : Int32) (V : zI) (L : zL) : Option (zI × zL) :=
  (f_at 1 x1 x3 V L).bind fun r1 => if inB r1.1 792 then if inB r1.1 792 then (f_at 1 x2 x3 (z_uI r1.2.1 21 r1.1.toNatClampNeg ((r1.2.1 21 r1.1.toNatClampNeg) - x5)) r1.2.2).bind fun r4 => if inB r4.1 792 then if inB r4.1 792 then (f_at 1 x2 x4 (z_uI r4.2.1 21 r4.1.toNatClampNeg ((r4.2.1 21 r4.1.toNatClampNeg) + x5)) r4.2.2).bind fun r7 => if inB r7.1 792 then if inB r7.1 792 then (f_at 1 x1 x4 (z_uI r7.2.1 21 r7.1.toNatClampNeg ((r7.2.1 21 r7.1.toNatClampNeg) - x5)) r7.2.2).bind fun r10 => if inB r10.1 792 then if inB r10.1 792 then some (z_uI r10.2.1 21 r10.1.toNatClampNeg ((r10.2.1 21 r10.1.toNatClampNeg) + x5), r10.2.2) else none else none else none else none else none else none else none else none
set_option maxHeartbeats 4000000 in
set_option maxRecDepth 100000 in
theorem w_swaps {M : zM} {D : va_G} {cy : Nat → ClassId} {ad : Nat → Nat} {r' : zI × zL} (X : RX M (zR D cy ad) cX11_swaps 6 RX11 1 23) (Z : RZv M (zR D cy ad) r'.1 r'.2) (x1 : Int32) (x2 : Int32) (x3 : Int32) (x4 : Int32) (x5 : Int32) (V : zI) (L : zL) (ls : Array Slot) (hl : lv_has ls 6 [(0, .ref (ad 0)), (1, .int x1), (2, .int x2), (3, .int x3), (4, .int x4), (5, .int x5)]) (hf : f_swaps x1 x2 x3 x4 x5 V L = some r') : RG M (zR D cy ad) V L 0 ls [] := by
  unfold f_swaps at hf
  refine z_aload_n X dX11_swaps_0 rfl (lv_at hl 0 rfl) ?_
  refine m_geta X ff_40 dX11_swaps_1 ?_
  refine z_aload_n X dX11_swaps_4 rfl (lv_at hl 0 rfl) ?_
  refine z_iconst (v := 1) X dX11_swaps_5 (by decide) ?_
  refine z_iload_n X dX11_swaps_6 rfl (lv_at hl 1 rfl) ?_
  refine z_iload_n X dX11_swaps_7 rfl (lv_at hl 3 rfl) ?_
  obtain ⟨r1, hc1, hf⟩ := z_bind hf
  refine m_callVi [.int 1, .int x1, .int x3] X hl.1 (c_at D cy ad hc1) gm_at pd_at rfl ⟨by decide, by decide⟩ (Nat.le_of_ble_eq_true rfl) rfl dX11_swaps_8 ?_
  refine z_dup2 X dX11_swaps_11 rfl rfl ?_
  obtain ⟨hb2, hf⟩ := z_ite hf
  refine m_iald X pa_21 hb2 dX11_swaps_12 ?_
  refine z_iload X dX11_swaps_13 (lv_at hl 5 rfl) ?_
  refine z_isub X dX11_swaps_15 ?_
  obtain ⟨hb3, hf⟩ := z_ite hf
  refine m_iast X pa_21 hb3 dX11_swaps_16 ?_
  refine z_aload_n X dX11_swaps_17 rfl (lv_at hl 0 rfl) ?_
  refine m_geta X ff_40 dX11_swaps_18 ?_
  refine z_aload_n X dX11_swaps_21 rfl (lv_at hl 0 rfl) ?_
  refine z_iconst (v := 1) X dX11_swaps_22 (by decide) ?_
  refine z_iload_n X dX11_swaps_23 rfl (lv_at hl 2 rfl) ?_
  refine z_iload_n X dX11_swaps_24 rfl (lv_at hl 3 rfl) ?_
  obtain ⟨r4, hc4, hf⟩ := z_bind hf
  refine m_callVi [.int 1, .int x2, .int x3] X hl.1 (c_at D cy ad hc4) gm_at pd_at rfl ⟨by decide, by decide⟩ (Nat.le_of_ble_eq_true rfl) rfl dX11_swaps_25 ?_
  refine z_dup2 X dX11_swaps_28 rfl rfl ?_
  obtain ⟨hb5, hf⟩ := z_ite hf
  refine m_iald X pa_21 hb5 dX11_swaps_29 ?_
  refine z_iload X dX11_swaps_30 (lv_at hl 5 rfl) ?_
  refine z_iadd X dX11_swaps_32 ?_
  obtain ⟨hb6, hf⟩ := z_ite hf
  refine m_iast X pa_21 hb6 dX11_swaps_33 ?_
  refine z_aload_n X dX11_swaps_34 rfl (lv_at hl 0 rfl) ?_
  refine m_geta X ff_40 dX11_swaps_35 ?_
  refine z_aload_n X dX11_swaps_38 rfl (lv_at hl 0 rfl) ?_
  refine z_iconst (v := 1) X dX11_swaps_39 (by decide) ?_
  refine z_iload_n X dX11_swaps_40 rfl (lv_at hl 2 rfl) ?_
  refine z_iload X dX11_swaps_41 (lv_at hl 4 rfl) ?_
  obtain ⟨r7, hc7, hf⟩ := z_bind hf
  refine m_callVi [.int 1, .int x2, .int x4] X hl.1 (c_at D cy ad hc7) gm_at pd_at rfl ⟨by decide, by decide⟩ (Nat.le_of_ble_eq_true rfl) rfl dX11_swaps_43 ?_
  refine z_dup2 X dX11_swaps_46 rfl rfl ?_
  obtain ⟨hb8, hf⟩ := z_ite hf
  refine m_iald X pa_21 hb8 dX11_swaps_47 ?_
  refine z_iload X dX11_swaps_48 (lv_at hl 5 rfl) ?_
  refine z_isub X dX11_swaps_50 ?_
  obtain ⟨hb9, hf⟩ := z_ite hf
  refine m_iast X pa_21 hb9 dX11_swaps_51 ?_
  refine z_aload_n X dX11_swaps_52 rfl (lv_at hl 0 rfl) ?_
  refine m_geta X ff_40 dX11_swaps_53 ?_
  refine z_aload_n X dX11_swaps_56 rfl (lv_at hl 0 rfl) ?_
  refine z_iconst (v := 1) X dX11_swaps_57 (by decide) ?_
  refine z_iload_n X dX11_swaps_58 rfl (lv_at hl 1 rfl) ?_
  refine z_iload X dX11_swaps_59 (lv_at hl 4 rfl) ?_
  obtain ⟨r10, hc10, hf⟩ := z_bind hf
  refine m_callVi [.int 1, .int x1, .int x4] X hl.1 (c_at D cy ad hc10) gm_at pd_at rfl ⟨by decide, by decide⟩ (Nat.le_of_ble_eq_true rfl) rfl dX11_swaps_61 ?_
  refine z_dup2 X dX11_swaps_64 rfl rfl ?_
  obtain ⟨hb11, hf⟩ := z_ite hf
  refine m_iald X pa_21 hb11 dX11_swaps_65 ?_
  refine z_iload X dX11_swaps_66 (lv_at hl 5 rfl) ?_
  refine z_iadd X dX11_swaps_68 ?_
  obtain ⟨hb12, hf⟩ := z_ite hf
  refine m_iast X pa_21 hb12 dX11_swaps_69 ?_
  exact m_vret X Z hf dX11_swaps_70

theorem c_swaps (D : va_G) (cy : Nat → ClassId) (ad : Nat → Nat) {x1 : Int32} {x2 : Int32} {x3 : Int32} {x4 : Int32} {x5 : Int32} {V : zI} {L : zL} {r' : zI × zL} (hf : f_swaps x1 x2 x3 x4 x5 V L = some r') : RMv (zR D cy ad) yX11_swaps cX11_swaps 6 1 23 [.ref (ad 0), .int x1, .int x2, .int x3, .int x4, .int x5] V L r'.1 r'.2 :=
  RMv.of (by decide) zR_nd (Nat.le_of_ble_eq_true rfl) (fun M X Z ls hl => w_swaps X Z x1 x2 x3 x4 x5 V L ls hl hf)
def b_swap_24 (k24 : Int32 × Int32 × Int64 × Int32 × zI × zL → Option (Int32 × zI × zL)) : Int32 × Int32 × Int64 × Int32 × zI × zL → Option (Int32 × zI × zL) := fun ⟨x1, x2, x3, x5, V, L⟩ =>
  (if 1296 ≤ x5 then (if x2 = (-1) then some ((-1), V, L) else (if x1 = 0 then some ((x2 / 36) / 6, V, L) else (if x1 = 1 then some ((x2 / 36) - (x2 / 36) / 6 * 6, V, L) else (if x1 = 2 then some ((x2 / 6) - (x2 / 6) / 6 * 6, V, L) else (if x1 = 3 then some (x2 - x2 / 6 * 6, V, L) else some (x3.toInt32, V, L)))))) else (if ((x5 / 36) - (x5 / 36) / 6 * 6) ≤ ((x5 / 36) / 6) then k24 (x1, x2, x3, (x5 + 1), V, L) else (f_isTown ((x5 / 36) - (x5 / 36) / 6 * 6) V L).bind fun r1 => (if r1.1 = 0 then k24 (x1, x2, x3, (x5 + 1), r1.2.1, r1.2.2) else (f_isTown ((x5 / 6) - (x5 / 6) / 6 * 6) r1.2.1 r1.2.2).bind fun r2 => (if r2.1 = 0 then k24 (x1, x2, x3, (x5 + 1), r2.2.1, r2.2.2) else (f_isTown (x5 - x5 / 6 * 6) r2.2.1 r2.2.2).bind fun r3 => (if r3.1 = 0 then k24 (x1, x2, x3, (x5 + 1), r3.2.1, r3.2.2) else (if ((x5 / 6) - (x5 / 6) / 6 * 6) = ((x5 / 36) / 6) then k24 (x1, x2, x3, (x5 + 1), r3.2.1, r3.2.2) else (if ((x5 / 6) - (x5 / 6) / 6 * 6) = ((x5 / 36) - (x5 / 36) / 6 * 6) then k24 (x1, x2, x3, (x5 + 1), r3.2.1, r3.2.2) else (if (x5 - x5 / 6 * 6) = ((x5 / 36) / 6) then k24 (x1, x2, x3, (x5 + 1), r3.2.1, r3.2.2) else (if (x5 - x5 / 6 * 6) = ((x5 / 36) - (x5 / 36) / 6 * 6) then k24 (x1, x2, x3, (x5 + 1), r3.2.1, r3.2.2) else (if ((x5 / 6) - (x5 / 6) / 6 * 6) = (x5 - x5 / 6 * 6) then k24 (x1, x2, x3, (x5 + 1), r3.2.1, r3.2.2) else (f_at 1 ((x5 / 36) / 6) ((x5 / 6) - (x5 / 6) / 6 * 6) r3.2.1 r3.2.2).bind fun r4 => if inB r4.1 792 then (if (r4.2.1 21 r4.1.toNatClampNeg) = 0 then k24 (x1, x2, x3, (x5 + 1), r4.2.1, r4.2.2) else (f_at 1 ((x5 / 36) - (x5 / 36) / 6 * 6) (x5 - x5 / 6 * 6) r4.2.1 r4.2.2).bind fun r6 => if inB r6.1 792 then (if (r6.2.1 21 r6.1.toNatClampNeg) = 0 then k24 (x1, x2, x3, (x5 + 1), r6.2.1, r6.2.2) else (f_at 1 ((x5 / 36) / 6) (x5 - x5 / 6 * 6) r6.2.1 r6.2.2).bind fun r8 => if inB r8.1 792 then (if (r8.2.1 21 r8.1.toNatClampNeg) = 99 then k24 (x1, x2, x3, (x5 + 1), r8.2.1, r8.2.2) else (f_at 1 ((x5 / 36) - (x5 / 36) / 6 * 6) ((x5 / 6) - (x5 / 6) / 6 * 6) r8.2.1 r8.2.2).bind fun r10 => if inB r10.1 792 then (if (r10.2.1 21 r10.1.toNatClampNeg) = 99 then k24 (x1, x2, x3, (x5 + 1), r10.2.1, r10.2.2) else (f_worthOf 1 ((x5 / 36) / 6) r10.2.1 r10.2.2).bind fun r12 => (f_worthOf 1 ((x5 / 36) - (x5 / 36) / 6 * 6) r12.2.1 r12.2.2).bind fun r13 => (f_swaps ((x5 / 36) / 6) ((x5 / 36) - (x5 / 36) / 6 * 6) ((x5 / 6) - (x5 / 6) / 6 * 6) (x5 - x5 / 6 * 6) 1 r13.2.1 r13.2.2).bind fun r14 => (f_worthOf 1 ((x5 / 36) / 6) r14.1 r14.2).bind fun r15 => (f_worthOf 1 ((x5 / 36) - (x5 / 36) / 6 * 6) r15.2.1 r15.2.2).bind fun r16 => (f_swaps ((x5 / 36) / 6) ((x5 / 36) - (x5 / 36) / 6 * 6) ((x5 / 6) - (x5 / 6) / 6 * 6) (x5 - x5 / 6 * 6) (-1) r16.2.1 r16.2.2).bind fun r17 => (if 0 < (lg_cmp ((r15.1 + r16.1) - (r12.1 + r13.1)) x3) then k24 (x1, x5, ((r15.1 + r16.1) - (r12.1 + r13.1)), (x5 + 1), r17.1, r17.2) else k24 (x1, x2, x3, (x5 + 1), r17.1, r17.2))) else none) else none) else none) else none))))))))))
def f_swap (x1 : Int32) (V : zI) (L : zL) : Option (Int32 × zI × zL) :=
  (f_is x1 0 4).bind fun r1 => (if r1 = 0 then some ((-1), V, L) else (f_copies 1 0 V L).bind fun r2 => zfix (b_swap_24) FU (x1, (-1), 0, 0, r2.1, r2.2))
set_option maxHeartbeats 4000000 in
set_option maxRecDepth 100000 in
theorem w_swap_24 {M : zM} {D : va_G} {cy : Nat → ClassId} {ad : Nat → Nat} {r' : Int32 × zI × zL} (X : RX M (zR D cy ad) cX11_swap 14 RX11 5 116) (Z : RZi M (zR D cy ad) .int r'.1 r'.2.1 r'.2.2) (n : Nat) : ∀ (x1 : Int32) (x2 : Int32) (x3 : Int64) (x5 : Int32) (V : zI) (L : zL) (ls : Array Slot) (hl : lv_has ls 14 [(0, .ref (ad 0)), (1, .int x1), (2, .int x2), (3, .long x3), (5, .int x5)]) (hf : zfix (b_swap_24) n (x1, x2, x3, x5, V, L) = some r'), RG M (zR D cy ad) V L 24 ls [] := by
  induction n with
  | zero => intro x1 x2 x3 x5 V L ls hl hf; cases hf
  | succ n ih =>
  intro x1 x2 x3 x5 V L ls hl hf
  have hk24 : ∀ (x1 : Int32) (x2 : Int32) (x3 : Int64) (x5 : Int32) (V : zI) (L : zL) (ls : Array Slot), lv_has ls 14 [(0, .ref (ad 0)), (1, .int x1), (2, .int x2), (3, .long x3), (5, .int x5)] → zfix (b_swap_24) n (x1, x2, x3, x5, V, L) = some r' → RG M (zR D cy ad) V L 24 ls [] := ih
  have hf : b_swap_24 (zfix (b_swap_24) n) (x1, x2, x3, x5, V, L) = some r' := hf
  generalize zfix (b_swap_24) n = k24 at hk24 hf
  unfold b_swap_24 at hf
  clear ih
  refine z_iload X dX11_swap_24 (lv_at hl 4 rfl) ?_
  refine z_sipush (v := 1296) X dX11_swap_26 (by decide) ?_
  refine z_icmp_ge (tgt := 301) X dX11_swap_29 (by decide) (fun c_ => ?_) (fun c_ => ?_)
  · have hf := (if_pos c_).symm.trans hf
    refine z_iload_n X dX11_swap_301 rfl (lv_at hl 2 rfl) ?_
    refine z_iconst (v := -1) X dX11_swap_302 (by decide) ?_
    refine z_icmp_ne (tgt := 308) X dX11_swap_303 (by decide) (fun c_ => ?_) (fun c_ => ?_)
    · have hf := (if_neg c_).symm.trans hf
      refine z_iload_n X dX11_swap_308 rfl (lv_at hl 1 rfl) ?_
      refine z_if_ne (tgt := 322) X dX11_swap_309 (by decide) (fun c_ => ?_) (fun c_ => ?_)
      · have hf := (if_neg c_).symm.trans hf
        refine z_iload_n X dX11_swap_322 rfl (lv_at hl 1 rfl) ?_
        refine z_iconst (v := 1) X dX11_swap_323 (by decide) ?_
        refine z_icmp_ne (tgt := 337) X dX11_swap_324 (by decide) (fun c_ => ?_) (fun c_ => ?_)
        · have hf := (if_neg c_).symm.trans hf
          refine z_iload_n X dX11_swap_337 rfl (lv_at hl 1 rfl) ?_
          refine z_iconst (v := 2) X dX11_swap_338 (by decide) ?_
          refine z_icmp_ne (tgt := 352) X dX11_swap_339 (by decide) (fun c_ => ?_) (fun c_ => ?_)
          · have hf := (if_neg c_).symm.trans hf
            refine z_iload_n X dX11_swap_352 rfl (lv_at hl 1 rfl) ?_
            refine z_iconst (v := 3) X dX11_swap_353 (by decide) ?_
            refine z_icmp_ne (tgt := 364) X dX11_swap_354 (by decide) (fun c_ => ?_) (fun c_ => ?_)
            · have hf := (if_neg c_).symm.trans hf
              refine z_lload_n X dX11_swap_364 rfl (lv_at hl 3 rfl) ?_
              refine z_l2i X dX11_swap_365 ?_
              exact m_iret X Z hf rfl dX11_swap_366
            · have hf := (if_pos c_).symm.trans hf
              refine z_iload_n X dX11_swap_357 rfl (lv_at hl 2 rfl) ?_
              refine z_bipush (v := 6) X dX11_swap_358 (by decide) ?_
              refine z_irem X dX11_swap_360 (by decide) ?_
              refine z_goto (tgt := 366) X dX11_swap_361 (by decide) ?_
              exact m_iret X Z hf rfl dX11_swap_366
          · have hf := (if_pos c_).symm.trans hf
            refine z_iload_n X dX11_swap_342 rfl (lv_at hl 2 rfl) ?_
            refine z_bipush (v := 6) X dX11_swap_343 (by decide) ?_
            refine z_idiv X dX11_swap_345 (by decide) ?_
            refine z_bipush (v := 6) X dX11_swap_346 (by decide) ?_
            refine z_irem X dX11_swap_348 (by decide) ?_
            refine z_goto (tgt := 366) X dX11_swap_349 (by decide) ?_
            exact m_iret X Z hf rfl dX11_swap_366
        · have hf := (if_pos c_).symm.trans hf
          refine z_iload_n X dX11_swap_327 rfl (lv_at hl 2 rfl) ?_
          refine z_bipush (v := 36) X dX11_swap_328 (by decide) ?_
          refine z_idiv X dX11_swap_330 (by decide) ?_
          refine z_bipush (v := 6) X dX11_swap_331 (by decide) ?_
          refine z_irem X dX11_swap_333 (by decide) ?_
          refine z_goto (tgt := 366) X dX11_swap_334 (by decide) ?_
          exact m_iret X Z hf rfl dX11_swap_366
      · have hf := (if_pos c_).symm.trans hf
        refine z_iload_n X dX11_swap_312 rfl (lv_at hl 2 rfl) ?_
        refine z_bipush (v := 36) X dX11_swap_313 (by decide) ?_
        refine z_idiv X dX11_swap_315 (by decide) ?_
        refine z_bipush (v := 6) X dX11_swap_316 (by decide) ?_
        refine z_idiv X dX11_swap_318 (by decide) ?_
        refine z_goto (tgt := 366) X dX11_swap_319 (by decide) ?_
        exact m_iret X Z hf rfl dX11_swap_366
    · have hf := (if_pos c_).symm.trans hf
      refine z_iconst (v := -1) X dX11_swap_306 (by decide) ?_
      exact m_iret X Z hf rfl dX11_swap_307
  · have hf := (if_neg c_).symm.trans hf
    refine z_iload X dX11_swap_32 (lv_at hl 4 rfl) ?_
    refine z_bipush (v := 36) X dX11_swap_34 (by decide) ?_
    refine z_idiv X dX11_swap_36 (by decide) ?_
    refine z_bipush (v := 6) X dX11_swap_37 (by decide) ?_
    refine z_idiv X dX11_swap_39 (by decide) ?_
    refine z_istore (lv' := [(6, .int ((x5 / 36) / 6)), (0, .ref (ad 0)), (1, .int x1), (2, .int x2), (3, .long x3), (5, .int x5)]) X dX11_swap_40 hl (by decide) rfl (fun ls hl => ?_)
    refine z_iload X dX11_swap_42 (lv_at hl 5 rfl) ?_
    refine z_bipush (v := 36) X dX11_swap_44 (by decide) ?_
    refine z_idiv X dX11_swap_46 (by decide) ?_
    refine z_bipush (v := 6) X dX11_swap_47 (by decide) ?_
    refine z_irem X dX11_swap_49 (by decide) ?_
    refine z_istore (lv' := [(7, .int ((x5 / 36) - (x5 / 36) / 6 * 6)), (6, .int ((x5 / 36) / 6)), (0, .ref (ad 0)), (1, .int x1), (2, .int x2), (3, .long x3), (5, .int x5)]) X dX11_swap_50 hl (by decide) rfl (fun ls hl => ?_)
    refine z_iload X dX11_swap_52 (lv_at hl 6 rfl) ?_
    refine z_bipush (v := 6) X dX11_swap_54 (by decide) ?_
    refine z_idiv X dX11_swap_56 (by decide) ?_
    refine z_bipush (v := 6) X dX11_swap_57 (by decide) ?_
    refine z_irem X dX11_swap_59 (by decide) ?_
    refine z_istore (lv' := [(8, .int ((x5 / 6) - (x5 / 6) / 6 * 6)), (7, .int ((x5 / 36) - (x5 / 36) / 6 * 6)), (6, .int ((x5 / 36) / 6)), (0, .ref (ad 0)), (1, .int x1), (2, .int x2), (3, .long x3), (5, .int x5)]) X dX11_swap_60 hl (by decide) rfl (fun ls hl => ?_)
    refine z_iload X dX11_swap_62 (lv_at hl 7 rfl) ?_
    refine z_bipush (v := 6) X dX11_swap_64 (by decide) ?_
    refine z_irem X dX11_swap_66 (by decide) ?_
    refine z_istore (lv' := [(9, .int (x5 - x5 / 6 * 6)), (8, .int ((x5 / 6) - (x5 / 6) / 6 * 6)), (7, .int ((x5 / 36) - (x5 / 36) / 6 * 6)), (6, .int ((x5 / 36) / 6)), (0, .ref (ad 0)), (1, .int x1), (2, .int x2), (3, .long x3), (5, .int x5)]) X dX11_swap_67 hl (by decide) rfl (fun ls hl => ?_)
    refine z_iload X dX11_swap_69 (lv_at hl 3 rfl) ?_
    refine z_iload X dX11_swap_71 (lv_at hl 2 rfl) ?_
    refine z_icmp_ge (tgt := 295) X dX11_swap_73 (by decide) (fun c_ => ?_) (fun c_ => ?_)
    · have hf := (if_pos c_).symm.trans hf
      refine z_iinc (v := x5 + 1) (k0 := 8) (lv' := [(5, .int (x5 + 1)), (9, .int (x5 - x5 / 6 * 6)), (8, .int ((x5 / 6) - (x5 / 6) / 6 * 6)), (7, .int ((x5 / 36) - (x5 / 36) / 6 * 6)), (6, .int ((x5 / 36) / 6)), (0, .ref (ad 0)), (1, .int x1), (2, .int x2), (3, .long x3)]) X dX11_swap_295 hl rfl rfl (by decide) rfl (fun ls hl => ?_)
      refine z_goto (tgt := 24) X dX11_swap_298 (by decide) ?_
      exact hk24 x1 x2 x3 (x5 + 1) V L ls (lv_sub hl [5, 6, 7, 8, 0] rfl) hf
    · have hf := (if_neg c_).symm.trans hf
      refine z_aload_n X dX11_swap_76 rfl (lv_at hl 4 rfl) ?_
      refine z_iload X dX11_swap_77 (lv_at hl 2 rfl) ?_
      obtain ⟨r1, hc1, hf⟩ := z_bind hf
      refine m_callVi [.int ((x5 / 36) - (x5 / 36) / 6 * 6)] X hl.1 (c_isTown D cy ad hc1) gm_isTown pd_isTown rfl ⟨by decide, by decide⟩ (Nat.le_of_ble_eq_true rfl) rfl dX11_swap_79 ?_
      refine z_if_eq (tgt := 295) X dX11_swap_82 (by decide) (fun c_ => ?_) (fun c_ => ?_)
      · have hf := (if_pos c_).symm.trans hf
        refine z_iinc (v := x5 + 1) (k0 := 8) (lv' := [(5, .int (x5 + 1)), (9, .int (x5 - x5 / 6 * 6)), (8, .int ((x5 / 6) - (x5 / 6) / 6 * 6)), (7, .int ((x5 / 36) - (x5 / 36) / 6 * 6)), (6, .int ((x5 / 36) / 6)), (0, .ref (ad 0)), (1, .int x1), (2, .int x2), (3, .long x3)]) X dX11_swap_295 hl rfl rfl (by decide) rfl (fun ls hl => ?_)
        refine z_goto (tgt := 24) X dX11_swap_298 (by decide) ?_
        exact hk24 x1 x2 x3 (x5 + 1) r1.2.1 r1.2.2 ls (lv_sub hl [5, 6, 7, 8, 0] rfl) hf
      · have hf := (if_neg c_).symm.trans hf
        refine z_aload_n X dX11_swap_85 rfl (lv_at hl 4 rfl) ?_
        refine z_iload X dX11_swap_86 (lv_at hl 1 rfl) ?_
        obtain ⟨r2, hc2, hf⟩ := z_bind hf
        refine m_callVi [.int ((x5 / 6) - (x5 / 6) / 6 * 6)] X hl.1 (c_isTown D cy ad hc2) gm_isTown pd_isTown rfl ⟨by decide, by decide⟩ (Nat.le_of_ble_eq_true rfl) rfl dX11_swap_88 ?_
        refine z_if_eq (tgt := 295) X dX11_swap_91 (by decide) (fun c_ => ?_) (fun c_ => ?_)
        · have hf := (if_pos c_).symm.trans hf
          refine z_iinc (v := x5 + 1) (k0 := 8) (lv' := [(5, .int (x5 + 1)), (9, .int (x5 - x5 / 6 * 6)), (8, .int ((x5 / 6) - (x5 / 6) / 6 * 6)), (7, .int ((x5 / 36) - (x5 / 36) / 6 * 6)), (6, .int ((x5 / 36) / 6)), (0, .ref (ad 0)), (1, .int x1), (2, .int x2), (3, .long x3)]) X dX11_swap_295 hl rfl rfl (by decide) rfl (fun ls hl => ?_)
          refine z_goto (tgt := 24) X dX11_swap_298 (by decide) ?_
          exact hk24 x1 x2 x3 (x5 + 1) r2.2.1 r2.2.2 ls (lv_sub hl [5, 6, 7, 8, 0] rfl) hf
        · have hf := (if_neg c_).symm.trans hf
          refine z_aload_n X dX11_swap_94 rfl (lv_at hl 4 rfl) ?_
          refine z_iload X dX11_swap_95 (lv_at hl 0 rfl) ?_
          obtain ⟨r3, hc3, hf⟩ := z_bind hf
          refine m_callVi [.int (x5 - x5 / 6 * 6)] X hl.1 (c_isTown D cy ad hc3) gm_isTown pd_isTown rfl ⟨by decide, by decide⟩ (Nat.le_of_ble_eq_true rfl) rfl dX11_swap_97 ?_
          refine z_if_eq (tgt := 295) X dX11_swap_100 (by decide) (fun c_ => ?_) (fun c_ => ?_)
          · have hf := (if_pos c_).symm.trans hf
            refine z_iinc (v := x5 + 1) (k0 := 8) (lv' := [(5, .int (x5 + 1)), (9, .int (x5 - x5 / 6 * 6)), (8, .int ((x5 / 6) - (x5 / 6) / 6 * 6)), (7, .int ((x5 / 36) - (x5 / 36) / 6 * 6)), (6, .int ((x5 / 36) / 6)), (0, .ref (ad 0)), (1, .int x1), (2, .int x2), (3, .long x3)]) X dX11_swap_295 hl rfl rfl (by decide) rfl (fun ls hl => ?_)
            refine z_goto (tgt := 24) X dX11_swap_298 (by decide) ?_
            exact hk24 x1 x2 x3 (x5 + 1) r3.2.1 r3.2.2 ls (lv_sub hl [5, 6, 7, 8, 0] rfl) hf
          · have hf := (if_neg c_).symm.trans hf
            refine z_iload X dX11_swap_103 (lv_at hl 1 rfl) ?_
            refine z_iload X dX11_swap_105 (lv_at hl 3 rfl) ?_
            refine z_icmp_eq (tgt := 295) X dX11_swap_107 (by decide) (fun c_ => ?_) (fun c_ => ?_)
            · have hf := (if_pos c_).symm.trans hf
              refine z_iinc (v := x5 + 1) (k0 := 8) (lv' := [(5, .int (x5 + 1)), (9, .int (x5 - x5 / 6 * 6)), (8, .int ((x5 / 6) - (x5 / 6) / 6 * 6)), (7, .int ((x5 / 36) - (x5 / 36) / 6 * 6)), (6, .int ((x5 / 36) / 6)), (0, .ref (ad 0)), (1, .int x1), (2, .int x2), (3, .long x3)]) X dX11_swap_295 hl rfl rfl (by decide) rfl (fun ls hl => ?_)
              refine z_goto (tgt := 24) X dX11_swap_298 (by decide) ?_
              exact hk24 x1 x2 x3 (x5 + 1) r3.2.1 r3.2.2 ls (lv_sub hl [5, 6, 7, 8, 0] rfl) hf
            · have hf := (if_neg c_).symm.trans hf
              refine z_iload X dX11_swap_110 (lv_at hl 1 rfl) ?_
              refine z_iload X dX11_swap_112 (lv_at hl 2 rfl) ?_
              refine z_icmp_eq (tgt := 295) X dX11_swap_114 (by decide) (fun c_ => ?_) (fun c_ => ?_)
              · have hf := (if_pos c_).symm.trans hf
                refine z_iinc (v := x5 + 1) (k0 := 8) (lv' := [(5, .int (x5 + 1)), (9, .int (x5 - x5 / 6 * 6)), (8, .int ((x5 / 6) - (x5 / 6) / 6 * 6)), (7, .int ((x5 / 36) - (x5 / 36) / 6 * 6)), (6, .int ((x5 / 36) / 6)), (0, .ref (ad 0)), (1, .int x1), (2, .int x2), (3, .long x3)]) X dX11_swap_295 hl rfl rfl (by decide) rfl (fun ls hl => ?_)
                refine z_goto (tgt := 24) X dX11_swap_298 (by decide) ?_
                exact hk24 x1 x2 x3 (x5 + 1) r3.2.1 r3.2.2 ls (lv_sub hl [5, 6, 7, 8, 0] rfl) hf
              · have hf := (if_neg c_).symm.trans hf
                refine z_iload X dX11_swap_117 (lv_at hl 0 rfl) ?_
                refine z_iload X dX11_swap_119 (lv_at hl 3 rfl) ?_
                refine z_icmp_eq (tgt := 295) X dX11_swap_121 (by decide) (fun c_ => ?_) (fun c_ => ?_)
                · have hf := (if_pos c_).symm.trans hf
                  refine z_iinc (v := x5 + 1) (k0 := 8) (lv' := [(5, .int (x5 + 1)), (9, .int (x5 - x5 / 6 * 6)), (8, .int ((x5 / 6) - (x5 / 6) / 6 * 6)), (7, .int ((x5 / 36) - (x5 / 36) / 6 * 6)), (6, .int ((x5 / 36) / 6)), (0, .ref (ad 0)), (1, .int x1), (2, .int x2), (3, .long x3)]) X dX11_swap_295 hl rfl rfl (by decide) rfl (fun ls hl => ?_)
                  refine z_goto (tgt := 24) X dX11_swap_298 (by decide) ?_
                  exact hk24 x1 x2 x3 (x5 + 1) r3.2.1 r3.2.2 ls (lv_sub hl [5, 6, 7, 8, 0] rfl) hf
                · have hf := (if_neg c_).symm.trans hf
                  refine z_iload X dX11_swap_124 (lv_at hl 0 rfl) ?_
                  refine z_iload X dX11_swap_126 (lv_at hl 2 rfl) ?_
                  refine z_icmp_eq (tgt := 295) X dX11_swap_128 (by decide) (fun c_ => ?_) (fun c_ => ?_)
                  · have hf := (if_pos c_).symm.trans hf
                    refine z_iinc (v := x5 + 1) (k0 := 8) (lv' := [(5, .int (x5 + 1)), (9, .int (x5 - x5 / 6 * 6)), (8, .int ((x5 / 6) - (x5 / 6) / 6 * 6)), (7, .int ((x5 / 36) - (x5 / 36) / 6 * 6)), (6, .int ((x5 / 36) / 6)), (0, .ref (ad 0)), (1, .int x1), (2, .int x2), (3, .long x3)]) X dX11_swap_295 hl rfl rfl (by decide) rfl (fun ls hl => ?_)
                    refine z_goto (tgt := 24) X dX11_swap_298 (by decide) ?_
                    exact hk24 x1 x2 x3 (x5 + 1) r3.2.1 r3.2.2 ls (lv_sub hl [5, 6, 7, 8, 0] rfl) hf
                  · have hf := (if_neg c_).symm.trans hf
                    refine z_iload X dX11_swap_131 (lv_at hl 1 rfl) ?_
                    refine z_iload X dX11_swap_133 (lv_at hl 0 rfl) ?_
                    refine z_icmp_ne (tgt := 141) X dX11_swap_135 (by decide) (fun c_ => ?_) (fun c_ => ?_)
                    · have hf := (if_neg c_).symm.trans hf
                      refine z_aload_n X dX11_swap_141 rfl (lv_at hl 4 rfl) ?_
                      refine m_geta X ff_40 dX11_swap_142 ?_
                      refine z_aload_n X dX11_swap_145 rfl (lv_at hl 4 rfl) ?_
                      refine z_iconst (v := 1) X dX11_swap_146 (by decide) ?_
                      refine z_iload X dX11_swap_147 (lv_at hl 3 rfl) ?_
                      refine z_iload X dX11_swap_149 (lv_at hl 1 rfl) ?_
                      obtain ⟨r4, hc4, hf⟩ := z_bind hf
                      refine m_callVi [.int 1, .int ((x5 / 36) / 6), .int ((x5 / 6) - (x5 / 6) / 6 * 6)] X hl.1 (c_at D cy ad hc4) gm_at pd_at rfl ⟨by decide, by decide⟩ (Nat.le_of_ble_eq_true rfl) rfl dX11_swap_151 ?_
                      obtain ⟨hb5, hf⟩ := z_ite hf
                      refine m_iald X pa_21 hb5 dX11_swap_154 ?_
                      refine z_if_eq (tgt := 295) X dX11_swap_155 (by decide) (fun c_ => ?_) (fun c_ => ?_)
                      · have hf := (if_pos c_).symm.trans hf
                        refine z_iinc (v := x5 + 1) (k0 := 8) (lv' := [(5, .int (x5 + 1)), (9, .int (x5 - x5 / 6 * 6)), (8, .int ((x5 / 6) - (x5 / 6) / 6 * 6)), (7, .int ((x5 / 36) - (x5 / 36) / 6 * 6)), (6, .int ((x5 / 36) / 6)), (0, .ref (ad 0)), (1, .int x1), (2, .int x2), (3, .long x3)]) X dX11_swap_295 hl rfl rfl (by decide) rfl (fun ls hl => ?_)
                        refine z_goto (tgt := 24) X dX11_swap_298 (by decide) ?_
                        exact hk24 x1 x2 x3 (x5 + 1) r4.2.1 r4.2.2 ls (lv_sub hl [5, 6, 7, 8, 0] rfl) hf
                      · have hf := (if_neg c_).symm.trans hf
                        refine z_aload_n X dX11_swap_158 rfl (lv_at hl 4 rfl) ?_
                        refine m_geta X ff_40 dX11_swap_159 ?_
                        refine z_aload_n X dX11_swap_162 rfl (lv_at hl 4 rfl) ?_
                        refine z_iconst (v := 1) X dX11_swap_163 (by decide) ?_
                        refine z_iload X dX11_swap_164 (lv_at hl 2 rfl) ?_
                        refine z_iload X dX11_swap_166 (lv_at hl 0 rfl) ?_
                        obtain ⟨r6, hc6, hf⟩ := z_bind hf
                        refine m_callVi [.int 1, .int ((x5 / 36) - (x5 / 36) / 6 * 6), .int (x5 - x5 / 6 * 6)] X hl.1 (c_at D cy ad hc6) gm_at pd_at rfl ⟨by decide, by decide⟩ (Nat.le_of_ble_eq_true rfl) rfl dX11_swap_168 ?_
                        obtain ⟨hb7, hf⟩ := z_ite hf
                        refine m_iald X pa_21 hb7 dX11_swap_171 ?_
                        refine z_if_eq (tgt := 295) X dX11_swap_172 (by decide) (fun c_ => ?_) (fun c_ => ?_)
                        · have hf := (if_pos c_).symm.trans hf
                          refine z_iinc (v := x5 + 1) (k0 := 8) (lv' := [(5, .int (x5 + 1)), (9, .int (x5 - x5 / 6 * 6)), (8, .int ((x5 / 6) - (x5 / 6) / 6 * 6)), (7, .int ((x5 / 36) - (x5 / 36) / 6 * 6)), (6, .int ((x5 / 36) / 6)), (0, .ref (ad 0)), (1, .int x1), (2, .int x2), (3, .long x3)]) X dX11_swap_295 hl rfl rfl (by decide) rfl (fun ls hl => ?_)
                          refine z_goto (tgt := 24) X dX11_swap_298 (by decide) ?_
                          exact hk24 x1 x2 x3 (x5 + 1) r6.2.1 r6.2.2 ls (lv_sub hl [5, 6, 7, 8, 0] rfl) hf
                        · have hf := (if_neg c_).symm.trans hf
                          refine z_aload_n X dX11_swap_175 rfl (lv_at hl 4 rfl) ?_
                          refine m_geta X ff_40 dX11_swap_176 ?_
                          refine z_aload_n X dX11_swap_179 rfl (lv_at hl 4 rfl) ?_
                          refine z_iconst (v := 1) X dX11_swap_180 (by decide) ?_
                          refine z_iload X dX11_swap_181 (lv_at hl 3 rfl) ?_
                          refine z_iload X dX11_swap_183 (lv_at hl 0 rfl) ?_
                          obtain ⟨r8, hc8, hf⟩ := z_bind hf
                          refine m_callVi [.int 1, .int ((x5 / 36) / 6), .int (x5 - x5 / 6 * 6)] X hl.1 (c_at D cy ad hc8) gm_at pd_at rfl ⟨by decide, by decide⟩ (Nat.le_of_ble_eq_true rfl) rfl dX11_swap_185 ?_
                          obtain ⟨hb9, hf⟩ := z_ite hf
                          refine m_iald X pa_21 hb9 dX11_swap_188 ?_
                          refine z_bipush (v := 99) X dX11_swap_189 (by decide) ?_
                          refine z_icmp_eq (tgt := 295) X dX11_swap_191 (by decide) (fun c_ => ?_) (fun c_ => ?_)
                          · have hf := (if_pos c_).symm.trans hf
                            refine z_iinc (v := x5 + 1) (k0 := 8) (lv' := [(5, .int (x5 + 1)), (9, .int (x5 - x5 / 6 * 6)), (8, .int ((x5 / 6) - (x5 / 6) / 6 * 6)), (7, .int ((x5 / 36) - (x5 / 36) / 6 * 6)), (6, .int ((x5 / 36) / 6)), (0, .ref (ad 0)), (1, .int x1), (2, .int x2), (3, .long x3)]) X dX11_swap_295 hl rfl rfl (by decide) rfl (fun ls hl => ?_)
                            refine z_goto (tgt := 24) X dX11_swap_298 (by decide) ?_
                            exact hk24 x1 x2 x3 (x5 + 1) r8.2.1 r8.2.2 ls (lv_sub hl [5, 6, 7, 8, 0] rfl) hf
                          · have hf := (if_neg c_).symm.trans hf
                            refine z_aload_n X dX11_swap_194 rfl (lv_at hl 4 rfl) ?_
                            refine m_geta X ff_40 dX11_swap_195 ?_
                            refine z_aload_n X dX11_swap_198 rfl (lv_at hl 4 rfl) ?_
                            refine z_iconst (v := 1) X dX11_swap_199 (by decide) ?_
                            refine z_iload X dX11_swap_200 (lv_at hl 2 rfl) ?_
                            refine z_iload X dX11_swap_202 (lv_at hl 1 rfl) ?_
                            obtain ⟨r10, hc10, hf⟩ := z_bind hf
                            refine m_callVi [.int 1, .int ((x5 / 36) - (x5 / 36) / 6 * 6), .int ((x5 / 6) - (x5 / 6) / 6 * 6)] X hl.1 (c_at D cy ad hc10) gm_at pd_at rfl ⟨by decide, by decide⟩ (Nat.le_of_ble_eq_true rfl) rfl dX11_swap_204 ?_
                            obtain ⟨hb11, hf⟩ := z_ite hf
                            refine m_iald X pa_21 hb11 dX11_swap_207 ?_
                            refine z_bipush (v := 99) X dX11_swap_208 (by decide) ?_
                            refine z_icmp_ne (tgt := 216) X dX11_swap_210 (by decide) (fun c_ => ?_) (fun c_ => ?_)
                            · have hf := (if_neg c_).symm.trans hf
                              refine z_aload_n X dX11_swap_216 rfl (lv_at hl 4 rfl) ?_
                              refine z_iconst (v := 1) X dX11_swap_217 (by decide) ?_
                              refine z_iload X dX11_swap_218 (lv_at hl 3 rfl) ?_
                              obtain ⟨r12, hc12, hf⟩ := z_bind hf
                              refine m_callVl [.int 1, .int ((x5 / 36) / 6)] X hl.1 (c_worthOf D cy ad hc12) gm_worthOf pd_worthOf rfl ⟨by decide, by decide⟩ (Nat.le_of_ble_eq_true rfl) rfl dX11_swap_220 ?_
                              refine z_aload_n X dX11_swap_223 rfl (lv_at hl 4 rfl) ?_
                              refine z_iconst (v := 1) X dX11_swap_224 (by decide) ?_
                              refine z_iload X dX11_swap_225 (lv_at hl 2 rfl) ?_
                              obtain ⟨r13, hc13, hf⟩ := z_bind hf
                              refine m_callVl [.int 1, .int ((x5 / 36) - (x5 / 36) / 6 * 6)] X hl.1 (c_worthOf D cy ad hc13) gm_worthOf pd_worthOf rfl ⟨by decide, by decide⟩ (Nat.le_of_ble_eq_true rfl) rfl dX11_swap_227 ?_
                              refine z_ladd X dX11_swap_230 ?_
                              refine z_lstore (lv' := [(10, .long (r12.1 + r13.1)), (9, .int (x5 - x5 / 6 * 6)), (8, .int ((x5 / 6) - (x5 / 6) / 6 * 6)), (7, .int ((x5 / 36) - (x5 / 36) / 6 * 6)), (6, .int ((x5 / 36) / 6)), (0, .ref (ad 0)), (1, .int x1), (2, .int x2), (3, .long x3), (5, .int x5)]) X dX11_swap_231 hl (by decide) rfl (fun ls hl => ?_)
                              refine z_aload_n X dX11_swap_233 rfl (lv_at hl 5 rfl) ?_
                              refine z_iload X dX11_swap_234 (lv_at hl 4 rfl) ?_
                              refine z_iload X dX11_swap_236 (lv_at hl 3 rfl) ?_
                              refine z_iload X dX11_swap_238 (lv_at hl 2 rfl) ?_
                              refine z_iload X dX11_swap_240 (lv_at hl 1 rfl) ?_
                              refine z_iconst (v := 1) X dX11_swap_242 (by decide) ?_
                              obtain ⟨r14, hc14, hf⟩ := z_bind hf
                              refine m_callVv [.int ((x5 / 36) / 6), .int ((x5 / 36) - (x5 / 36) / 6 * 6), .int ((x5 / 6) - (x5 / 6) / 6 * 6), .int (x5 - x5 / 6 * 6), .int 1] X hl.1 (c_swaps D cy ad hc14) gm_swaps pd_swaps rfl ⟨by decide, by decide⟩ (Nat.le_of_ble_eq_true rfl) rfl dX11_swap_243 ?_
                              refine z_aload_n X dX11_swap_246 rfl (lv_at hl 5 rfl) ?_
                              refine z_iconst (v := 1) X dX11_swap_247 (by decide) ?_
                              refine z_iload X dX11_swap_248 (lv_at hl 4 rfl) ?_
                              obtain ⟨r15, hc15, hf⟩ := z_bind hf
                              refine m_callVl [.int 1, .int ((x5 / 36) / 6)] X hl.1 (c_worthOf D cy ad hc15) gm_worthOf pd_worthOf rfl ⟨by decide, by decide⟩ (Nat.le_of_ble_eq_true rfl) rfl dX11_swap_250 ?_
                              refine z_aload_n X dX11_swap_253 rfl (lv_at hl 5 rfl) ?_
                              refine z_iconst (v := 1) X dX11_swap_254 (by decide) ?_
                              refine z_iload X dX11_swap_255 (lv_at hl 3 rfl) ?_
                              obtain ⟨r16, hc16, hf⟩ := z_bind hf
                              refine m_callVl [.int 1, .int ((x5 / 36) - (x5 / 36) / 6 * 6)] X hl.1 (c_worthOf D cy ad hc16) gm_worthOf pd_worthOf rfl ⟨by decide, by decide⟩ (Nat.le_of_ble_eq_true rfl) rfl dX11_swap_257 ?_
                              refine z_ladd X dX11_swap_260 ?_
                              refine z_lload X dX11_swap_261 (lv_at hl 0 rfl) ?_
                              refine z_lsub X dX11_swap_263 ?_
                              refine z_lstore (lv' := [(12, .long ((r15.1 + r16.1) - (r12.1 + r13.1))), (10, .long (r12.1 + r13.1)), (9, .int (x5 - x5 / 6 * 6)), (8, .int ((x5 / 6) - (x5 / 6) / 6 * 6)), (7, .int ((x5 / 36) - (x5 / 36) / 6 * 6)), (6, .int ((x5 / 36) / 6)), (0, .ref (ad 0)), (1, .int x1), (2, .int x2), (3, .long x3), (5, .int x5)]) X dX11_swap_264 hl (by decide) rfl (fun ls hl => ?_)
                              refine z_aload_n X dX11_swap_266 rfl (lv_at hl 6 rfl) ?_
                              refine z_iload X dX11_swap_267 (lv_at hl 5 rfl) ?_
                              refine z_iload X dX11_swap_269 (lv_at hl 4 rfl) ?_
                              refine z_iload X dX11_swap_271 (lv_at hl 3 rfl) ?_
                              refine z_iload X dX11_swap_273 (lv_at hl 2 rfl) ?_
                              refine z_iconst (v := -1) X dX11_swap_275 (by decide) ?_
                              obtain ⟨r17, hc17, hf⟩ := z_bind hf
                              refine m_callVv [.int ((x5 / 36) / 6), .int ((x5 / 36) - (x5 / 36) / 6 * 6), .int ((x5 / 6) - (x5 / 6) / 6 * 6), .int (x5 - x5 / 6 * 6), .int (-1)] X hl.1 (c_swaps D cy ad hc17) gm_swaps pd_swaps rfl ⟨by decide, by decide⟩ (Nat.le_of_ble_eq_true rfl) rfl dX11_swap_276 ?_
                              refine z_lload X dX11_swap_279 (lv_at hl 0 rfl) ?_
                              refine z_lload_n X dX11_swap_281 rfl (lv_at hl 9 rfl) ?_
                              refine z_lcmp X dX11_swap_282 ?_
                              refine z_if_gt (tgt := 289) X dX11_swap_283 (by decide) (fun c_ => ?_) (fun c_ => ?_)
                              · have hf := (if_pos c_).symm.trans hf
                                refine z_lload X dX11_swap_289 (lv_at hl 0 rfl) ?_
                                refine z_lstore_n (lv' := [(3, .long ((r15.1 + r16.1) - (r12.1 + r13.1))), (12, .long ((r15.1 + r16.1) - (r12.1 + r13.1))), (10, .long (r12.1 + r13.1)), (9, .int (x5 - x5 / 6 * 6)), (8, .int ((x5 / 6) - (x5 / 6) / 6 * 6)), (7, .int ((x5 / 36) - (x5 / 36) / 6 * 6)), (6, .int ((x5 / 36) / 6)), (0, .ref (ad 0)), (1, .int x1), (2, .int x2), (5, .int x5)]) X dX11_swap_291 rfl hl (by decide) rfl (fun ls hl => ?_)
                                refine z_iload X dX11_swap_292 (lv_at hl 10 rfl) ?_
                                refine z_istore_n (lv' := [(2, .int x5), (3, .long ((r15.1 + r16.1) - (r12.1 + r13.1))), (12, .long ((r15.1 + r16.1) - (r12.1 + r13.1))), (10, .long (r12.1 + r13.1)), (9, .int (x5 - x5 / 6 * 6)), (8, .int ((x5 / 6) - (x5 / 6) / 6 * 6)), (7, .int ((x5 / 36) - (x5 / 36) / 6 * 6)), (6, .int ((x5 / 36) / 6)), (0, .ref (ad 0)), (1, .int x1), (5, .int x5)]) X dX11_swap_294 rfl hl (by decide) rfl (fun ls hl => ?_)
                                refine z_iinc (v := x5 + 1) (k0 := 10) (lv' := [(5, .int (x5 + 1)), (2, .int x5), (3, .long ((r15.1 + r16.1) - (r12.1 + r13.1))), (12, .long ((r15.1 + r16.1) - (r12.1 + r13.1))), (10, .long (r12.1 + r13.1)), (9, .int (x5 - x5 / 6 * 6)), (8, .int ((x5 / 6) - (x5 / 6) / 6 * 6)), (7, .int ((x5 / 36) - (x5 / 36) / 6 * 6)), (6, .int ((x5 / 36) / 6)), (0, .ref (ad 0)), (1, .int x1)]) X dX11_swap_295 hl rfl rfl (by decide) rfl (fun ls hl => ?_)
                                refine z_goto (tgt := 24) X dX11_swap_298 (by decide) ?_
                                exact hk24 x1 x5 ((r15.1 + r16.1) - (r12.1 + r13.1)) (x5 + 1) r17.1 r17.2 ls (lv_sub hl [9, 10, 1, 2, 0] rfl) hf
                              · have hf := (if_neg c_).symm.trans hf
                                refine z_goto (tgt := 295) X dX11_swap_286 (by decide) ?_
                                refine z_iinc (v := x5 + 1) (k0 := 10) (lv' := [(5, .int (x5 + 1)), (12, .long ((r15.1 + r16.1) - (r12.1 + r13.1))), (10, .long (r12.1 + r13.1)), (9, .int (x5 - x5 / 6 * 6)), (8, .int ((x5 / 6) - (x5 / 6) / 6 * 6)), (7, .int ((x5 / 36) - (x5 / 36) / 6 * 6)), (6, .int ((x5 / 36) / 6)), (0, .ref (ad 0)), (1, .int x1), (2, .int x2), (3, .long x3)]) X dX11_swap_295 hl rfl rfl (by decide) rfl (fun ls hl => ?_)
                                refine z_goto (tgt := 24) X dX11_swap_298 (by decide) ?_
                                exact hk24 x1 x2 x3 (x5 + 1) r17.1 r17.2 ls (lv_sub hl [7, 8, 9, 10, 0] rfl) hf
                            · have hf := (if_pos c_).symm.trans hf
                              refine z_goto (tgt := 295) X dX11_swap_213 (by decide) ?_
                              refine z_iinc (v := x5 + 1) (k0 := 8) (lv' := [(5, .int (x5 + 1)), (9, .int (x5 - x5 / 6 * 6)), (8, .int ((x5 / 6) - (x5 / 6) / 6 * 6)), (7, .int ((x5 / 36) - (x5 / 36) / 6 * 6)), (6, .int ((x5 / 36) / 6)), (0, .ref (ad 0)), (1, .int x1), (2, .int x2), (3, .long x3)]) X dX11_swap_295 hl rfl rfl (by decide) rfl (fun ls hl => ?_)
                              refine z_goto (tgt := 24) X dX11_swap_298 (by decide) ?_
                              exact hk24 x1 x2 x3 (x5 + 1) r10.2.1 r10.2.2 ls (lv_sub hl [5, 6, 7, 8, 0] rfl) hf
                    · have hf := (if_pos c_).symm.trans hf
                      refine z_goto (tgt := 295) X dX11_swap_138 (by decide) ?_
                      refine z_iinc (v := x5 + 1) (k0 := 8) (lv' := [(5, .int (x5 + 1)), (9, .int (x5 - x5 / 6 * 6)), (8, .int ((x5 / 6) - (x5 / 6) / 6 * 6)), (7, .int ((x5 / 36) - (x5 / 36) / 6 * 6)), (6, .int ((x5 / 36) / 6)), (0, .ref (ad 0)), (1, .int x1), (2, .int x2), (3, .long x3)]) X dX11_swap_295 hl rfl rfl (by decide) rfl (fun ls hl => ?_)
                      refine z_goto (tgt := 24) X dX11_swap_298 (by decide) ?_
                      exact hk24 x1 x2 x3 (x5 + 1) r3.2.1 r3.2.2 ls (lv_sub hl [5, 6, 7, 8, 0] rfl) hf

set_option maxHeartbeats 4000000 in
set_option maxRecDepth 100000 in
theorem w_swap {M : zM} {D : va_G} {cy : Nat → ClassId} {ad : Nat → Nat} {r' : Int32 × zI × zL} (X : RX M (zR D cy ad) cX11_swap 14 RX11 5 116) (Z : RZi M (zR D cy ad) .int r'.1 r'.2.1 r'.2.2) (x1 : Int32) (V : zI) (L : zL) (ls : Array Slot) (hl : lv_has ls 14 [(0, .ref (ad 0)), (1, .int x1)]) (hf : f_swap x1 V L = some r') : RG M (zR D cy ad) V L 0 ls [] := by
  unfold f_swap at hf
  refine z_iload_n X dX11_swap_0 rfl (lv_at hl 1 rfl) ?_
  refine z_iconst (v := 0) X dX11_swap_1 (by decide) ?_
  refine z_iconst (v := 4) X dX11_swap_2 (by decide) ?_
  obtain ⟨r1, hc1, hf⟩ := z_bind hf
  refine m_callSi [.int x1, .int 0, .int 4] X hl.1 (c_is D cy ad hc1) gm_is pd_is rfl ⟨by decide, by decide⟩ (Nat.le_of_ble_eq_true rfl) rfl dX11_swap_3 ?_
  refine z_if_ne (tgt := 11) X dX11_swap_6 (by decide) (fun c_ => ?_) (fun c_ => ?_)
  · have hf := (if_neg c_).symm.trans hf
    refine z_iconst (v := -1) X dX11_swap_11 (by decide) ?_
    refine z_istore_n (lv' := [(2, .int (-1)), (0, .ref (ad 0)), (1, .int x1)]) X dX11_swap_12 rfl hl (by decide) rfl (fun ls hl => ?_)
    refine z_lconst (v := 0) X dX11_swap_13 (by decide) ?_
    refine z_lstore_n (lv' := [(3, .long 0), (2, .int (-1)), (0, .ref (ad 0)), (1, .int x1)]) X dX11_swap_14 rfl hl (by decide) rfl (fun ls hl => ?_)
    refine z_aload_n X dX11_swap_15 rfl (lv_at hl 2 rfl) ?_
    refine z_iconst (v := 1) X dX11_swap_16 (by decide) ?_
    refine z_iconst (v := 0) X dX11_swap_17 (by decide) ?_
    obtain ⟨r2, hc2, hf⟩ := z_bind hf
    refine m_callVv [.int 1, .int 0] X hl.1 (c_copies D cy ad hc2) gm_copies pd_copies rfl ⟨by decide, by decide⟩ (Nat.le_of_ble_eq_true rfl) rfl dX11_swap_18 ?_
    refine z_iconst (v := 0) X dX11_swap_21 (by decide) ?_
    refine z_istore (lv' := [(5, .int 0), (3, .long 0), (2, .int (-1)), (0, .ref (ad 0)), (1, .int x1)]) X dX11_swap_22 hl (by decide) rfl (fun ls hl => ?_)
    exact w_swap_24 X Z FU x1 (-1) 0 0 r2.1 r2.2 ls (lv_sub hl [3, 4, 2, 1, 0] rfl) hf
  · have hf := (if_pos c_).symm.trans hf
    refine z_iconst (v := -1) X dX11_swap_9 (by decide) ?_
    exact m_iret X Z hf rfl dX11_swap_10

theorem c_swap (D : va_G) (cy : Nat → ClassId) (ad : Nat → Nat) {x1 : Int32} {V : zI} {L : zL} {r' : Int32 × zI × zL} (hf : f_swap x1 V L = some r') : RMi (zR D cy ad) yX11_swap cX11_swap 14 .int 5 116 [.ref (ad 0), .int x1] V L r'.1 r'.2.1 r'.2.2 :=
  RMi.of (by decide) zR_nd (Nat.le_of_ble_eq_true rfl) (fun M X Z ls hl => w_swap X Z x1 V L ls hl hf)
