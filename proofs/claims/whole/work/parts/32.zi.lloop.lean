def LZ (M : zM) (b : Nat) : Prop := match M with
  | (_, _, _, Ro, s, _, args, below, meth, _, Q, _, _, _) => Ro = room_1 ∧ args = #[Value.ref b] ∧ meth.sig.returnType = ret ∧ meth.locks = false ∧ Q = lw_Z below #[Value.ref b] s
theorem zl_end {M : zM} {w1 w2 : va_W} {D : va_G} {cy : Nat → ClassId} {b0 Lx : Nat} {xs : Nat → Int32} {sa sb c q nL fr lo pc : Nat} {own : String} {ls : Array Slot} (X : LX (zMb M c q) D cy code nL own fr lo b0 Lx xs sa sb) (Z : LZ M b0) (hc : c ≤ 600000) (hq : q ≤ 7302250) (d : decode code pc = .ok (.ireturn, 1)) : LG (zMb M c q) D w1 w2 pc ls [.int 1] := by
  obtain ⟨p, l, e, Ro, s, m, args, below, meth, co, Q, A, c00, q00⟩ := M
  obtain ⟨rfl, rfl, hr, hlk, rfl⟩ := Z
  intro H locs hP hD hS
  exact va_forget (fun q h => (X.1.2.2 q.base).mp (hS.2.2 q h)) (W.widen hc hq (lw_ret X.1.1.1 X.1.1.2.1 hr hlk d))
theorem zl_and31 (x : Int32) : ∃ k : Nat, k < 32 ∧ (x &&& 31).toInt = (k : Int) := by
  have h : (x &&& 31).toBitVec.toNat ≤ 31 := by
    rw [Int32.toBitVec_and, BitVec.toNat_and]
    exact Nat.and_le_right
  refine ⟨(x &&& 31).toBitVec.toNat, by omega, ?_⟩
  show (x &&& 31).toBitVec.toInt = _
  rw [BitVec.toInt_eq_toNat_of_lt (by omega)]
theorem zl_cmp {j Lx : Nat} (hL : Lx ≤ 3072) (hj : 6 * j ≤ 4000) : (Int32.ofNat Lx - 6 < Int32.ofNat (6 * j)) ↔ Lx < 6 * j + 6 := by
  have h1 : (Int32.ofNat (6 * j)).toInt = ((6 * j : Nat) : Int) := Int32.toInt_ofNat_of_lt (by omega)
  have h2 : (Int32.ofNat Lx).toInt = (Lx : Int) := Int32.toInt_ofNat_of_lt (by omega)
  rw [Int32.lt_iff_toInt_lt, h1, Int32.toInt_sub, h2]
  have h6 : (6 : Int32).toInt = 6 := rfl
  rw [h6, Int.bmod_def]
  omega
theorem zl_ix0 {j Lx : Nat} (h : 6 * j + 6 ≤ Lx) (hL : Lx ≤ 3072) : inB (Int32.ofNat (6 * j)) Lx ∧ (Int32.ofNat (6 * j)).toNatClampNeg = 6 * j := by
  have := zl_ix (t := 0) h hL (by decide)
  rw [show Int32.ofNat (6 * j) + Int32.ofNat 0 = Int32.ofNat (6 * j) from (Int32.ofNat_add _ _).symm] at this
  exact this
theorem zl_six {j : Nat} : Int32.ofNat (6 * j) + Int32.ofInt 6 = Int32.ofNat (6 * (j + 1)) := by
  rw [show Int32.ofInt 6 = Int32.ofNat 6 from rfl, ← Int32.ofNat_add]
  rfl
def zl_tgt : List Nat := [172, 235, 258, 271, 294, 317, 350, 393, 426, 449, 502, 535, 548, 571, 594, 637, 670, 693, 706, 729, 752, 775, 818, 851, 884, 897, 920, 953, 966, 989, 1002]
theorem zl_cases {I : Nat → zS → zI → zL → Prop} (hI : LI I) : ∀ k, k < 31 → lCase I k (zl_tgt.getD k 0)
  | 0, _ => lc_feed hI
  | 1, _ => lc_end hI
  | 2, _ => lc_union hI
  | 3, _ => lc_fault hI
  | 4, _ => lc_has hI
  | 5, _ => lc_letter hI
  | 6, _ => lc_pair hI
  | 7, _ => lc_mail hI
  | 8, _ => lc_writes hI
  | 9, _ => lc_later hI
  | 10, _ => lc_comes hI
  | 11, _ => lc_silent hI
  | 12, _ => lc_word hI
  | 13, _ => lc_wide hI
  | 14, _ => lc_cut hI
  | 15, _ => lc_ring hI
  | 16, _ => lc_swap hI
  | 17, _ => lc_bag hI
  | 18, _ => lc_whose hI
  | 19, _ => lc_days hI
  | 20, _ => lc_chance hI
  | 21, _ => lc_give hI
  | 22, _ => lc_find hI
  | 23, _ => lc_burn hI
  | 24, _ => lc_undo hI
  | 25, _ => lc_seed hI
  | 26, _ => lc_kept hI
  | 27, _ => lc_image hI
  | 28, _ => lc_octet hI
  | 29, _ => lc_on hI
  | 30, _ => lc_status hI
  | k + 31, h => absurd h (by omega)
def zl_off : List Int := [139, 202, 225, 238, 261, 284, 317, 360, 393, 416, 469, 502, 515, 538, 561, 604, 637, 660, 673, 696, 719, 742, 785, 818, 851, 864, 887, 920, 933, 956, 969]
theorem zl_offs : ∀ k : Nat, k < 31 → (#[139, 202, 225, 238, 261, 284, 317, 360, 393, 416, 469, 502, 515, 538, 561, 604, 637, 660, 673, 696, 719, 742, 785, 818, 851, 864, 887, 920, 933, 956, 969] : Array Int)[((k : Int) - 0).toNat]? = some (zl_off.getD k 0) ∧ (33 : Int) + zl_off.getD k 0 = ((zl_tgt.getD k 0 : Nat) : Int) := by decide
set_option maxHeartbeats 4000000 in
set_option maxRecDepth 100000 in
theorem law_loop {I : Nat → zS → zI → zL → Prop} (hI : LI I) {M : zM} {D : va_G} {cy : Nat → ClassId} {b0 Lx : Nat} {xs : Nat → Int32} {sa sb : Nat} {ad2 : Nat → Nat} (hM : M.2.2.2.1.cells = 600000 ∧ M.2.2.2.1.slots = 7302250) (Z : LZ M b0) (hL : Lx ≤ 3072) : ∀ (n j : Nat) (S : zS) (V : zI) (L : zL) (ad : Nat → Nat) (ls : Array Slot), Lx < 6 * j + n → LX (zMb M S.2.1 S.2.2.1) D cy cL_law 4 RL 200 4000 b0 Lx xs sa sb → I j S V L → zWF S.1 S.2.2.2.1 S.2.2.2.2.2.1 → lHas ls b0 j (ad 0) (ad2 0) → 6 * j ≤ Lx + 6 → lPt M D cy ad ad2 S V L 18 ls := by
  intro n
  induction n with
  | zero =>
    intro j S V L ad ls hn X hS hWF hl hj0
    obtain ⟨h0, hc0, hq0⟩ := hI.1 _ _ _ _ hS
    refine zl_iload_n X dL_law_18 rfl (lv_at hl 3 rfl) ?_
    refine zl_aload_n X dL_law_19 rfl (lv_at hl 0 rfl) ?_
    refine zl_slen X dL_law_20 ?_
    refine zl_bipush (v := 6) X dL_law_21 (by decide) ?_
    refine zl_isub X dL_law_23 ?_
    refine zl_icmp_gt (tgt := 1031) X dL_law_24 (by decide) (fun c_ => ?_) (fun c_ => absurd ((zl_cmp hL (by omega)).mpr (by omega)) c_)
    refine zl_iconst (v := 1) X dL_law_1031 (by decide) ?_
    exact zl_end X Z hc0 hq0 dL_law_1032
  | succ n ih =>
    intro j S V L ad ls hn X hS hWF hl hj0
    obtain ⟨h0, hc0, hq0⟩ := hI.1 _ _ _ _ hS
    refine zl_iload_n X dL_law_18 rfl (lv_at hl 3 rfl) ?_
    refine zl_aload_n X dL_law_19 rfl (lv_at hl 0 rfl) ?_
    refine zl_slen X dL_law_20 ?_
    refine zl_bipush (v := 6) X dL_law_21 (by decide) ?_
    refine zl_isub X dL_law_23 ?_
    refine zl_icmp_gt (tgt := 1031) X dL_law_24 (by decide) (fun c_ => ?_) (fun c_ => ?_)
    · refine zl_iconst (v := 1) X dL_law_1031 (by decide) ?_
      exact zl_end X Z hc0 hq0 dL_law_1032
    · have hj : 6 * j + 6 ≤ Lx := by
        have := mt (zl_cmp hL (j := j) (by omega)).mpr c_
        omega
      have next : ∀ S' V' L' ad', I (j + 1) S' V' L' → zWF S'.1 S'.2.2.2.1 S'.2.2.2.2.2.1 → ad' 0 = ad 0 → lPt M D cy ad' ad2 S' V' L' 1025 ls := by
        intro S' V' L' ad' hS2 hWF2 had
        obtain ⟨-, hc1, hq1⟩ := hI.1 _ _ _ _ hS2
        have X2 := LX.at X (c' := S'.2.1) (q' := S'.2.2.1) ⟨by rw [hM.1]; exact hc1, by rw [hM.2]; exact hq1⟩
        refine zl_iinc (v := Int32.ofNat (6 * j) + Int32.ofInt 6) (k0 := 3) (lv' := [(3, .int (Int32.ofNat (6 * j) + Int32.ofInt 6)), (0, .ref b0), (1, .ref (ad 0)), (2, .ref (ad2 0))]) X2 dL_law_1025 hl rfl rfl (by decide) rfl (fun ls hl => ?_)
        refine zl_goto (tgt := 18) X2 dL_law_1028 (by decide) ?_
        refine ih (j + 1) S' V' L' ad' ls (by omega) X2 hS2 hWF2 ?_ (by omega)
        have hl2 := lv_sub hl [1, 2, 3, 0] rfl
        rw [zl_six] at hl2
        rw [had]
        exact hl2
      refine zl_aload_n X dL_law_27 rfl (lv_at hl 0 rfl) ?_
      refine zl_iload_n X dL_law_28 rfl (lv_at hl 3 rfl) ?_
      refine zl_sldK X (zl_ix0 hj hL) dL_law_29 ?_
      refine zl_bipush (v := 31) X dL_law_30 (by decide) ?_
      refine zl_iand X dL_law_32 ?_
      obtain ⟨k, hk, hx⟩ := zl_and31 (xs (6 * j))
      by_cases hk31 : k < 31
      · obtain ⟨ho, ht⟩ := zl_offs k hk31
        refine zl_tabIn (tgt := zl_tgt.getD k 0) X zl_swrow (by rw [hx]; omega) (by rw [hx]; omega) (by rw [hx]; exact ho) ht ?_
        exact zl_cases hI k hk31 X hM hL hj hS hWF hl next
      · refine zl_tabOut (tgt := 1025) X zl_swrow (Or.inr (by rw [hx]; omega)) (by decide) ?_
        exact next S V L ad (hI.2.2 _ _ _ _ hS) hWF rfl
