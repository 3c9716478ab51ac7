theorem zl_str {s : State} {b : Nat} (hts : ∀ w ∈ lw_tbl, w.before #[Value.ref b] s = true) (hgv : (Jvm.Cond.and given_1 narrow_1).before #[Value.ref b] s = true) : ∃ sa sb : Nat, zStr (fun q => s.heap.size ≤ q) sa sb s s.heap := by
  have hfl := flat_of_before _ hgv
  have hA : ∀ a : Nat, a < s.heap.size → ¬ (fun q : Nat => s.heap.size ≤ q) a := fun a h h' => Nat.not_le.mpr h h'
  have m1 : Cond.exactly (.string "ReplyStamps$Tokens" 47) "java/lang/String" ∈ flatC (Jvm.Cond.and given_1 narrow_1) := by decide +kernel
  have m2 : Cond.eq (.field (.string "ReplyStamps$Tokens" 47) "java/lang/String" "coder" "B") (.int 0) ∈ flatC (Jvm.Cond.and given_1 narrow_1) := by decide +kernel
  have m3 : Cond.arrayOf (.field (.string "ReplyStamps$Tokens" 47) "java/lang/String" "value" "[B") .byte ∈ flatC (Jvm.Cond.and given_1 narrow_1) := by decide +kernel
  have m4 : Cond.eq (.length (.field (.string "ReplyStamps$Tokens" 47) "java/lang/String" "value" "[B")) (.int (Int32.ofNat 104)) ∈ flatC (Jvm.Cond.and given_1 narrow_1) := by decide +kernel
  have m5 : ∀ j : Nat, j < 104 → Cond.eq (.elem (.field (.string "ReplyStamps$Tokens" 47) "java/lang/String" "value" "[B") (.int (Int32.ofNat j))) (.int (zsb.getD j 0)) ∈ flatC (Jvm.Cond.and given_1 narrow_1) := by decide +kernel
  have m6 : Cond.eq (.static "java/lang/String" "COMPACT_STRINGS" "Z") (.int 1) ∈ flatC (Jvm.Cond.and given_1 narrow_1) := by decide +kernel
  have m7 : Cond.isRef (.static "jdk/internal/util/Preconditions" "SIOOBE_FORMATTER" "Ljava/util/function/BiFunction;") ∈ flatC (Jvm.Cond.and given_1 narrow_1) := by decide +kernel
  obtain ⟨a, c, cA, kA, q1, q2, q3, q4, q5, q6, -⟩ := Cond.exactly_spec (args := #[Value.ref b]) (first := s) (o := none) (s := s) (idx := []) (t := .string "ReplyStamps$Tokens" 47) (cls := "java/lang/String") (hfl _ m1)
  obtain ⟨t, ht, hT⟩ := va_Tof (f := fun j => .int (zsb.getD j 0)) (N := 104) (A := fun q => s.heap.size ≤ q) (by decide) (hfl _ m3) (va_eqt (hfl _ m4)) (fun j hj => va_eqt (hfl _ (m5 j hj))) hA
  obtain ⟨v, hv, hvr⟩ := Cond.isRef_spec (hfl _ m7)
  refine ⟨a, t, vk_R.of (hts _ (zin2 (List.mem_of_getElem? (i := 84) (by decide +kernel)))) q1, va_Oof (hfl _ m1) q1 hA, vk_OFof q1 (va_eqt (hfl _ m2)) hA, vk_OFof q1 ht hA, hT, va_Zof (hts _ (zin2 (List.mem_of_getElem? (i := 94) (by decide +kernel)))) (hts _ (zin1 (List.mem_of_getElem? (i := 10) (by decide +kernel)))) (va_eqi (hfl _ m6)) hA, v, ?_, va_Zof (hts _ (zin2 (List.mem_of_getElem? (i := 110) (by decide +kernel)))) (hts _ (zin1 (List.mem_of_getElem? (i := 12) (by decide +kernel)))) hv hA⟩
  cases v <;> simp_all [Value.isRef]
theorem zl_arr {s : State} {args : Array Value} {ty : FieldType} (h : (Cond.arrayClass ty).before args s = true) : ∃ cA : ClassId, ArrOfT s cA ty ∧ s.vm.findClass ("[" ++ ty.toString) = some cA := by
  obtain ⟨c, k, comp, h1, h2, h3⟩ := Cond.arrayClass_spec h
  exact ⟨c, fun n z => ⟨fun k h => (by cases h), k, h2, comp, h3⟩, h1⟩
theorem zl_nb {w : Cond} (h : zNb w = true) : w.onTables = true := by
  cases w <;> first | rfl | (simp [zNb] at h)
theorem zl_known {s : State} {args : Array Value} (hts : ∀ w ∈ zTB, w.before args s = true) : ∃ D : va_G, ∀ (k : Nat) (q : vw_C), zcl[k]? = some q → u_Kn s q.1 q.2.1 q.2.2 (D.1 k) (D.2 k) := by
  obtain ⟨c0, i0, h0⟩ := u_known (C := RX0) (T := TX0) (N := 6) (n := 6) hts ci_X0.2.2 (hts (.instantiable RX0 6) (zmT4 80 (by decide +kernel) rfl))
  obtain ⟨c1, i1, h1⟩ := u_known (C := RX1) (T := TX1) (N := 1) (n := 1) hts ci_X1.2.2 (hts (.instantiable RX1 1) (zmT1 184 (by decide +kernel) rfl))
  obtain ⟨c2, i2, h2⟩ := u_known (C := RX2) (T := TX2) (N := 8) (n := 8) hts ci_X2.2.2 (hts (.instantiable RX2 8) (zmT3 231 (by decide +kernel) rfl))
  obtain ⟨c3, i3, h3⟩ := u_known (C := RX4) (T := TX4) (N := 1) (n := 1) hts ci_X4.2.2 (hts (.instantiable RX4 1) (zmT1 174 (by decide +kernel) rfl))
  obtain ⟨c4, i4, h4⟩ := u_known (C := RX5) (T := TX5) (N := 12) (n := 12) hts ci_X5.2.2 (hts (.instantiable RX5 12) (zmT2 28 (by decide +kernel) rfl))
  obtain ⟨c5, i5, h5⟩ := u_known (C := RX7) (T := TX7) (N := 12) (n := 12) hts ci_X7.2.2 (hts (.instantiable RX7 12) (zmT1 101 (by decide +kernel) rfl))
  obtain ⟨c6, i6, h6⟩ := u_known (C := RX8) (T := TX8) (N := 4) (n := 4) hts ci_X8.2.2 (hts (.instantiable RX8 4) (zmT2 36 (by decide +kernel) rfl))
  obtain ⟨c7, i7, h7⟩ := u_known (C := RX9) (T := TX9) (N := 11) (n := 11) hts ci_X9.2.2 (hts (.instantiable RX9 11) (zmT1 29 (by decide +kernel) rfl))
  obtain ⟨c8, i8, h8⟩ := u_known (C := RX10) (T := TX10) (N := 17) (n := 17) hts ci_X10.2.2 (hts (.instantiable RX10 17) (zmT1 21 (by decide +kernel) rfl))
  obtain ⟨c9, i9, h9⟩ := u_known (C := RX11) (T := TX11) (N := 65) (n := 65) hts ci_X11.2.2 (hts (.instantiable RX11 65) (zmT5 1 (by decide +kernel) rfl))
  refine ⟨(fun k => [c0, c1, c2, c3, c4, c5, c6, c7, c8, c9].getD k c0, fun k => [i0, i1, i2, i3, i4, i5, i6, i7, i8, i9].getD k i0), ?_⟩
  intro k q hq
  match k, hq with
  | 0, hq => cases hq; exact h0
  | 1, hq => cases hq; exact h1
  | 2, hq => cases hq; exact h2
  | 3, hq => cases hq; exact h3
  | 4, hq => cases hq; exact h4
  | 5, hq => cases hq; exact h5
  | 6, hq => cases hq; exact h6
  | 7, hq => cases hq; exact h7
  | 8, hq => cases hq; exact h8
  | 9, hq => cases hq; exact h9
  | k + 10, hq => simp [zcl] at hq
set_option maxHeartbeats 4000000 in
set_option maxRecDepth 100000 in
theorem zl_start {I : Nat → zS → zI → zL → Prop} (hI : LI I)
    (hinit : ∃ r1 : zS, f_X10_init 0 1 (fun _ => 8) (fun _ => 0) (fun _ _ => none) (fun _ _ => 0) (fun _ _ => 0) = some r1 ∧ r1.2.1 ≤ 1000 ∧ r1.2.2.1 ≤ 10000 ∧ ∃ r2 : zS, f_X11_init 0 1 (fun _ => 9) (fun _ => 0) (fun _ _ => none) (fun _ _ => 0) (fun _ _ => 0) = some r2 ∧ r2.2.1 ≤ 1000 ∧ r2.2.2.1 ≤ 50000 ∧ (r2.1 = 36 ∧ ∀ w, w < 36 → r2.2.2.2.1 w = zR_K w ∧ r2.2.2.2.2.1 w = zR_N w ∧ r2.2.2.2.2.2.1 w = zR_G w) ∧ I 0 (r1.1, r1.2.1 + r2.2.1 + 2, r1.2.2.1 + r2.2.2.1 + 82, r1.2.2.2) r2.2.2.2.2.2.2.1 r2.2.2.2.2.2.2.2)
    {p : Program} {e : Env} {s : State} {m : MethodId} {below : List Frame} {meth : Method} {c : Code} (l : Launch) {b L : Nat} {xs : Nat → Int32} (hL : L ≤ 3072) (C0 : lw_At p s m meth c b L xs) : W p l e room_1 s m #[Value.ref b] below meth c s.heap [] 0 0 (lw_Z below #[Value.ref b] s) (entryFrame m ([Value.ref b] : List Value).toArray 4) := by
  obtain ⟨hx, hb, hr, hml, hown, hts, hX, hbl, hlocks, hgv⟩ := id C0
  obtain ⟨r1, hf1, hr1c, hr1q, r2, hf2, hr2c, hr2q, ⟨hr2n, hr2K⟩, hI0⟩ := hinit
  have htz : ∀ w ∈ zTB, w.before #[Value.ref b] s = true := fun w hw => hts w (List.mem_filter.mp hw).1
  obtain ⟨sa, sb, hStr⟩ := zl_str hts hgv
  obtain ⟨D, hKn⟩ := zl_known htz
  obtain ⟨cI, aI, fI⟩ := zl_arr (htz (.arrayClass .int) (zmT1 99 (by decide +kernel) rfl))
  obtain ⟨cB, aB, fB⟩ := zl_arr (htz (.arrayClass .byte) (zmT1 98 (by decide +kernel) rfl))
  obtain ⟨cZ, aZ, fZ⟩ := zl_arr (htz (.arrayClass .boolean) (zmT4 106 (by decide +kernel) rfl))
  obtain ⟨cJ, aJ, fJ⟩ := zl_arr (htz (.arrayClass .long) (zmT4 105 (by decide +kernel) rfl))
  have hov : (Cond.arrayOver (.object RX7)).before #[Value.ref b] s = true := hts _ (zin1 (List.mem_of_getElem? (i := 194) (by decide +kernel)))
  obtain ⟨comp, cQ, kQ, o1, o2, o3, o4, o5⟩ := Cond.arrayOver_spec hov
  obtain ⟨cy, e0, e1, e2, e3, e4⟩ : ∃ cy : Nat → ClassId, cy 100 = cI ∧ cy 101 = cB ∧ cy 102 = cZ ∧ cy 103 = cJ ∧ cy 104 = cQ := ⟨fun k => if k = 100 then cI else if k = 101 then cB else if k = 102 then cZ else if k = 103 then cJ else cQ, rfl, rfl, rfl, rfl, rfl⟩
  have hSt : zSt s cy := ⟨⟨by rw [e4]; exact fun n z => ⟨fun k h => (by cases h), kQ, o3, comp, o4⟩, by rw [e4]; exact ⟨kQ, comp, o3, o4, o1, o5⟩⟩, va_AO.of hov⟩
  have hK : va_K D zcl [(cy 100, .int), (cy 101, .byte), (cy 102, .boolean), (cy 103, .long)] s := by
    refine ⟨hKn, fun k q hq => ?_⟩
    match k, hq with
    | 0, hq => cases hq; exact ⟨by rw [e0]; exact aI, by rw [e0]; exact fI⟩
    | 1, hq => cases hq; exact ⟨by rw [e1]; exact aB, by rw [e1]; exact fB⟩
    | 2, hq => cases hq; exact ⟨by rw [e2]; exact aZ, by rw [e2]; exact fZ⟩
    | 3, hq => cases hq; exact ⟨by rw [e3]; exact aJ, by rw [e3]; exact fJ⟩
    | k + 4, hq => simp at hq
  have hNf : zNf s := fun w hw => va_Nw.of (zl_nb (List.mem_filter.mp hw).2) (hts w (List.mem_filter.mp hw).1)
  have hl := lv_entry ([.ref b]) (n := 4) (Nat.le_of_ble_eq_true rfl)
  rw [lg_entry_eq]
  generalize (lg_sl ([.ref b]) ++ List.replicate (4 - (lg_sl ([.ref b])).length) Slot.unset).toArray = ls at hl ⊢
  have hl : lv_has ls 4 [(0, .ref b)] := hl
  have hP0 : va_P D zcl ([] ++ [] : va_W) s.heap := fun k q h => by simp at h
  have hD0 : va_D (fun q : Nat => s.heap.size ≤ q) ([] ++ [] : va_W) := ⟨fun i j p q h => by simp at h, fun k q h => by simp at h⟩
  obtain ⟨M, eM⟩ : ∃ M : zM, M = (p, l, e, room_1, s, m, #[Value.ref b], below, meth, c, lw_Z below #[Value.ref b] s, (fun q => s.heap.size ≤ q), 0, 0) := ⟨_, rfl⟩
  have Z : LZ M b := by rw [eM]; exact ⟨rfl, rfl, hr, hlocks, rfl⟩
  have hM : M.2.2.2.1.cells = 600000 ∧ M.2.2.2.1.slots = 7302250 := by rw [eM]; exact ⟨rfl, rfl⟩
  have X : ∀ c' q', c' ≤ 600000 → q' ≤ 7302250 → LX (zMb M c' q') D cy cL_law 4 RL 200 4000 b L xs sa sb := by
    intro c' q' h1 h2
    rw [eM]
    exact ⟨⟨⟨hx, hb, hml, hown, htz⟩, hK, fun q => Iff.rfl⟩, ⟨Nat.le_of_ble_eq_true rfl, Nat.le_of_ble_eq_true rfl⟩, ⟨h1, h2⟩, ⟨hX, hbl⟩, hNf, hSt, hStr⟩
  suffices h : LG (zMb M 0 0) D [] [] 0 ls [] by
    rw [eM] at h
    exact h s.heap [] hP0 hD0 va_S.rf
  refine zl_new (X 0 0 (by omega) (by omega)) ci_X10 cg_X10.1 dv_X10 ln_C ⟨by omega, by omega⟩ dL_law_0 (fun a1 => ?_)
  refine zl_swap ?_
  rw [List.nil_append, zl_pool1 (D := D) (cy := cy) (by decide)]
  refine zl_dup (X _ _ (by omega) (by omega)) dL_law_3 rfl ?_
  refine zl_initL [] (X _ _ (by omega) (by omega)) hl.1 (c_X10_init D cy (fun _ => a1) zl_wf1 ⟨Nat.zero_lt_one, rfl⟩ hf1) ⟨Nat.zero_lt_one, rfl⟩ lm_C_init lg_C_init rfl lp_C_init ⟨by decide, by decide⟩ (Nat.le_of_ble_eq_true rfl) rfl ⟨by omega, by omega⟩ dL_law_4 (fun ad had hWF hn1 hK1 => ?_)
  refine zl_astore_n (lv' := [(1, .ref a1), (0, .ref b)]) (X _ _ (by omega) (by omega)) dL_law_7 rfl hl (by decide) rfl (fun ls hl => ?_)
  refine zl_new (X _ _ (by omega) (by omega)) ci_X11 cg_X11.1 dv_X11 ln_M ⟨by omega, by omega⟩ dL_law_8 (fun a2 => ?_)
  rw [List.nil_append, zl_pool1 (D := D) (cy := cy) (by decide)]
  refine zl_dup (X _ _ (by omega) (by omega)) dL_law_11 rfl ?_
  refine zl_initR [] (X _ _ (by omega) (by omega)) hl.1 (c_X11_init D cy (fun _ => a2) zl_wf1 ⟨Nat.zero_lt_one, rfl⟩ hf2) ⟨Nat.zero_lt_one, rfl⟩ lm_M_init lg_M_init rfl lp_M_init ⟨by decide, by decide⟩ (Nat.le_of_ble_eq_true rfl) rfl ⟨by omega, by omega⟩ dL_law_12 (fun ad2 had2 hWF2 hn2 hK2 => ?_)
  have hw : z_w (zC D cy ad2 r2.1 r2.2.2.2.1 r2.2.2.2.2.1 r2.2.2.2.2.2.1) r2.2.2.2.2.2.2.1 r2.2.2.2.2.2.2.2 = z_w (zR D cy ad2) r2.2.2.2.2.2.2.1 r2.2.2.2.2.2.2.2 := by
    show (List.range r2.1).map _ = (List.range 36).map _
    rw [hr2n]
    refine List.map_congr_left (fun w hw => ?_)
    obtain ⟨g1, g2, g3⟩ := hr2K w (List.mem_range.mp hw)
    show (ad2 w, z_cell _ _ _ w) = (ad2 w, z_cell _ _ _ w)
    simp only [z_cell, g1, g2, g3]
  rw [hw]
  refine zl_astore_n (lv' := [(2, .ref a2), (1, .ref a1), (0, .ref b)]) (X _ _ (by omega) (by omega)) dL_law_15 rfl hl (by decide) rfl (fun ls hl => ?_)
  refine zl_iconst (v := 0) (X _ _ (by omega) (by omega)) dL_law_16 (by decide) ?_
  refine zl_istore_n (lv' := [(3, .int 0), (2, .ref a2), (1, .ref a1), (0, .ref b)]) (X _ _ (by omega) (by omega)) dL_law_17 rfl hl (by decide) rfl (fun ls hl => ?_)
  have ea : ad 0 = a1 := had 0 (by omega)
  have ea2 : ad2 0 = a2 := had2 0 (by omega)
  have hl2 : lHas ls b 0 (ad 0) (ad2 0) := by
    rw [ea, ea2]
    exact lv_sub hl [3, 2, 1, 0] rfl
  have hgo := law_loop hI (M := M) (D := D) (cy := cy) (sa := sa) (sb := sb) (xs := xs) (ad2 := ad2) hM Z hL (L + 1) 0 (r1.1, r1.2.1 + r2.2.1 + 2, r1.2.2.1 + r2.2.2.1 + 82, r1.2.2.2) _ _ ad ls (by omega) (X _ _ (by dsimp only; omega) (by dsimp only; omega)) hI0 hWF hl2 (by omega)
  have e1 : 0 + 1 + r1.2.1 + 1 + r2.2.1 = r1.2.1 + r2.2.1 + 2 := by omega
  have e2 : 0 + 17 + r1.2.2.1 + 65 + r2.2.2.1 = r1.2.2.1 + r2.2.2.1 + 82 := by omega
  rw [e1, e2]
  exact hgo
