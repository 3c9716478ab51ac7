section
variable {n : Nat} {K N : Nat → Nat} {G : zG} {V R : zI} {L M : zL} {u b f0 cnt acts x : Nat} {pl : Nat → Nat} {U : aU} {A : aS} {hi : Nat → aS} {o q tw : Nat} {md : Option (Nat × Nat)} {ofr : Nat → Nat} {can met : Nat → Bool}
theorem Q_tbt {p : Nat} (ho : o < 68719476736) (hp : p < 63) : (lg_cmp (((qI o).toUInt64 >>> ((qi p).toInt64.toUInt64 &&& Int64.toUInt64 63)).toInt64 &&& 1) 0 = qi 0) ↔ o.testBit p = false := by
  have hd : o / 2 ^ p ≤ o := Nat.div_le_self _ _
  show (lg_cmp _ 0 = 0) ↔ _
  rw [lg_cmp_eq, Q_ushr (by omega) (by omega)]
  show qI (o / 2 ^ p) &&& qI 1 = qI 0 ↔ _
  have hb := bitN_b o p
  rw [Q_and (by omega) (by omega), Nat.and_one_is_mod, Q_eq (by omega) (by omega)]
  exact bitN_0
/-- offers below p -/
def offP (V : zI) (q p cnt : Nat) (ofr : Nat → Nat) (can : Nat → Bool) : Prop := cnt ≤ p ∧ V q 1 = qi cnt ∧ (∀ i, i < cnt → V (q + 1) i = qi (ofr i) ∧ ofr i < p ∧ can (ofr i) = true) ∧ (∀ i j, i < j → j < cnt → ofr i < ofr j) ∧ ∀ p', p' < p → can p' = true → ∃ i, i < cnt ∧ ofr i = p'
theorem offP_n {p : Nat} (h : offP V q p cnt ofr can) (hc : can p = false) : offP V q (p + 1) cnt ofr can := by
  obtain ⟨h1, h2, h3, h4, h5⟩ := h
  refine ⟨by omega, h2, fun i hi => ⟨(h3 i hi).1, by have := (h3 i hi).2.1; omega, (h3 i hi).2.2⟩, h4, fun p' hp' hc' => ?_⟩
  by_cases e : p' = p
  · subst e; rw [hc] at hc'; cases hc'
  · exact h5 p' (by omega) hc'
theorem cs_offer {p : Nat} (hf : fwS N G q) (h : offP V q p cnt ofr can) (hp : p < 36) (hc : can p = true) : zW (f_X2_offer N G q (qi p) V L) (fun r => offP r.1 q (p + 1) (cnt + 1) (nu ofr cnt p) can ∧ (∀ w, w ≠ q → w ≠ q + 1 → r.1 w = V w) ∧ (∀ j, j ≠ 1 → r.1 q j = V q j)) := by
  obtain ⟨k0, k2, n1, n2⟩ := id hf
  obtain ⟨h1, h2, h3, h4, h5⟩ := h
  unfold f_X2_offer g_X2_offer
  rw [k0, o_bind]
  simp (disch := omega) only [h2, n1, ↓reduceIte, o_bind, and_true, true_and, and_false, false_and, or_true, true_or, or_false, false_or, not_true, not_false_eq_true, not_false_iff, ne_eq, Nat.reduceAdd, Nat.reduceMul, Nat.reduceSub, Nat.reduceDiv, Nat.reduceMod, Nat.reduceLT, Nat.reduceLeDiff, Nat.reduceEqDiff, Nat.not_lt, Nat.not_le, q_lit, ↓q_m1, q_om, q_on, q_add, q_mul, q_sub, q_div, q_md, q_ltT, q_ltF, q_leT, q_leF, q_eqT, q_eqF, q_inT, q_inF, q_nn, q_mlt, q_ltm, q_mle, q_lem, q_nem, q_mne, z_same, z_neP, z_neK, zL_same, zL_neP, zL_neK, zr_same, zr_ne]
  refine zW_some ?_
  dsimp only
  refine ⟨⟨by omega, z_same, fun i hi => ?_, fun i j hij hj => ?_, fun p' hp' hc' => ?_⟩, fun w w1 w2 => by rw [z_neP w1, z_neP w2], fun j j1 => by rw [z_neK j1, z_neP (by omega)]⟩
  · unfold nu
    by_cases hic : i = cnt
    · subst hic
      rw [if_pos rfl, z_neP (by omega), z_same]
      exact ⟨rfl, by omega, hc⟩
    · rw [if_neg hic, z_neP (by omega), z_neK hic]
      have := h3 i (by omega)
      exact ⟨this.1, by omega, this.2.2⟩
  · unfold nu
    by_cases hjc : j = cnt
    · rw [if_pos hjc, if_neg (by omega)]
      exact (h3 i (by omega)).2.1
    · rw [if_neg hjc, if_neg (by omega)]
      exact h4 i j hij (by omega)
  · unfold nu
    by_cases e : p' = p
    · subst e
      exact ⟨cnt, by omega, if_pos rfl⟩
    · obtain ⟨i, hi, he⟩ := h5 p' (by omega) hc'
      exact ⟨i, by omega, by rw [if_neg (by omega)]; exact he⟩
theorem offP_C (h : offP V q 36 cnt ofr can) : offC V q cnt ofr can := h
def ansC (V : zI) (q : Nat) (ans : Option (List Nat)) : Prop := match ans with
  | none => V q 3 = qm
  | some l => V q 3 = qi l.length ∧ ∀ k, k < l.length → V (q + 2) k = qi (l.getD k 0)
set_option maxHeartbeats 4000000 in
theorem cs_seekW (hf : fwS N G q) (hq : u + 4 ≤ q) (hu : unS N G u) (hC : UC N G V u U) (hU : UB U) (ho : o < 68719476736) (e1 : V q 1 = qi 0) (e3 : V q 3 = qm) : zW (f_X2_seekWide N G q u (qI o) V L) (fun r => (∃ ans, fwT (canB none U.2.2.1 o) (metB U.1 none) o ans ∧ ansC r.1 q ans) ∧ ∀ w, w ≠ q → w ≠ q + 1 → w ≠ q + 2 → r.1 w = V w) := by
  have htw := UB_tw hU
  have n3 : N (u + 3) = 36 := hu.2.2.2.2
  have eu : V u 0 = qi U.1 := hC.1.1
  unfold f_X2_seekWide g_X2_seekWide
  rw [hu.2.1.2.2, o_bind]
  refine zW_lp (I := fun r s => ∃ (p c : Nat) (of : Nat → Nat) (V1 : zI) (L1 : zL), p ≤ 36 ∧ r = 36 - p ∧ s = (qI o, qi p, V1, L1) ∧ offP V1 q p c of (canB none U.2.2.1 o) ∧ mdC V1 q U.1 none ∧ V1 q 3 = qm ∧ ∀ w, w ≠ q → w ≠ q + 1 → V1 w = V w) ?_ FU 36 _ ⟨0, 0, fun _ => 0, _, _, by omega, by omega, rfl, ⟨Nat.le_refl _, ?_, fun i hi => absurd hi (by omega), fun i j _ hj => absurd hj (by omega), fun p hp => absurd hp (by omega)⟩, ⟨?_, ?_, htw⟩, ?_, fun w w1 w2 => ?_⟩ (FU_big (by omega))
  rotate_left
  · simp (disch := omega) only [z_same, z_neP, z_neK, zL_same, zL_neP, zL_neK, zr_same, zr_ne]; exact e1
  · simp (disch := omega) only [z_same, z_neP, z_neK, zL_same, zL_neP, zL_neK, zr_same, zr_ne]; rfl
  · simp (disch := omega) only [z_same, z_neP, z_neK, zL_same, zL_neP, zL_neK, zr_same, zr_ne]; exact eu
  · simp (disch := omega) only [z_same, z_neP, z_neK, zL_same, zL_neP, zL_neK, zr_same, zr_ne]; exact e3
  · simp (disch := omega) only [z_same, z_neP, z_neK, zL_same, zL_neP, zL_neK, zr_same, zr_ne]
  rintro k r s ⟨p, c, of, V1, L1, hp, rfl, rfl, h1, h2, h3, hw⟩ ih
  by_cases hend : p = 36
  · subst hend
    simp (disch := omega) only [b_X2_seekWide_16, ↓reduceIte, o_bind, and_true, true_and, and_false, false_and, or_true, true_or, or_false, false_or, not_true, not_false_eq_true, not_false_iff, ne_eq, Nat.reduceAdd, Nat.reduceMul, Nat.reduceSub, Nat.reduceDiv, Nat.reduceMod, Nat.reduceLT, Nat.reduceLeDiff, Nat.reduceEqDiff, Nat.not_lt, Nat.not_le, q_lit, ↓q_m1, q_om, q_on, q_add, q_mul, q_sub, q_div, q_md, q_ltT, q_ltF, q_leT, q_leF, q_eqT, q_eqF, q_inT, q_inF, q_nn, q_mlt, q_ltm, q_mle, q_lem, q_nem, q_mne]
    refine zW_call (cs_seek (L := L1) hf ho h2 (offP_C h1) h3) ?_
    rintro ⟨V2, L2⟩ ⟨p1, p2⟩
    exact zW_some ⟨p1, fun w w1 w2 w3 => (p2 w w1 w3).trans (hw w w1 w2)⟩
  · have ew : V1 (u + 3) p = qi (U.2.2.1 p) := by rw [hw (u + 3) (by omega) (by omega)]; exact hC.2.1 p (by omega)
    have hwb : U.2.2.1 p ≤ 45 := (hU.2.1 p (by omega)).1
    have hqt := Q_tbt (p := p) ho (by omega)
    have skip : canB none U.2.2.1 o p = false → zW (k (qI o, qi (p + 1), V1, L1)) (fun r => (∃ ans, fwT (canB none U.2.2.1 o) (metB U.1 none) o ans ∧ ansC r.1 q ans) ∧ ∀ w, w ≠ q → w ≠ q + 1 → w ≠ q + 2 → r.1 w = V w) := fun hc => ih (36 - (p + 1)) _ (by omega) ⟨p + 1, c, of, V1, L1, by omega, rfl, rfl, offP_n h1 hc, h2, h3, hw⟩
    by_cases hw0 : 0 < U.2.2.1 p
    · cases hb : o.testBit p with
      | false =>
        have hc : canB none U.2.2.1 o p = true := by
          show (decide (0 < U.2.2.1 p) && !(o.testBit p)) = true
          rw [hb, decide_eq_true hw0]; rfl
        have hq' := hqt.mpr hb
        simp (disch := omega) only [b_X2_seekWide_16, n3, ew, hq', ↓reduceIte, o_bind, and_true, true_and, and_false, false_and, or_true, true_or, or_false, false_or, not_true, not_false_eq_true, not_false_iff, ne_eq, Nat.reduceAdd, Nat.reduceMul, Nat.reduceSub, Nat.reduceDiv, Nat.reduceMod, Nat.reduceLT, Nat.reduceLeDiff, Nat.reduceEqDiff, Nat.not_lt, Nat.not_le, q_lit, ↓q_m1, q_om, q_on, q_add, q_mul, q_sub, q_div, q_md, q_ltT, q_ltF, q_leT, q_leF, q_eqT, q_eqF, q_inT, q_inF, q_nn, q_mlt, q_ltm, q_mle, q_lem, q_nem, q_mne]
        refine zW_call (cs_offer (L := L1) hf h1 (by omega) hc) ?_
        rintro ⟨V2, L2⟩ ⟨p1, p2, p3⟩
        dsimp only at p1 p2 p3 ⊢
        exact ih (36 - (p + 1)) _ (by omega) ⟨p + 1, c + 1, _, V2, L2, by omega, rfl, rfl, p1, ⟨by rw [p3 4 (by omega)]; exact h2.1, by rw [p3 5 (by omega)]; exact h2.2.1, htw⟩, by rw [p3 3 (by omega)]; exact h3, fun w w1 w2 => (p2 w w1 w2).trans (hw w w1 w2)⟩
      | true =>
        have hc : canB none U.2.2.1 o p = false := by
          show (decide (0 < U.2.2.1 p) && !(o.testBit p)) = false
          rw [hb]; simp
        have hq' : ¬ (lg_cmp (((qI o).toUInt64 >>> ((qi p).toInt64.toUInt64 &&& Int64.toUInt64 63)).toInt64 &&& 1) 0 = qi 0) := fun h => by rw [hqt.mp h] at hb; cases hb
        have g := skip hc
        simp (disch := omega) only [b_X2_seekWide_16, n3, ew, hq', ↓reduceIte, o_bind, and_true, true_and, and_false, false_and, or_true, true_or, or_false, false_or, not_true, not_false_eq_true, not_false_iff, ne_eq, Nat.reduceAdd, Nat.reduceMul, Nat.reduceSub, Nat.reduceDiv, Nat.reduceMod, Nat.reduceLT, Nat.reduceLeDiff, Nat.reduceEqDiff, Nat.not_lt, Nat.not_le, q_lit, ↓q_m1, q_om, q_on, q_add, q_mul, q_sub, q_div, q_md, q_ltT, q_ltF, q_leT, q_leF, q_eqT, q_eqF, q_inT, q_inF, q_nn, q_mlt, q_ltm, q_mle, q_lem, q_nem, q_mne]
        exact g
    · have hc : canB none U.2.2.1 o p = false := by
        show (decide (0 < U.2.2.1 p) && !(o.testBit p)) = false
        rw [decide_eq_false hw0]; rfl
      have g := skip hc
      simp (disch := omega) only [b_X2_seekWide_16, n3, ew, ↓reduceIte, o_bind, and_true, true_and, and_false, false_and, or_true, true_or, or_false, false_or, not_true, not_false_eq_true, not_false_iff, ne_eq, Nat.reduceAdd, Nat.reduceMul, Nat.reduceSub, Nat.reduceDiv, Nat.reduceMod, Nat.reduceLT, Nat.reduceLeDiff, Nat.reduceEqDiff, Nat.not_lt, Nat.not_le, q_lit, ↓q_m1, q_om, q_on, q_add, q_mul, q_sub, q_div, q_md, q_ltT, q_ltF, q_leT, q_leF, q_eqT, q_eqF, q_inT, q_inF, q_nn, q_mlt, q_ltm, q_mle, q_lem, q_nem, q_mne]
      exact g
set_option maxHeartbeats 4000000 in
theorem cs_seekC {f g : Nat} {way : Nat → Nat} (hf : fwS N G q) (ho : o < 68719476736) (e1 : V q 1 = qi 0) (e3 : V q 3 = qm) (e4 : V q 4 = qi 0) (hfg : f < 6 ∧ g < 6) : zW (f_X2_seekCut N G q (qi f) (qi g) (qI o) V L) (fun r => (∃ ans, fwT (canB (some (f, g)) way o) (metB tw (some (f, g))) o ans ∧ ansC r.1 q ans) ∧ ∀ w, w ≠ q → w ≠ q + 1 → w ≠ q + 2 → r.1 w = V w) := by
  unfold f_X2_seekCut g_X2_seekCut
  refine zW_lp (I := fun r s => ∃ (p c : Nat) (of : Nat → Nat) (V1 : zI) (L1 : zL), p ≤ 36 ∧ r = 36 - p ∧ s = (qI o, qi p, V1, L1) ∧ offP V1 q p c of (canB (some (f, g)) way o) ∧ mdC V1 q tw (some (f, g)) ∧ V1 q 3 = qm ∧ ∀ w, w ≠ q → w ≠ q + 1 → V1 w = V w) ?_ FU 36 _ ⟨0, 0, fun _ => 0, _, _, by omega, by omega, rfl, ⟨Nat.le_refl _, ?_, fun i hi => absurd hi (by omega), fun i j _ hj => absurd hj (by omega), fun p hp => absurd hp (by omega)⟩, ⟨?_, ?_, ?_, hfg⟩, ?_, fun w w1 w2 => ?_⟩ (FU_big (by omega))
  rotate_left
  · simp (disch := omega) only [z_same, z_neP, z_neK, zL_same, zL_neP, zL_neK, zr_same, zr_ne]; exact e1
  · simp (disch := omega) only [z_same, z_neP, z_neK, zL_same, zL_neP, zL_neK, zr_same, zr_ne]; exact e4
  · simp (disch := omega) only [z_same, z_neP, z_neK, zL_same, zL_neP, zL_neK, zr_same, zr_ne]
  · simp (disch := omega) only [z_same, z_neP, z_neK, zL_same, zL_neP, zL_neK, zr_same, zr_ne]
  · simp (disch := omega) only [z_same, z_neP, z_neK, zL_same, zL_neP, zL_neK, zr_same, zr_ne]; exact e3
  · simp (disch := omega) only [z_same, z_neP, z_neK, zL_same, zL_neP, zL_neK, zr_same, zr_ne]
  rintro k r s ⟨p, c, of, V1, L1, hp, rfl, rfl, h1, h2, h3, hw⟩ ih
  by_cases hend : p = 36
  · subst hend
    simp (disch := omega) only [b_X2_seekCut_13, ↓reduceIte, o_bind, and_true, true_and, and_false, false_and, or_true, true_or, or_false, false_or, not_true, not_false_eq_true, not_false_iff, ne_eq, Nat.reduceAdd, Nat.reduceMul, Nat.reduceSub, Nat.reduceDiv, Nat.reduceMod, Nat.reduceLT, Nat.reduceLeDiff, Nat.reduceEqDiff, Nat.not_lt, Nat.not_le, q_lit, ↓q_m1, q_om, q_on, q_add, q_mul, q_sub, q_div, q_md, q_ltT, q_ltF, q_leT, q_leF, q_eqT, q_eqF, q_inT, q_inF, q_nn, q_mlt, q_ltm, q_mle, q_lem, q_nem, q_mne]
    refine zW_call (cs_seek (L := L1) hf ho h2 (offP_C h1) h3) ?_
    rintro ⟨V2, L2⟩ ⟨p1, p2⟩
    exact zW_some ⟨p1, fun w w1 w2 w3 => (p2 w w1 w3).trans (hw w w1 w2)⟩
  · have hqt := Q_tbt (p := p) ho (by omega)
    cases hb : o.testBit p with
    | true =>
      have hc : canB (some (f, g)) way o p = true := hb
      have hq' : ¬ (lg_cmp (((qI o).toUInt64 >>> ((qi p).toInt64.toUInt64 &&& Int64.toUInt64 63)).toInt64 &&& 1) 0 = qi 0) := fun h => by rw [hqt.mp h] at hb; cases hb
      simp (disch := omega) only [b_X2_seekCut_13, hq', ↓reduceIte, o_bind, and_true, true_and, and_false, false_and, or_true, true_or, or_false, false_or, not_true, not_false_eq_true, not_false_iff, ne_eq, Nat.reduceAdd, Nat.reduceMul, Nat.reduceSub, Nat.reduceDiv, Nat.reduceMod, Nat.reduceLT, Nat.reduceLeDiff, Nat.reduceEqDiff, Nat.not_lt, Nat.not_le, q_lit, ↓q_m1, q_om, q_on, q_add, q_mul, q_sub, q_div, q_md, q_ltT, q_ltF, q_leT, q_leF, q_eqT, q_eqF, q_inT, q_inF, q_nn, q_mlt, q_ltm, q_mle, q_lem, q_nem, q_mne]
      refine zW_call (cs_offer (L := L1) hf h1 (by omega) hc) ?_
      rintro ⟨V2, L2⟩ ⟨p1, p2, p3⟩
      dsimp only at p1 p2 p3 ⊢
      obtain ⟨m1, m2, m3, m4⟩ := h2
      exact ih (36 - (p + 1)) _ (by omega) ⟨p + 1, c + 1, _, V2, L2, by omega, rfl, rfl, p1, ⟨by rw [p3 4 (by omega)]; exact m1, by rw [p3 6 (by omega)]; exact m2, by rw [p3 7 (by omega)]; exact m3, m4⟩, by rw [p3 3 (by omega)]; exact h3, fun w w1 w2 => (p2 w w1 w2).trans (hw w w1 w2)⟩
    | false =>
      have hc : canB (some (f, g)) way o p = false := hb
      have hq' := hqt.mpr hb
      simp (disch := omega) only [b_X2_seekCut_13, hq', ↓reduceIte, o_bind, and_true, true_and, and_false, false_and, or_true, true_or, or_false, false_or, not_true, not_false_eq_true, not_false_iff, ne_eq, Nat.reduceAdd, Nat.reduceMul, Nat.reduceSub, Nat.reduceDiv, Nat.reduceMod, Nat.reduceLT, Nat.reduceLeDiff, Nat.reduceEqDiff, Nat.not_lt, Nat.not_le, q_lit, ↓q_m1, q_om, q_on, q_add, q_mul, q_sub, q_div, q_md, q_ltT, q_ltF, q_leT, q_leF, q_eqT, q_eqF, q_inT, q_inF, q_nn, q_mlt, q_ltm, q_mle, q_lem, q_nem, q_mne]
      exact ih (36 - (p + 1)) _ (by omega) ⟨p + 1, c, of, V1, L1, by omega, rfl, rfl, offP_n h1 hc, h2, h3, hw⟩
set_option maxHeartbeats 4000000 in
theorem cs_newF {s : Nat} (hsn : n = s + 1) : zW (f_X2_init s n K N G V L) (fun r => r.1 = s + 3 ∧ r.2.1 = 2 ∧ r.2.2.1 = 39 ∧ (∀ w, w < s → r.2.2.2.1 w = K w ∧ r.2.2.2.2.1 w = N w ∧ r.2.2.2.2.2.1 w = G w ∧ r.2.2.2.2.2.2.1 w = V w) ∧ fwS r.2.2.2.2.1 r.2.2.2.2.2.1 s ∧ r.2.2.2.2.2.2.1 s 1 = qi 0 ∧ r.2.2.2.2.2.2.1 s 3 = qm ∧ r.2.2.2.2.2.2.1 s 4 = qi 0) := by
  subst hsn
  have t36 : (36 : Int32).toNatClampNeg = 36 := rfl
  have t3 : (3 : Int32).toNatClampNeg = 3 := rfl
  unfold f_X2_init g_X2_init
  refine zW_if1 (zi_c (m := 36) rfl (by decide) (by omega)) ?_
  unfold f_X2_init_9
  refine zW_if1 (zi_c (m := 3) rfl (by decide) (by omega)) ?_
  unfold f_X2_init_21
  refine zW_some ?_
  dsimp only
  refine ⟨by omega, by omega, by rw [t36, t3], fun w hw => ⟨?_, ?_, ?_, ?_⟩, ⟨?_, ?_, ?_, ?_⟩, ?_, ?_, ?_⟩
  · simp (disch := omega) only [kU_ne]
  · simp (disch := omega) only [kU_ne]
  · simp (disch := omega) only [kU_ne, gS_neP]
  · simp (disch := omega) only [kU_ne, z_neP]
  · simp (disch := omega) only [kU_same, kU_ne, gS_same, gS_neP, gS_neK]
  · simp (disch := omega) only [kU_same, kU_ne, gS_same, gS_neP, gS_neK]
  · simp (disch := omega) only [kU_same, kU_ne, t36]
  · simp (disch := omega) only [kU_same, kU_ne, t3]
  · simp (disch := omega) only [z_same, z_neP, z_neK, zL_same, zL_neP, zL_neK, zr_same, zr_ne, kU_ne]; rfl
  · simp (disch := omega) only [z_same, z_neP, z_neK, zL_same, zL_neP, zL_neK, zr_same, zr_ne, kU_ne]; rfl
  · simp (disch := omega) only [z_same, z_neP, z_neK, zL_same, zL_neP, zL_neK, zr_same, zr_ne, kU_ne]; rfl
/-! the answer is one -/
theorem lx_tot : ∀ l l' : List Nat, l.length = l'.length → l = l' ∨ lxL l l' ∨ lxL l' l := by
  intro l
  induction l with
  | nil => intro l' h; exact Or.inl (List.eq_nil_of_length_eq_zero h.symm).symm
  | cons p l ih =>
    intro l' h
    match l', h with
    | p' :: l', h =>
      have h' : l.length = l'.length := by simpa using h
      rcases Nat.lt_trichotomy p p' with hp | hp | hp
      · exact Or.inr (Or.inl (Or.inl hp))
      · subst hp
        rcases ih l' h' with e | e | e
        · rw [e]; exact Or.inl rfl
        · exact Or.inr (Or.inl (Or.inr ⟨rfl, e⟩))
        · exact Or.inr (Or.inr (Or.inr ⟨rfl, e⟩))
      · exact Or.inr (Or.inr (Or.inl hp))
theorem fwT_one {a1 a2 : Option (List Nat)} (h1 : fwT can met o a1) (h2 : fwT can met o a2) : a1 = a2 := by
  cases a1 with
  | none =>
    cases a2 with
    | none => rfl
    | some l => exact absurd h2.2.1 (h1 l.length h2.1 l)
  | some l =>
    cases a2 with
    | none => exact absurd h1.2.1 (h2 l.length h1.1 l)
    | some l' =>
      obtain ⟨p1, p2, p3, p4⟩ := h1
      obtain ⟨q1, q2, q3, q4⟩ := h2
      have hl : l.length = l'.length := by
        rcases Nat.lt_trichotomy l.length l'.length with h | h | h
        · exact absurd p2 (q4 _ h l)
        · exact h
        · exact absurd q2 (p4 _ h l')
      rcases lx_tot l l' hl with e | e | e
      · rw [e]
      · rw [hl] at p2; exact absurd e (q3 l p2)
      · rw [← hl] at q2; exact absurd e (p3 l' q2)
/-! pairs turned over -/
def flp : Nat → List Nat → Nat
  | o, [] => o
  | o, p :: l => flp (o ^^^ 2 ^ p) l
def incL : Nat → List Nat → Prop
  | _, [] => True
  | lo, p :: l => lo ≤ p ∧ incL (p + 1) l
theorem okP_iff : ∀ (l : List Nat) (k o lo : Nat), okP can met k o lo l ↔ (l.length = k ∧ incL lo l ∧ (∀ p ∈ l, p < 36 ∧ can p = true) ∧ met (flp o l) = true) := by
  intro l
  induction l with
  | nil =>
    intro k o lo
    cases k with
    | zero => exact ⟨fun h => ⟨rfl, trivial, fun p hp => (by cases hp), h.2⟩, fun h => ⟨rfl, h.2.2.2⟩⟩
    | succ k => exact ⟨fun ⟨p, l', h, _⟩ => (by cases h), fun h => absurd h.1 (by simp)⟩
  | cons p l ih =>
    intro k o lo
    cases k with
    | zero => exact ⟨fun h => absurd h.1 (by simp), fun h => absurd h.1 (by simp)⟩
    | succ k =>
      constructor
      · rintro ⟨p', l', e, ⟨h1, h2⟩, h3, h4⟩
        cases e
        obtain ⟨q1, q2, q3, q4⟩ := (ih k _ _).mp h4
        refine ⟨by rw [List.length_cons, q1], ⟨h1, q2⟩, fun x hx => ?_, q4⟩
        rcases List.mem_cons.mp hx with rfl | hx
        · exact ⟨h2, h3⟩
        · exact q3 x hx
      · rintro ⟨h1, ⟨h2, h3⟩, h4, h5⟩
        have hp := h4 p (List.mem_cons_self ..)
        exact ⟨p, l, rfl, ⟨h2, hp.1⟩, hp.2, (ih k _ _).mpr ⟨by simpa using h1, h3, fun x hx => h4 x (List.mem_cons_of_mem _ hx), h5⟩⟩
theorem flp_x : ∀ (l : List Nat) (o p : Nat), flp (o ^^^ 2 ^ p) l = flp o l ^^^ 2 ^ p := by
  intro l
  induction l with
  | nil => intro o p; rfl
  | cons a l ih =>
    intro o p
    show flp (o ^^^ 2 ^ p ^^^ 2 ^ a) l = flp (o ^^^ 2 ^ a) l ^^^ 2 ^ p
    rw [← ih, Nat.xor_assoc, Nat.xor_comm (2 ^ p), ← Nat.xor_assoc]
theorem flp_n : ∀ (l : List Nat) (o k : Nat), k ∉ l → (flp o l).testBit k = o.testBit k := by
  intro l
  induction l with
  | nil => intro o k _; rfl
  | cons a l ih =>
    intro o k hk
    show (flp (o ^^^ 2 ^ a) l).testBit k = _
    have hka : k ≠ a := fun e => hk (by rw [e]; exact List.mem_cons_self ..)
    rw [ih _ _ (fun h => hk (List.mem_cons_of_mem _ h)), Nat.testBit_xor, Nat.testBit_two_pow, decide_eq_false (fun e => hka e.symm), Bool.xor_false]
theorem incL_lt : ∀ (l : List Nat) (lo : Nat), incL lo l → ∀ p ∈ l, lo ≤ p := by
  intro l
  induction l with
  | nil => intro lo _ p hp; cases hp
  | cons a l ih =>
    rintro lo ⟨h1, h2⟩ p hp
    rcases List.mem_cons.mp hp with rfl | hp
    · exact h1
    · have := ih _ h2 p hp; omega
theorem gR_set {o2 p v : Nat} (h : gR R o) (h1 : ∀ k, k ≠ p → o2.testBit k = o.testBit k) (hv : v = bitN o2 p) : gR (z_uI R 30 p (qi v)) o2 := by
  intro k hk
  by_cases e : k = p
  · subst e; rw [z_same, hv]
  · rw [z_neK e, h k hk, bitN_tb, bitN_tb, h1 k e]
end
