section
theorem bX_SB {U : aU} {A : aS} {x : Nat} {dr : Bool} (hU : UB U) (hA : SB U A) (hx : x < 2147483648) : SB U (mS (bX U dr A x).1 (bX U dr A x).2.1) ∧ (bX U dr A x).1.1 = A.1 ∧ (bX U dr A x).2.2.1 < 2147483648 ∧ (bX U dr A x).2.2.2.1 ≤ 60 ∧ (bX U dr A x).2.2.2.2.1 ≤ 60 := by
  obtain ⟨b1, b2, b3, b4, b5, b6, b7, b8⟩ := br_inv (e := U.2.2.2.1) (lo := U.2.2.2.2.1) (dr := dr) hU hA hx A.2.2.2.2.1 (Nat.le_refl _) (bX U dr A x) rfl
  have hm := SB_m hA
  exact ⟨SBi_end (by rw [b3]; exact b1) (by rw [b3]; exact b5), b2, b6, by omega, by omega⟩
theorem SB_dS {U : aU} {A : aS} {d : Nat} (h : SB U A) (hd : d ≤ 999) : SB U (dS A d) := by
  obtain ⟨tw, ct, way, encl, lost, rul, nam⟩ := U
  obtain ⟨day, held, sent, got, m, mp, ml, kn, kc⟩ := A
  exact ⟨⟨hd, h.1.2.1, h.1.2.2⟩, h.2.1, h.2.2.1, h.2.2.2.1, h.2.2.2.2⟩
theorem dayW_SB {U : aU} {A : aS} {x : Nat} {dr : Bool} (hU : UB U) (hA : SB U A) (hx : x < 2147483648) {d : Nat} (hd : d ≤ 999) : SB U (dS (dayW U dr A x) d) := SB_dS (wr_SB hU (bX_SB hU hA hx).1 U.1 (Nat.le_refl _)).1 hd
theorem SC_day {V : zI} {s d : Nat} {A : aS} (h : SC V s A) : SC (z_uI V s 0 (qi d)) s (dS A d) := by
  obtain ⟨day, held, sent, got, m, mp, ml, kn, kc⟩ := A
  obtain ⟨⟨a0, a4, a7⟩, s1, s2, s3, s4, s5, s6⟩ := h
  refine ⟨⟨z_same, ?_, ?_⟩, ?_, ?_, ?_, ?_, ?_, ?_⟩ <;> simp (disch := omega) only [z_neP, z_neK] <;> assumption
set_option maxHeartbeats 4000000 in
theorem c_wrL_n {N : Nat → Nat} {G : zG} {V : zI} {L : zL} {u s : Nat} {U : aU} {A : aS} (hx : fxS N G) (hu : unS N G u) (hs : stS N G s) (hs2 : 6 ≤ s ∧ s + 7 ≤ 20) (hC : UC N G V u U) (hS : SC V s A) (hU : UB U) (hA : SB U A) : zW (zfix (b_X4_passDay_n_10 N G 20 u s  (u + 3)) FU (0, V, L)) (fun r => SC r.1 s (dS (wrF U A U.1) (if A.1 + 1 < 999 then A.1 + 1 else 999)) ∧ (∀ w, (w < s ∨ s + 7 ≤ w) → w ≠ 21 → r.1 w = V w) ∧ (∀ j, j ≠ 0 → j ≠ 4 → r.1 s j = V s j) ∧ r.2 = L) := by
  have htw := UB_tw hU
  have hu1 := hu.1
  have n3 : N (u + 3) = 36 := hu.2.2.2.2
  refine zW_lp (I := fun r q => ∃ (a : Nat) (V1 : zI), a ≤ U.1 ∧ r = U.1 - a ∧ q = (qi a, V1, L) ∧ SC V1 s (wrF U A a) ∧ (∀ w, (w < s ∨ s + 7 ≤ w) → w ≠ 21 → V1 w = V w) ∧ (∀ j, j ≠ 0 → j ≠ 4 → V1 s j = V s j)) ?_ FU U.1 _ ⟨0, V, by omega, by omega, rfl, hS, fun _ _ _ => rfl, fun _ _ _ => rfl⟩ (FU_big (by omega))
  rintro k r q ⟨a, V1, ha, rfl, rfl, hS1, hw, hj⟩ ih
  have hC1 : UC N G V1 u U := UC_fr2 hu hC (fun w h => hw w (by omega) (by omega))
  have e0 : V1 u 0 = qi U.1 := hC1.1.1
  obtain ⟨hB, hB1⟩ := wr_SB hU hA a ha
  by_cases hend : a = U.1
  · have e20 : V1 s 0 = qi A.1 := by rw [← hB1]; exact hS1.1.1
    have hd : A.1 ≤ 999 := hA.1.1
    rw [hend] at hS1
    by_cases c1 : A.1 + 1 < 999
    · simp (disch := omega) only [b_X4_passDay_n_10, e0, e20, hend, c1, ↓reduceIte, o_bind, and_true, true_and, and_false, false_and, or_true, true_or, or_false, false_or, not_true, not_false_eq_true, not_false_iff, ne_eq, Nat.reduceAdd, Nat.reduceMul, Nat.reduceSub, Nat.reduceDiv, Nat.reduceMod, Nat.reduceLT, Nat.reduceLeDiff, Nat.reduceEqDiff, Nat.not_lt, Nat.not_le, q_lit, ↓q_m1, q_om, q_on, q_add, q_mul, q_sub, q_div, q_md, q_ltT, q_ltF, q_leT, q_leF, q_eqT, q_eqF, q_inT, q_inF, q_nn, q_mlt, q_ltm, q_mle, q_lem, q_nem, q_mne, z_same, z_neP, z_neK, zL_same, zL_neP, zL_neK, zr_same, zr_ne, Nat.le_refl]
      exact zW_some ⟨SC_day hS1, fun w h1 h2 => (z_neP (by omega)).trans (hw w h1 h2), fun j h1 h2 => (z_neK h1).trans (hj j h1 h2), rfl⟩
    · simp (disch := omega) only [b_X4_passDay_n_10, e0, e20, hend, c1, ↓reduceIte, o_bind, and_true, true_and, and_false, false_and, or_true, true_or, or_false, false_or, not_true, not_false_eq_true, not_false_iff, ne_eq, Nat.reduceAdd, Nat.reduceMul, Nat.reduceSub, Nat.reduceDiv, Nat.reduceMod, Nat.reduceLT, Nat.reduceLeDiff, Nat.reduceEqDiff, Nat.not_lt, Nat.not_le, q_lit, ↓q_m1, q_om, q_on, q_add, q_mul, q_sub, q_div, q_md, q_ltT, q_ltF, q_leT, q_leF, q_eqT, q_eqF, q_inT, q_inF, q_nn, q_mlt, q_ltm, q_mle, q_lem, q_nem, q_mne, z_same, z_neP, z_neK, zL_same, zL_neP, zL_neK, zr_same, zr_ne, Nat.le_refl]
      exact zW_some ⟨SC_day hS1, fun w h1 h2 => (z_neP (by omega)).trans (hw w h1 h2), fun j h1 h2 => (z_neK h1).trans (hj j h1 h2), rfl⟩
  have ha' : a < U.1 := by omega
  have hn : ¬ U.1 ≤ a := by omega
  simp (disch := omega) only [b_X4_passDay_n_10, e0, hn, ↓reduceIte, o_bind, and_true, true_and, and_false, false_and, or_true, true_or, or_false, false_or, not_true, not_false_eq_true, not_false_iff, ne_eq, Nat.reduceAdd, Nat.reduceMul, Nat.reduceSub, Nat.reduceDiv, Nat.reduceMod, Nat.reduceLT, Nat.reduceLeDiff, Nat.reduceEqDiff, Nat.not_lt, Nat.not_le, q_lit, ↓q_m1, q_om, q_on, q_add, q_mul, q_sub, q_div, q_md, q_ltT, q_ltF, q_leT, q_leF, q_eqT, q_eqF, q_inT, q_inF, q_nn, q_mlt, q_ltm, q_mle, q_lem, q_nem, q_mne, z_same, z_neP, z_neK, zL_same, zL_neP, zL_neK, zr_same, zr_ne]
  refine zW_call (c_next hx hu hs (by omega) hC1 hS1 hU hB ha' (fun _ _ => rfl)) ?_
  rintro ⟨y, V2, L2⟩ ⟨q1, q2, q3⟩
  dsimp only at q1 q2 q3 ⊢
  subst q1
  replace q2 := q2.symm
  subst q2
  have hw2 : ∀ w, (w < s ∨ s + 7 ≤ w) → w ≠ 21 → V2 w = V w := fun w h1 h2 => by rw [q3 w h2]; exact hw w h1 h2
  have hj2 : ∀ j, j ≠ 0 → j ≠ 4 → V2 s j = V s j := fun j h1 h2 => by rw [q3 s (by omega)]; exact hj j h1 h2
  have hS2 : SC V2 s (wrF U A a) := SC_fr hS1 (fun w h1 h2 => q3 w (by omega))
  cases ht : tgt U (wrF U A a) a with
  | none =>
    simp only [oi, q_lit, ↓q_m1, q_om, q_on, q_add, q_mul, q_sub, q_div, q_md, q_ltT, q_ltF, q_leT, q_leF, q_eqT, q_eqF, q_inT, q_inF, q_nn, q_mlt, q_ltm, q_mle, q_lem, q_nem, q_mne, ↓reduceIte]
    exact ih (U.1 - (a + 1)) _ (by omega) ⟨a + 1, V2, by omega, rfl, rfl, by rw [show wrF U A (a + 1) = wrS U a (wrF U A a) from rfl, wrS_n ht]; exact hS2, hw2, hj2⟩
  | some c =>
    obtain ⟨t1, t2, t3, t4⟩ := tgt_b hU hB ha' ht
    have hgo := fun V3 g1 g2 g3 => ih (U.1 - (a + 1)) (qi (a + 1), V3, L) (by omega) ⟨a + 1, V3, by omega, rfl, rfl, g1, g2, g3⟩
    rw [show wrF U A (a + 1) = wrS U a (wrF U A a) from rfl, wrS_s ht] at hgo
    have hsb := hB.2.1 (6 * a + c) (by omega)
    have hC2 : UC N G V2 u U := UC_fr2 hu hC (fun w h => hw2 w (by omega) (by omega))
    have e5 : V2 (u + 3) (6 * a + c) = qi (U.2.2.1 (6 * a + c)) := hC2.2.1 (6 * a + c) (by omega)
    have ei : a * 6 + c = 6 * a + c := by omega
    simp (disch := omega) only [oi, n3, ei, e5, ↓reduceIte, o_bind, and_true, true_and, and_false, false_and, or_true, true_or, or_false, false_or, not_true, not_false_eq_true, not_false_iff, ne_eq, Nat.reduceAdd, Nat.reduceMul, Nat.reduceSub, Nat.reduceDiv, Nat.reduceMod, Nat.reduceLT, Nat.reduceLeDiff, Nat.reduceEqDiff, Nat.not_lt, Nat.not_le, q_lit, ↓q_m1, q_om, q_on, q_add, q_mul, q_sub, q_div, q_md, q_ltT, q_ltF, q_leT, q_leF, q_eqT, q_eqF, q_inT, q_inF, q_nn, q_mlt, q_ltm, q_mle, q_lem, q_nem, q_mne, z_same, z_neP, z_neK, zL_same, zL_neP, zL_neK, zr_same, zr_ne]
    refine zW_call (c_post (L := L) (d := U.2.2.1 (6 * a + c)) hs hS2 t1 ⟨t4, hsb.1⟩ hsb.2.1 (by omega)) ?_
    rintro ⟨V3, L3⟩ ⟨p1, p2, p3, p4⟩
    dsimp only at p1 p2 p3 p4 ⊢
    subst p4
    exact hgo V3 p1 (fun w h1 h2 => by rw [p3 w h1]; exact hw2 w h1 h2) (fun j h1 h2 => by rw [p2 j h2]; exact hj2 j h1 h2)
set_option maxHeartbeats 4000000 in
theorem c_pass_n {N : Nat → Nat} {G : zG} {V : zI} {L : zL} {u s x : Nat} {U : aU} {A : aS} (hx : fxS N G) (hu : unS N G u) (hs : stS N G s) (hs2 : 6 ≤ s ∧ s + 7 ≤ 20) (hC : UC N G V u U) (hS : SC V s A) (hU : UB U) (hA : SB U A) (hxb : x < 2147483648) : zW (f_X4_passDay_n N G 20 u s  V L) (fun r => SC r.1 s (dS (dayW U false A x) (if A.1 + 1 < 999 then A.1 + 1 else 999)) ∧ r.1 s 10 = qi (bX U false A x).2.2.2.1 ∧ r.1 s 11 = qi (bX U false A x).2.2.2.2.1 ∧ r.2 s 9 = (bX U false A x).2.2.2.2.2 ∧ (∀ w, (w < s ∨ s + 7 ≤ w) → w ≠ 21 → w ≠ 22 → r.1 w = V w) ∧ (∀ w, w ≠ s → r.2 w = L w) ∧ r.1 22 = V 22) := by
  have hu1 := hu.1
  obtain ⟨y1, y2, y3, y4, y5⟩ := bX_SB (dr := false) hU hA hxb
  have hbr := c_bring_n (L := L) hu hs hs2 hC hS hU hA hxb
  unfold f_X4_passDay_n g_X4_passDay_n
  rw [hu.2.1.2.2, o_bind]
  refine zW_call hbr ?_
  rintro ⟨V1, L1⟩ ⟨q1, q2, q3, q4, q5, q6, q7⟩
  dsimp only at q1 q2 q3 q4 q5 q6 q7 ⊢
  have hC1 : UC N G V1 u U := UC_fr2 hu hC (fun w h => q5 w (by omega) (by omega))
  have hwl := c_wrL_n (L := L1) hx hu hs hs2 hC1 q1 hU y1
  refine zW_mono hwl (fun r hr => ?_)
  obtain ⟨p1, p2, p3, p4⟩ := hr
  have hd : (mS (bX U false A x).1 (bX U false A x).2.1).1 = A.1 := y2
  refine ⟨?_, ?_, ?_, ?_, fun w h1 h2 h3 => by rw [p2 w h1 h2]; exact q5 w h1 h3, fun w h => by rw [p4]; exact q6 w h, ?_⟩
  · rw [← hd]; exact p1
  · rw [p3 10 (by omega) (by omega)]; exact q2
  · rw [p3 11 (by omega) (by omega)]; exact q3
  · rw [p4]; exact q4
  · rw [p2 22 (by omega) (by omega)]; exact q7
set_option maxHeartbeats 4000000 in
theorem c_wrL_s {N : Nat → Nat} {G : zG} {V : zI} {L : zL} {u s : Nat} {U : aU} {A : aS} (hx : fxS N G) (hu : unS N G u) (hs : stS N G s) (hs2 : 6 ≤ s ∧ s + 7 ≤ 20) (hC : UC N G V u U) (hS : SC V s A) (hU : UB U) (hA : SB U A) : zW (zfix (b_X4_passDay_s_10 N G 20 u s 22 (u + 3)) FU (0, V, L)) (fun r => SC r.1 s (dS (wrF U A U.1) (if A.1 + 1 < 999 then A.1 + 1 else 999)) ∧ (∀ w, (w < s ∨ s + 7 ≤ w) → w ≠ 21 → r.1 w = V w) ∧ (∀ j, j ≠ 0 → j ≠ 4 → r.1 s j = V s j) ∧ r.2 = L) := by
  have htw := UB_tw hU
  have hu1 := hu.1
  have n3 : N (u + 3) = 36 := hu.2.2.2.2
  refine zW_lp (I := fun r q => ∃ (a : Nat) (V1 : zI), a ≤ U.1 ∧ r = U.1 - a ∧ q = (qi a, V1, L) ∧ SC V1 s (wrF U A a) ∧ (∀ w, (w < s ∨ s + 7 ≤ w) → w ≠ 21 → V1 w = V w) ∧ (∀ j, j ≠ 0 → j ≠ 4 → V1 s j = V s j)) ?_ FU U.1 _ ⟨0, V, by omega, by omega, rfl, hS, fun _ _ _ => rfl, fun _ _ _ => rfl⟩ (FU_big (by omega))
  rintro k r q ⟨a, V1, ha, rfl, rfl, hS1, hw, hj⟩ ih
  have hC1 : UC N G V1 u U := UC_fr2 hu hC (fun w h => hw w (by omega) (by omega))
  have e0 : V1 u 0 = qi U.1 := hC1.1.1
  obtain ⟨hB, hB1⟩ := wr_SB hU hA a ha
  by_cases hend : a = U.1
  · have e20 : V1 s 0 = qi A.1 := by rw [← hB1]; exact hS1.1.1
    have hd : A.1 ≤ 999 := hA.1.1
    rw [hend] at hS1
    by_cases c1 : A.1 + 1 < 999
    · simp (disch := omega) only [b_X4_passDay_s_10, e0, e20, hend, c1, ↓reduceIte, o_bind, and_true, true_and, and_false, false_and, or_true, true_or, or_false, false_or, not_true, not_false_eq_true, not_false_iff, ne_eq, Nat.reduceAdd, Nat.reduceMul, Nat.reduceSub, Nat.reduceDiv, Nat.reduceMod, Nat.reduceLT, Nat.reduceLeDiff, Nat.reduceEqDiff, Nat.not_lt, Nat.not_le, q_lit, ↓q_m1, q_om, q_on, q_add, q_mul, q_sub, q_div, q_md, q_ltT, q_ltF, q_leT, q_leF, q_eqT, q_eqF, q_inT, q_inF, q_nn, q_mlt, q_ltm, q_mle, q_lem, q_nem, q_mne, z_same, z_neP, z_neK, zL_same, zL_neP, zL_neK, zr_same, zr_ne, Nat.le_refl]
      exact zW_some ⟨SC_day hS1, fun w h1 h2 => (z_neP (by omega)).trans (hw w h1 h2), fun j h1 h2 => (z_neK h1).trans (hj j h1 h2), rfl⟩
    · simp (disch := omega) only [b_X4_passDay_s_10, e0, e20, hend, c1, ↓reduceIte, o_bind, and_true, true_and, and_false, false_and, or_true, true_or, or_false, false_or, not_true, not_false_eq_true, not_false_iff, ne_eq, Nat.reduceAdd, Nat.reduceMul, Nat.reduceSub, Nat.reduceDiv, Nat.reduceMod, Nat.reduceLT, Nat.reduceLeDiff, Nat.reduceEqDiff, Nat.not_lt, Nat.not_le, q_lit, ↓q_m1, q_om, q_on, q_add, q_mul, q_sub, q_div, q_md, q_ltT, q_ltF, q_leT, q_leF, q_eqT, q_eqF, q_inT, q_inF, q_nn, q_mlt, q_ltm, q_mle, q_lem, q_nem, q_mne, z_same, z_neP, z_neK, zL_same, zL_neP, zL_neK, zr_same, zr_ne, Nat.le_refl]
      exact zW_some ⟨SC_day hS1, fun w h1 h2 => (z_neP (by omega)).trans (hw w h1 h2), fun j h1 h2 => (z_neK h1).trans (hj j h1 h2), rfl⟩
  have ha' : a < U.1 := by omega
  have hn : ¬ U.1 ≤ a := by omega
  simp (disch := omega) only [b_X4_passDay_s_10, e0, hn, ↓reduceIte, o_bind, and_true, true_and, and_false, false_and, or_true, true_or, or_false, false_or, not_true, not_false_eq_true, not_false_iff, ne_eq, Nat.reduceAdd, Nat.reduceMul, Nat.reduceSub, Nat.reduceDiv, Nat.reduceMod, Nat.reduceLT, Nat.reduceLeDiff, Nat.reduceEqDiff, Nat.not_lt, Nat.not_le, q_lit, ↓q_m1, q_om, q_on, q_add, q_mul, q_sub, q_div, q_md, q_ltT, q_ltF, q_leT, q_leF, q_eqT, q_eqF, q_inT, q_inF, q_nn, q_mlt, q_ltm, q_mle, q_lem, q_nem, q_mne, z_same, z_neP, z_neK, zL_same, zL_neP, zL_neK, zr_same, zr_ne]
  refine zW_call (c_next hx hu hs (by omega) hC1 hS1 hU hB ha' (fun _ _ => rfl)) ?_
  rintro ⟨y, V2, L2⟩ ⟨q1, q2, q3⟩
  dsimp only at q1 q2 q3 ⊢
  subst q1
  replace q2 := q2.symm
  subst q2
  have hw2 : ∀ w, (w < s ∨ s + 7 ≤ w) → w ≠ 21 → V2 w = V w := fun w h1 h2 => by rw [q3 w h2]; exact hw w h1 h2
  have hj2 : ∀ j, j ≠ 0 → j ≠ 4 → V2 s j = V s j := fun j h1 h2 => by rw [q3 s (by omega)]; exact hj j h1 h2
  have hS2 : SC V2 s (wrF U A a) := SC_fr hS1 (fun w h1 h2 => q3 w (by omega))
  cases ht : tgt U (wrF U A a) a with
  | none =>
    simp only [oi, q_lit, ↓q_m1, q_om, q_on, q_add, q_mul, q_sub, q_div, q_md, q_ltT, q_ltF, q_leT, q_leF, q_eqT, q_eqF, q_inT, q_inF, q_nn, q_mlt, q_ltm, q_mle, q_lem, q_nem, q_mne, ↓reduceIte]
    exact ih (U.1 - (a + 1)) _ (by omega) ⟨a + 1, V2, by omega, rfl, rfl, by rw [show wrF U A (a + 1) = wrS U a (wrF U A a) from rfl, wrS_n ht]; exact hS2, hw2, hj2⟩
  | some c =>
    obtain ⟨t1, t2, t3, t4⟩ := tgt_b hU hB ha' ht
    have hgo := fun V3 g1 g2 g3 => ih (U.1 - (a + 1)) (qi (a + 1), V3, L) (by omega) ⟨a + 1, V3, by omega, rfl, rfl, g1, g2, g3⟩
    rw [show wrF U A (a + 1) = wrS U a (wrF U A a) from rfl, wrS_s ht] at hgo
    have hsb := hB.2.1 (6 * a + c) (by omega)
    have hC2 : UC N G V2 u U := UC_fr2 hu hC (fun w h => hw2 w (by omega) (by omega))
    have e5 : V2 (u + 3) (6 * a + c) = qi (U.2.2.1 (6 * a + c)) := hC2.2.1 (6 * a + c) (by omega)
    have ei : a * 6 + c = 6 * a + c := by omega
    simp (disch := omega) only [oi, n3, ei, e5, ↓reduceIte, o_bind, and_true, true_and, and_false, false_and, or_true, true_or, or_false, false_or, not_true, not_false_eq_true, not_false_iff, ne_eq, Nat.reduceAdd, Nat.reduceMul, Nat.reduceSub, Nat.reduceDiv, Nat.reduceMod, Nat.reduceLT, Nat.reduceLeDiff, Nat.reduceEqDiff, Nat.not_lt, Nat.not_le, q_lit, ↓q_m1, q_om, q_on, q_add, q_mul, q_sub, q_div, q_md, q_ltT, q_ltF, q_leT, q_leF, q_eqT, q_eqF, q_inT, q_inF, q_nn, q_mlt, q_ltm, q_mle, q_lem, q_nem, q_mne, z_same, z_neP, z_neK, zL_same, zL_neP, zL_neK, zr_same, zr_ne]
    refine zW_call (c_post (L := L) (d := U.2.2.1 (6 * a + c)) hs hS2 t1 ⟨t4, hsb.1⟩ hsb.2.1 (by omega)) ?_
    rintro ⟨V3, L3⟩ ⟨p1, p2, p3, p4⟩
    dsimp only at p1 p2 p3 p4 ⊢
    subst p4
    exact hgo V3 p1 (fun w h1 h2 => by rw [p3 w h1]; exact hw2 w h1 h2) (fun j h1 h2 => by rw [p2 j h2]; exact hj2 j h1 h2)
set_option maxHeartbeats 4000000 in
theorem c_pass_s {N : Nat → Nat} {G : zG} {V : zI} {L : zL} {u s x : Nat} {U : aU} {A : aS} (hx : fxS N G) (hu : unS N G u) (hs : stS N G s) (hs2 : 6 ≤ s ∧ s + 7 ≤ 20) (hC : UC N G V u U) (hS : SC V s A) (hU : UB U) (hA : SB U A) (hxb : x < 2147483648) (hx0 : V 22 0 = qi x) : zW (f_X4_passDay_s N G 20 u s 22 V L) (fun r => SC r.1 s (dS (dayW U true A x) (if A.1 + 1 < 999 then A.1 + 1 else 999)) ∧ r.1 s 10 = qi (bX U true A x).2.2.2.1 ∧ r.1 s 11 = qi (bX U true A x).2.2.2.2.1 ∧ r.2 s 9 = (bX U true A x).2.2.2.2.2 ∧ (∀ w, (w < s ∨ s + 7 ≤ w) → w ≠ 21 → w ≠ 22 → r.1 w = V w) ∧ (∀ w, w ≠ s → r.2 w = L w) ∧ r.1 22 0 = qi (bX U true A x).2.2.1) := by
  have hu1 := hu.1
  obtain ⟨y1, y2, y3, y4, y5⟩ := bX_SB (dr := true) hU hA hxb
  have hbr := c_bring_s (L := L) hu hs hs2 hC hS hU hA hxb hx0
  unfold f_X4_passDay_s g_X4_passDay_s
  rw [hu.2.1.2.2, o_bind]
  refine zW_call hbr ?_
  rintro ⟨V1, L1⟩ ⟨q1, q2, q3, q4, q5, q6, q7⟩
  dsimp only at q1 q2 q3 q4 q5 q6 q7 ⊢
  have hC1 : UC N G V1 u U := UC_fr2 hu hC (fun w h => q5 w (by omega) (by omega))
  have hwl := c_wrL_s (L := L1) hx hu hs hs2 hC1 q1 hU y1
  refine zW_mono hwl (fun r hr => ?_)
  obtain ⟨p1, p2, p3, p4⟩ := hr
  have hd : (mS (bX U true A x).1 (bX U true A x).2.1).1 = A.1 := y2
  refine ⟨?_, ?_, ?_, ?_, fun w h1 h2 h3 => by rw [p2 w h1 h2]; exact q5 w h1 h3, fun w h => by rw [p4]; exact q6 w h, ?_⟩
  · rw [← hd]; exact p1
  · rw [p3 10 (by omega) (by omega)]; exact q2
  · rw [p3 11 (by omega) (by omega)]; exact q3
  · rw [p4]; exact q4
  · rw [p2 22 (by omega) (by omega)]; exact q7
theorem cpy_at {f g : Nat → Int32} {c : Int32} {n k : Nat} (hc : c.toNatClampNeg = n) (h : k < n) : va_cpy f g (0 : Int32).toNatClampNeg (0 : Int32).toNatClampNeg c.toNatClampNeg k = f k := by
  have z : (0 : Int32).toNatClampNeg = 0 := rfl
  rw [z, hc]
  unfold va_cpy
  rw [if_pos ⟨Nat.zero_le _, by omega⟩, Nat.zero_add, Nat.sub_zero]
set_option maxHeartbeats 4000000 in
theorem c_cpk {V : zI} {s t : Nat} {A : aS} (hd : s + 7 ≤ t ∨ t + 7 ≤ s) (hS : SC V t A) (hm : A.2.2.2.2.1 ≤ 60) (hk : A.2.2.2.2.2.2.2.1 ≤ 50) : ∀ V1 V2 V3 V4 V5 V6 V7 V8 V9 : zI, V1 = z_uI V s 0 (V t 0) → V2 = z_row V1 (s + 1) (va_cpy (V1 (t + 1)) (V1 (s + 1)) (0 : Int32).toNatClampNeg (0 : Int32).toNatClampNeg (36 : Int32).toNatClampNeg) → V3 = z_row V2 (s + 2) (va_cpy (V2 (t + 2)) (V2 (s + 2)) (0 : Int32).toNatClampNeg (0 : Int32).toNatClampNeg (36 : Int32).toNatClampNeg) → V4 = z_row V3 (s + 3) (va_cpy (V3 (t + 3)) (V3 (s + 3)) (0 : Int32).toNatClampNeg (0 : Int32).toNatClampNeg (36 : Int32).toNatClampNeg) → V5 = z_uI V4 s 4 (V4 t 4) → V6 = z_row V5 (s + 4) (va_cpy (V5 (t + 4)) (V5 (s + 4)) (0 : Int32).toNatClampNeg (0 : Int32).toNatClampNeg (60 : Int32).toNatClampNeg) → V7 = z_row V6 (s + 5) (va_cpy (V6 (t + 5)) (V6 (s + 5)) (0 : Int32).toNatClampNeg (0 : Int32).toNatClampNeg (60 : Int32).toNatClampNeg) → V8 = z_uI V7 s 7 (V7 t 7) → V9 = z_row V8 (s + 6) (va_cpy (V8 (t + 6)) (V8 (s + 6)) (0 : Int32).toNatClampNeg (0 : Int32).toNatClampNeg (50 : Int32).toNatClampNeg) → SC V9 s A ∧ ∀ w, (w < s ∨ s + 7 ≤ w) → V9 w = V w := by
  intro V1 V2 V3 V4 V5 V6 V7 V8 V9 h1 h2 h3 h4 h5 h6 h7 h8 h9
  have o1 : ∀ w, (w < s ∨ s + 7 ≤ w) → V1 w = V w := fun w h => by rw [h1, z_neP (by omega)]
  have o2 : ∀ w, (w < s ∨ s + 7 ≤ w) → V2 w = V w := fun w h => by rw [h2, zr_ne (by omega)]; exact o1 w h
  have o3 : ∀ w, (w < s ∨ s + 7 ≤ w) → V3 w = V w := fun w h => by rw [h3, zr_ne (by omega)]; exact o2 w h
  have o4 : ∀ w, (w < s ∨ s + 7 ≤ w) → V4 w = V w := fun w h => by rw [h4, zr_ne (by omega)]; exact o3 w h
  have o5 : ∀ w, (w < s ∨ s + 7 ≤ w) → V5 w = V w := fun w h => by rw [h5, z_neP (by omega)]; exact o4 w h
  have o6 : ∀ w, (w < s ∨ s + 7 ≤ w) → V6 w = V w := fun w h => by rw [h6, zr_ne (by omega)]; exact o5 w h
  have o7 : ∀ w, (w < s ∨ s + 7 ≤ w) → V7 w = V w := fun w h => by rw [h7, zr_ne (by omega)]; exact o6 w h
  have o8 : ∀ w, (w < s ∨ s + 7 ≤ w) → V8 w = V w := fun w h => by rw [h8, z_neP (by omega)]; exact o7 w h
  have o9 : ∀ w, (w < s ∨ s + 7 ≤ w) → V9 w = V w := fun w h => by rw [h9, zr_ne (by omega)]; exact o8 w h
  refine ⟨?_, o9⟩
  obtain ⟨day, held, sent, got, m, mp, ml, kn, kc⟩ := A
  obtain ⟨⟨a0, a4, a7⟩, s1, s2, s3, s4, s5, s6⟩ := hS
  dsimp only at hm hk
  refine ⟨⟨?_, ?_, ?_⟩, ?_, ?_, ?_, ?_, ?_, ?_⟩
  · rw [h9, zr_ne (by omega), h8, z_neK (by omega), h7, zr_ne (by omega), h6, zr_ne (by omega), h5, z_neK (by omega), h4, zr_ne (by omega), h3, zr_ne (by omega), h2, zr_ne (by omega), h1, z_same]; exact a0
  · rw [h9, zr_ne (by omega), h8, z_neK (by omega), h7, zr_ne (by omega), h6, zr_ne (by omega), h5, z_same, o4 t (by omega)]; exact a4
  · rw [h9, zr_ne (by omega), h8, z_same, o7 t (by omega)]; exact a7
  · intro k hk
    rw [h9, zr_ne (by omega), h8, z_neP (by omega), h7, zr_ne (by omega), h6, zr_ne (by omega), h5, z_neP (by omega), h4, zr_ne (by omega), h3, zr_ne (by omega), h2, zr_same, cpy_at rfl hk, o1 (t + 1) (by omega)]; exact s1 k hk
  · intro k hk
    rw [h9, zr_ne (by omega), h8, z_neP (by omega), h7, zr_ne (by omega), h6, zr_ne (by omega), h5, z_neP (by omega), h4, zr_ne (by omega), h3, zr_same, cpy_at rfl hk, o2 (t + 2) (by omega)]; exact s2 k hk
  · intro k hk
    rw [h9, zr_ne (by omega), h8, z_neP (by omega), h7, zr_ne (by omega), h6, zr_ne (by omega), h5, z_neP (by omega), h4, zr_same, cpy_at rfl hk, o3 (t + 3) (by omega)]; exact s3 k hk
  · intro k hk
    rw [h9, zr_ne (by omega), h8, z_neP (by omega), h7, zr_ne (by omega), h6, zr_same, cpy_at (n := 60) rfl (by omega), o5 (t + 4) (by omega)]; exact s4 k hk
  · intro k hk
    rw [h9, zr_ne (by omega), h8, z_neP (by omega), h7, zr_same, cpy_at (n := 60) rfl (by omega), o6 (t + 5) (by omega)]; exact s5 k hk
  · intro k hk
    rw [h9, zr_same, cpy_at (n := 50) rfl (by omega), o8 (t + 6) (by omega)]; exact s6 k hk
theorem cp_c {a b : Nat} {c : Int32} {n : Nat} (hc : c.toNatClampNeg = n) (h0 : ¬ c < 0) (ha : n ≤ a) (hb : n ≤ b) : ¬ (0 : Int32) < 0 ∧ ¬ (0 : Int32) < 0 ∧ ¬ c < 0 ∧ (0 : Int32).toNatClampNeg + c.toNatClampNeg ≤ a ∧ (0 : Int32).toNatClampNeg + c.toNatClampNeg ≤ b := by
  have z : (0 : Int32).toNatClampNeg = 0 := rfl
  rw [z, hc]
  exact ⟨by decide, by decide, h0, by omega, by omega⟩
set_option maxHeartbeats 4000000 in
theorem cs_copy {N : Nat → Nat} {G : zG} {V : zI} {L : zL} {s t : Nat} {A : aS} (hs : stS N G s) (ht : stS N G t) (hd : s + 7 ≤ t ∨ t + 7 ≤ s) (hS : SC V t A) (hm : A.2.2.2.2.1 ≤ 60) (hk : A.2.2.2.2.2.2.2.1 ≤ 50) : zW (f_X7_copyFrom N G s t V L) (fun r => SC r.1 s A ∧ (∀ w, (w < s ∨ s + 7 ≤ w) → r.1 w = V w) ∧ r.2 = L) := by
  obtain ⟨⟨g1, g2, g3, g5, g6, g8⟩, n1, n2, n3, n4, n5, n6⟩ := id hs
  obtain ⟨⟨k1, k2, k3, k5, k6, k8⟩, m1, m2, m3, m4, m5, m6⟩ := id ht
  have key := c_cpk hd hS hm hk
  unfold f_X7_copyFrom
  rw [g1, g2, g3, g5, g6, g8, k1, k2, k3, k5, k6, k8]
  simp only [o_bind]
  unfold g_X7_copyFrom
  refine zW_if1 (cp_c (n := 36) rfl (by decide) (by omega) (by omega)) ?_
  refine zW_if1 (cp_c (n := 36) rfl (by decide) (by omega) (by omega)) ?_
  refine zW_if1 (cp_c (n := 36) rfl (by decide) (by omega) (by omega)) ?_
  refine zW_if1 (cp_c (n := 60) rfl (by decide) (by omega) (by omega)) ?_
  refine zW_if1 (cp_c (n := 60) rfl (by decide) (by omega) (by omega)) ?_
  refine zW_if1 (cp_c (n := 50) rfl (by decide) (by omega) (by omega)) ?_
  have k2 := key _ _ _ _ _ _ _ _ _ rfl rfl rfl rfl rfl rfl rfl rfl rfl
  exact zW_some ⟨k2.1, k2.2, rfl⟩
set_option maxHeartbeats 4000000 in
theorem r_cp162 {V : zI} {L : zL} {a b kn : Nat} (ha : a < 22) (hb : b < 22) (hne : a ≠ b) (hk : kn ≤ 50) (h26 : V 26 b = qi kn) : zW (zfix b_copies_162 FU (qi a, qi b, 0, V, L)) (fun r => (∀ i, i < 4 * kn → r.1 27 (200 * a + i) = V 27 (200 * b + i)) ∧ (∀ i, (i < 200 * a ∨ 200 * a + 200 ≤ i) → r.1 27 i = V 27 i) ∧ (∀ w, w ≠ 27 → r.1 w = V w) ∧ r.2 = L) := by
  refine zW_lp (I := fun r q => ∃ (j : Nat) (V1 : zI), j ≤ 4 * kn ∧ r = 4 * kn - j ∧ q = (qi a, qi b, qi j, V1, L) ∧ (∀ i, i < j → V1 27 (200 * a + i) = V 27 (200 * b + i)) ∧ (∀ i, (i < 200 * a ∨ 200 * a + 200 ≤ i) → V1 27 i = V 27 i) ∧ (∀ w, w ≠ 27 → V1 w = V w)) ?_ FU (4 * kn) _ ⟨0, V, by omega, by omega, rfl, fun i h => absurd h (by omega), fun _ _ => rfl, fun _ _ => rfl⟩ (FU_big (by omega))
  rintro k r q ⟨j, V1, hj, rfl, rfl, h1, h2, h3⟩ ih
  have e26 : V1 26 b = qi kn := by rw [h3 26 (by omega)]; exact h26
  by_cases hend : j = 4 * kn
  · simp (disch := omega) only [b_copies_162, e26, hend, ↓reduceIte, o_bind, and_true, true_and, and_false, false_and, or_true, true_or, or_false, false_or, not_true, not_false_eq_true, not_false_iff, ne_eq, Nat.reduceAdd, Nat.reduceMul, Nat.reduceSub, Nat.reduceDiv, Nat.reduceMod, Nat.reduceLT, Nat.reduceLeDiff, Nat.reduceEqDiff, Nat.not_lt, Nat.not_le, q_lit, ↓q_m1, q_om, q_on, q_add, q_mul, q_sub, q_div, q_md, q_ltT, q_ltF, q_leT, q_leF, q_eqT, q_eqF, q_inT, q_inF, q_nn, q_mlt, q_ltm, q_mle, q_lem, q_nem, q_mne, z_same, z_neP, z_neK, zL_same, zL_neP, zL_neK, zr_same, zr_ne, Nat.le_refl]
    rw [hend] at h1
    exact zW_some ⟨h1, h2, h3, rfl⟩
  · have hn : ¬ 4 * kn ≤ j := by omega
    have eb : V1 27 (200 * b + j) = V 27 (200 * b + j) := h2 _ (by omega)
    simp (disch := omega) only [b_copies_162, e26, hn, eb, ↓reduceIte, o_bind, and_true, true_and, and_false, false_and, or_true, true_or, or_false, false_or, not_true, not_false_eq_true, not_false_iff, ne_eq, Nat.reduceAdd, Nat.reduceMul, Nat.reduceSub, Nat.reduceDiv, Nat.reduceMod, Nat.reduceLT, Nat.reduceLeDiff, Nat.reduceEqDiff, Nat.not_lt, Nat.not_le, q_lit, ↓q_m1, q_om, q_on, q_add, q_mul, q_sub, q_div, q_md, q_ltT, q_ltF, q_leT, q_leF, q_eqT, q_eqF, q_inT, q_inF, q_nn, q_mlt, q_ltm, q_mle, q_lem, q_nem, q_mne, z_same, z_neP, z_neK, zL_same, zL_neP, zL_neK, zr_same, zr_ne]
    refine ih (4 * kn - (j + 1)) _ (by omega) ⟨j + 1, _, by omega, rfl, rfl, fun i hi => ?_, fun i hi => by rw [z_neK (by omega)]; exact h2 i hi, fun w hw => by rw [z_neP hw]; exact h3 w hw⟩
    by_cases hij : i = j
    · subst hij; rw [z_same]
    · rw [z_neK (by omega)]; exact h1 i (by omega)
set_option maxHeartbeats 4000000 in
theorem r_cp106 {V : zI} {L : zL} {a b kn m : Nat} (ha : a < 22) (hb : b < 22) (hne : a ≠ b) (hk : kn ≤ 50) (hm : m ≤ 60) (h26 : V 26 b = qi kn) (h24 : V 24 b = qi m) : zW (zfix b_copies_106 FU (qi a, qi b, 0, V, L)) (fun r => (∀ i, i < 4 * kn → r.1 27 (200 * a + i) = V 27 (200 * b + i)) ∧ (∀ i, (i < 200 * a ∨ 200 * a + 200 ≤ i) → r.1 27 i = V 27 i) ∧ (∀ i, i < 3 * m → r.1 25 (180 * a + i) = V 25 (180 * b + i)) ∧ (∀ i, (i < 180 * a ∨ 180 * a + 180 ≤ i) → r.1 25 i = V 25 i) ∧ r.1 26 a = qi kn ∧ (∀ i, i ≠ a → r.1 26 i = V 26 i) ∧ (∀ w, w ≠ 25 → w ≠ 26 → w ≠ 27 → r.1 w = V w) ∧ r.2 = L) := by
  refine zW_lp (I := fun r q => ∃ (j : Nat) (V1 : zI), j ≤ 3 * m ∧ r = 3 * m - j ∧ q = (qi a, qi b, qi j, V1, L) ∧ (∀ i, i < j → V1 25 (180 * a + i) = V 25 (180 * b + i)) ∧ (∀ i, (i < 180 * a ∨ 180 * a + 180 ≤ i) → V1 25 i = V 25 i) ∧ (∀ w, w ≠ 25 → V1 w = V w)) ?_ FU (3 * m) _ ⟨0, V, by omega, by omega, rfl, fun i h => absurd h (by omega), fun _ _ => rfl, fun _ _ => rfl⟩ (FU_big (by omega))
  rintro k r q ⟨j, V1, hj, rfl, rfl, h1, h2, h3⟩ ih
  have e24 : V1 24 b = qi m := by rw [h3 24 (by omega)]; exact h24
  have e26 : V1 26 b = qi kn := by rw [h3 26 (by omega)]; exact h26
  by_cases hend : j = 3 * m
  · simp (disch := omega) only [b_copies_106, e24, e26, hend, ↓reduceIte, o_bind, and_true, true_and, and_false, false_and, or_true, true_or, or_false, false_or, not_true, not_false_eq_true, not_false_iff, ne_eq, Nat.reduceAdd, Nat.reduceMul, Nat.reduceSub, Nat.reduceDiv, Nat.reduceMod, Nat.reduceLT, Nat.reduceLeDiff, Nat.reduceEqDiff, Nat.not_lt, Nat.not_le, q_lit, ↓q_m1, q_om, q_on, q_add, q_mul, q_sub, q_div, q_md, q_ltT, q_ltF, q_leT, q_leF, q_eqT, q_eqF, q_inT, q_inF, q_nn, q_mlt, q_ltm, q_mle, q_lem, q_nem, q_mne, z_same, z_neP, z_neK, zL_same, zL_neP, zL_neK, zr_same, zr_ne, Nat.le_refl]
    rw [hend] at h1
    have h162 := r_cp162 (V := z_uI V1 26 a (qi kn)) (L := L) ha hb hne hk (by rw [z_neK (by omega)]; exact e26)
    refine zW_mono h162 (fun r hr => ?_)
    obtain ⟨q1, q2, q3, q4⟩ := hr
    refine ⟨fun i hi => ?_, fun i hi => ?_, fun i hi => ?_, fun i hi => ?_, ?_, fun i hi => ?_, fun w g1 g2 g3 => ?_, q4⟩
    · rw [q1 i hi, z_neP (by omega), h3 27 (by omega)]
    · rw [q2 i hi, z_neP (by omega), h3 27 (by omega)]
    · rw [q3 25 (by omega), z_neP (by omega)]; exact h1 i hi
    · rw [q3 25 (by omega), z_neP (by omega)]; exact h2 i hi
    · rw [q3 26 (by omega), z_same]
    · rw [q3 26 (by omega), z_neK hi, h3 26 (by omega)]
    · rw [q3 w g3, z_neP g2, h3 w g1]
  · have hn : ¬ 3 * m ≤ j := by omega
    have eb : V1 25 (180 * b + j) = V 25 (180 * b + j) := h2 _ (by omega)
    simp (disch := omega) only [b_copies_106, e24, hn, eb, ↓reduceIte, o_bind, and_true, true_and, and_false, false_and, or_true, true_or, or_false, false_or, not_true, not_false_eq_true, not_false_iff, ne_eq, Nat.reduceAdd, Nat.reduceMul, Nat.reduceSub, Nat.reduceDiv, Nat.reduceMod, Nat.reduceLT, Nat.reduceLeDiff, Nat.reduceEqDiff, Nat.not_lt, Nat.not_le, q_lit, ↓q_m1, q_om, q_on, q_add, q_mul, q_sub, q_div, q_md, q_ltT, q_ltF, q_leT, q_leF, q_eqT, q_eqF, q_inT, q_inF, q_nn, q_mlt, q_ltm, q_mle, q_lem, q_nem, q_mne, z_same, z_neP, z_neK, zL_same, zL_neP, zL_neK, zr_same, zr_ne]
    refine ih (3 * m - (j + 1)) _ (by omega) ⟨j + 1, _, by omega, rfl, rfl, fun i hi => ?_, fun i hi => by rw [z_neK (by omega)]; exact h2 i hi, fun w hw => by rw [z_neP hw]; exact h3 w hw⟩
    by_cases hij : i = j
    · subst hij; rw [z_same]
    · rw [z_neK (by omega)]; exact h1 i (by omega)
set_option maxHeartbeats 4000000 in
theorem r_copies {V : zI} {L : zL} {a b : Nat} {A : aS} (ha : a < 22) (hb : b < 22) (hne : a ≠ b) (hS : SR V b A) (hm : A.2.2.2.2.1 ≤ 60) (hk : A.2.2.2.2.2.2.2.1 ≤ 50) : zW (f_copies (qi a) (qi b) V L) (fun r => SR r.1 a A ∧ RFr a V r.1 ∧ (∀ w, (w < 20 ∨ 28 ≤ w) → r.1 w = V w) ∧ r.2 = L) := by
  obtain ⟨day, held, sent, got, m, mp, ml, kn, kc⟩ := A
  obtain ⟨⟨a0, a4, a7⟩, s1, s2, s3, s4, s5, s6, s7, s8, s9, s10⟩ := hS
  dsimp only at hm hk
  unfold f_copies
  simp (disch := omega) only [a0, ↓reduceIte, o_bind, and_true, true_and, and_false, false_and, or_true, true_or, or_false, false_or, not_true, not_false_eq_true, not_false_iff, ne_eq, Nat.reduceAdd, Nat.reduceMul, Nat.reduceSub, Nat.reduceDiv, Nat.reduceMod, Nat.reduceLT, Nat.reduceLeDiff, Nat.reduceEqDiff, Nat.not_lt, Nat.not_le, q_lit, ↓q_m1, q_om, q_on, q_add, q_mul, q_sub, q_div, q_md, q_ltT, q_ltF, q_leT, q_leF, q_eqT, q_eqF, q_inT, q_inF, q_nn, q_mlt, q_ltm, q_mle, q_lem, q_nem, q_mne, z_same, z_neP, z_neK, zL_same, zL_neP, zL_neK, zr_same, zr_ne]
  refine zW_lp (I := fun r q => ∃ (j : Nat) (V1 : zI), j ≤ 36 ∧ r = 36 - j ∧ q = (qi a, qi b, qi j, V1, L) ∧ (∀ i, i < j → V1 21 (36 * a + i) = qi (held i) ∧ V1 22 (36 * a + i) = qi (sent i) ∧ V1 23 (36 * a + i) = qi (got i)) ∧ (∀ i, (i < 36 * a ∨ 36 * a + 36 ≤ i) → V1 21 i = V 21 i ∧ V1 22 i = V 22 i ∧ V1 23 i = V 23 i) ∧ V1 20 a = qi day ∧ (∀ i, i ≠ a → V1 20 i = V 20 i) ∧ (∀ w, (w < 20 ∨ 24 ≤ w) → V1 w = V w)) ?_ FU 36 _ ⟨0, _, by omega, by omega, rfl, fun i h => absurd h (by omega), fun i _ => ⟨by rw [z_neP (by omega)], by rw [z_neP (by omega)], by rw [z_neP (by omega)]⟩, z_same, fun i hi => z_neK hi, fun w hw => z_neP (by omega)⟩ (FU_big (by omega))
  rintro k r q ⟨j, V1, hj, rfl, rfl, h1, h2, h20, h20', h3⟩ ih
  by_cases hend : j = 36
  · subst hend
    have e24 : V1 24 b = qi m := by rw [h3 24 (by omega)]; exact a4
    have e26 : V1 26 b = qi kn := by rw [h3 26 (by omega)]; exact a7
    simp (disch := omega) only [b_copies_14, e24, ↓reduceIte, o_bind, and_true, true_and, and_false, false_and, or_true, true_or, or_false, false_or, not_true, not_false_eq_true, not_false_iff, ne_eq, Nat.reduceAdd, Nat.reduceMul, Nat.reduceSub, Nat.reduceDiv, Nat.reduceMod, Nat.reduceLT, Nat.reduceLeDiff, Nat.reduceEqDiff, Nat.not_lt, Nat.not_le, q_lit, ↓q_m1, q_om, q_on, q_add, q_mul, q_sub, q_div, q_md, q_ltT, q_ltF, q_leT, q_leF, q_eqT, q_eqF, q_inT, q_inF, q_nn, q_mlt, q_ltm, q_mle, q_lem, q_nem, q_mne, z_same, z_neP, z_neK, zL_same, zL_neP, zL_neK, zr_same, zr_ne]
    have h106 := r_cp106 (V := z_uI V1 24 a (qi m)) (L := L) (kn := kn) (m := m) ha hb hne hk hm (by rw [z_neP (by omega)]; exact e26) (by rw [z_neK (by omega)]; exact e24)
    refine zW_mono h106 (fun r hr => ?_)
    obtain ⟨q1, q2, q3, q4, q5, q6, q7, q8⟩ := hr
    have p : ∀ w, w ≠ 24 → w ≠ 25 → w ≠ 26 → w ≠ 27 → r.1 w = V1 w := fun w g1 g2 g3 g4 => by rw [q7 w g2 g3 g4, z_neP g1]
    have p24 : r.1 24 a = qi m := by rw [q7 24 (by omega) (by omega) (by omega), z_same]
    have p24' : ∀ i, i ≠ a → r.1 24 i = V 24 i := fun i hi => by rw [q7 24 (by omega) (by omega) (by omega), z_neK hi, h3 24 (by omega)]
    have q1' : ∀ i, i < 4 * kn → r.1 27 (200 * a + i) = V 27 (200 * b + i) := fun i hi => by rw [q1 i hi, z_neP (by omega), h3 27 (by omega)]
    have q3' : ∀ i, i < 3 * m → r.1 25 (180 * a + i) = V 25 (180 * b + i) := fun i hi => by rw [q3 i hi, z_neP (by omega), h3 25 (by omega)]
    refine ⟨⟨⟨?_, p24, q5⟩, ?_, ?_, ?_, ?_, ?_, ?_, ?_, ?_, ?_, ?_⟩, ⟨fun w g1 g2 => ?_, fun i _ _ => ?_, fun i hi => ⟨?_, p24' i hi, ?_⟩, fun i hi => ?_, fun i hi => ?_, fun i hi => ?_⟩, fun w hw => ?_, q8⟩
    · rw [p 20 (by omega) (by omega) (by omega) (by omega)]; exact h20
    · intro i hi; rw [p 21 (by omega) (by omega) (by omega) (by omega)]; exact (h1 i hi).1
    · intro i hi; rw [p 22 (by omega) (by omega) (by omega) (by omega)]; exact (h1 i hi).2.1
    · intro i hi; rw [p 23 (by omega) (by omega) (by omega) (by omega)]; exact (h1 i hi).2.2
    · intro i hi; rw [q3' (3 * i) (by omega)]; exact s4 i hi
    · intro i hi; rw [show 180 * a + 3 * i + 1 = 180 * a + (3 * i + 1) by omega, q3' (3 * i + 1) (by omega)]; exact s5 i hi
    · intro i hi; rw [show 180 * a + 3 * i + 2 = 180 * a + (3 * i + 2) by omega, q3' (3 * i + 2) (by omega)]; exact s6 i hi
    · intro i hi; rw [q1' (4 * i) (by omega)]; exact s7 i hi
    · intro i hi; rw [show 200 * a + 4 * i + 1 = 200 * a + (4 * i + 1) by omega, q1' (4 * i + 1) (by omega)]; exact s8 i hi
    · intro i hi; rw [show 200 * a + 4 * i + 2 = 200 * a + (4 * i + 2) by omega, q1' (4 * i + 2) (by omega)]; exact s9 i hi
    · intro i hi; rw [show 200 * a + 4 * i + 3 = 200 * a + (4 * i + 3) by omega, q1' (4 * i + 3) (by omega)]; exact s10 i hi
    · rw [p w (by omega) (by omega) (by omega) (by omega)]; exact h3 w (by omega)
    · rw [p 0 (by omega) (by omega) (by omega) (by omega), h3 0 (by omega)]
    · rw [p 20 (by omega) (by omega) (by omega) (by omega)]; exact h20' i hi
    · rw [q6 i hi, z_neP (by omega), h3 26 (by omega)]
    · rw [p 21 (by omega) (by omega) (by omega) (by omega), p 22 (by omega) (by omega) (by omega) (by omega), p 23 (by omega) (by omega) (by omega) (by omega)]; exact h2 i hi
    · rw [q4 i hi, z_neP (by omega), h3 25 (by omega)]
    · rw [q2 i hi, z_neP (by omega), h3 27 (by omega)]
    · rw [p w (by omega) (by omega) (by omega) (by omega)]; exact h3 w (by omega)
  · have hn : ¬ 36 ≤ j := by omega
    have hjb := h2 (36 * b + j) (by omega)
    have e1 : V1 21 (36 * b + j) = qi (held j) := by rw [hjb.1]; exact s1 j (by omega)
    have e2 : V1 22 (36 * b + j) = qi (sent j) := by rw [hjb.2.1]; exact s2 j (by omega)
    have e3 : V1 23 (36 * b + j) = qi (got j) := by rw [hjb.2.2]; exact s3 j (by omega)
    simp (disch := omega) only [b_copies_14, e1, e2, e3, ↓reduceIte, o_bind, and_true, true_and, and_false, false_and, or_true, true_or, or_false, false_or, not_true, not_false_eq_true, not_false_iff, ne_eq, Nat.reduceAdd, Nat.reduceMul, Nat.reduceSub, Nat.reduceDiv, Nat.reduceMod, Nat.reduceLT, Nat.reduceLeDiff, Nat.reduceEqDiff, Nat.not_lt, Nat.not_le, q_lit, ↓q_m1, q_om, q_on, q_add, q_mul, q_sub, q_div, q_md, q_ltT, q_ltF, q_leT, q_leF, q_eqT, q_eqF, q_inT, q_inF, q_nn, q_mlt, q_ltm, q_mle, q_lem, q_nem, q_mne, z_same, z_neP, z_neK, zL_same, zL_neP, zL_neK, zr_same, zr_ne]
    refine ih (36 - (j + 1)) _ (by omega) ⟨j + 1, _, by omega, rfl, rfl, fun i hi => ?_, fun i hi => ?_, ?_, fun i hi => ?_, fun w hw => ?_⟩
    · by_cases hij : i = j
      · subst hij; simp (disch := omega) only [z_same, z_neP, z_neK, zL_same, zL_neP, zL_neK, zr_same, zr_ne, and_self]
      · simp (disch := omega) only [z_same, z_neP, z_neK, zL_same, zL_neP, zL_neK, zr_same, zr_ne]; exact h1 i (by omega)
    · simp (disch := omega) only [z_same, z_neP, z_neK, zL_same, zL_neP, zL_neK, zr_same, zr_ne]; exact h2 i hi
    · simp (disch := omega) only [z_same, z_neP, z_neK, zL_same, zL_neP, zL_neK, zr_same, zr_ne]; exact h20
    · simp (disch := omega) only [z_same, z_neP, z_neK, zL_same, zL_neP, zL_neK, zr_same, zr_ne]; exact h20' i hi
    · simp (disch := omega) only [z_same, z_neP, z_neK, zL_same, zL_neP, zL_neK, zr_same, zr_ne]; exact h3 w hw
end
