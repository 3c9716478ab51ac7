section
theorem fct_b {U : aU} {A : aS} {k : Nat} {h : Int} (hU : UB U) (hA : SB U A) (hk : k < 36) (hh : -1 ≤ h ∧ h ≤ 100) : ∀ c, c < 5 → -1000000 ≤ fct U A k h c ∧ fct U A k h c ≤ 1000000 := by
  obtain ⟨tw, ct, way, encl, lost, rul, nam⟩ := U
  obtain ⟨day, held, sent, got, m, mp, ml, kn, kc⟩ := A
  obtain ⟨-, hw, -⟩ := hU
  obtain ⟨⟨hd, -⟩, hc, -⟩ := hA
  have h1 := hw k hk
  have h2 := hc k hk
  intro c _
  unfold fct
  dsimp only
  repeat' split
  all_goals omega
theorem c_fact {N : Nat → Nat} {G : zG} {V : zI} {L : zL} {u s k : Nat} {U : aU} {A : aS} {h : Int} (hu : unS N G u) (hs : stS N G s) (hC : UC N G V u U) (hS : SC V s A) (hB : UB U) (hk : k < 36) : ∀ c, c < 5 → f_X4_factOf N G u s (qi c) (qi k) (qz h) V L = some (qz (fct U A k h c)) := by
  obtain ⟨tw, ct, way, encl, lost, rul, nam⟩ := U
  obtain ⟨day, held, sent, got, m, mp, ml, kn, kc⟩ := A
  obtain ⟨-, h5, -⟩ := hC
  obtain ⟨⟨hd, -⟩, -, hse, hgo, -⟩ := hS
  obtain ⟨-, hw, -⟩ := hB
  obtain ⟨-, ⟨-, -, g7⟩, -, -, n3⟩ := hu
  obtain ⟨⟨-, g2, g3, -⟩, -, m2, m3, -⟩ := hs
  have hwk := hw k hk
  intro c hc
  unfold f_X4_factOf g_X4_factOf fct
  rw [g7, g2, g3]
  match c, hc with
  | 0, _ => simp (disch := omega) only [↓reduceIte, o_bind, and_true, true_and, and_false, false_and, or_true, true_or, or_false, false_or, not_true, not_false_eq_true, not_false_iff, ne_eq, Nat.reduceAdd, Nat.reduceMul, Nat.reduceSub, Nat.reduceDiv, Nat.reduceMod, Nat.reduceLT, Nat.reduceLeDiff, Nat.reduceEqDiff, Nat.not_lt, Nat.not_le, q_lit, ↓q_m1, q_om, q_on, q_add, q_mul, q_sub, q_div, q_md, q_ltT, q_ltF, q_leT, q_leF, q_eqT, q_eqF, q_inT, q_inF, q_nn, q_mlt, q_ltm, q_mle, q_lem, q_nem, q_mne, z_same, z_neP, z_neK, zL_same, zL_neP, zL_neK, zr_same, zr_ne]
  | 1, _ =>
    simp (disch := omega) only [↓reduceIte, o_bind, and_true, true_and, and_false, false_and, or_true, true_or, or_false, false_or, not_true, not_false_eq_true, not_false_iff, ne_eq, Nat.reduceAdd, Nat.reduceMul, Nat.reduceSub, Nat.reduceDiv, Nat.reduceMod, Nat.reduceLT, Nat.reduceLeDiff, Nat.reduceEqDiff, Nat.not_lt, Nat.not_le, q_lit, ↓q_m1, q_om, q_on, q_add, q_mul, q_sub, q_div, q_md, q_ltT, q_ltF, q_leT, q_leF, q_eqT, q_eqF, q_inT, q_inF, q_nn, q_mlt, q_ltm, q_mle, q_lem, q_nem, q_mne, z_same, z_neP, z_neK, zL_same, zL_neP, zL_neK, zr_same, zr_ne, n3, h5]
    by_cases h0 : way k = 0
    · simp (disch := omega) only [h0, ↓reduceIte, o_bind, and_true, true_and, and_false, false_and, or_true, true_or, or_false, false_or, not_true, not_false_eq_true, not_false_iff, ne_eq, Nat.reduceAdd, Nat.reduceMul, Nat.reduceSub, Nat.reduceDiv, Nat.reduceMod, Nat.reduceLT, Nat.reduceLeDiff, Nat.reduceEqDiff, Nat.not_lt, Nat.not_le, q_lit, ↓q_m1, q_om, q_on, q_add, q_mul, q_sub, q_div, q_md, q_ltT, q_ltF, q_leT, q_leF, q_eqT, q_eqF, q_inT, q_inF, q_nn, q_mlt, q_ltm, q_mle, q_lem, q_nem, q_mne, z_same, z_neP, z_neK, zL_same, zL_neP, zL_neK, zr_same, zr_ne, Nat.le_refl]; rfl
    · have h0' : ¬ way k ≤ 0 := by omega
      simp (disch := omega) only [h0, h0', ↓reduceIte, o_bind, and_true, true_and, and_false, false_and, or_true, true_or, or_false, false_or, not_true, not_false_eq_true, not_false_iff, ne_eq, Nat.reduceAdd, Nat.reduceMul, Nat.reduceSub, Nat.reduceDiv, Nat.reduceMod, Nat.reduceLT, Nat.reduceLeDiff, Nat.reduceEqDiff, Nat.not_lt, Nat.not_le, q_lit, ↓q_m1, q_om, q_on, q_add, q_mul, q_sub, q_div, q_md, q_ltT, q_ltF, q_leT, q_leF, q_eqT, q_eqF, q_inT, q_inF, q_nn, q_mlt, q_ltm, q_mle, q_lem, q_nem, q_mne, z_same, z_neP, z_neK, zL_same, zL_neP, zL_neK, zr_same, zr_ne]; rw [qi_z]
  | 2, _ => simp (disch := omega) only [↓reduceIte, o_bind, and_true, true_and, and_false, false_and, or_true, true_or, or_false, false_or, not_true, not_false_eq_true, not_false_iff, ne_eq, Nat.reduceAdd, Nat.reduceMul, Nat.reduceSub, Nat.reduceDiv, Nat.reduceMod, Nat.reduceLT, Nat.reduceLeDiff, Nat.reduceEqDiff, Nat.not_lt, Nat.not_le, q_lit, ↓q_m1, q_om, q_on, q_add, q_mul, q_sub, q_div, q_md, q_ltT, q_ltF, q_leT, q_leF, q_eqT, q_eqF, q_inT, q_inF, q_nn, q_mlt, q_ltm, q_mle, q_lem, q_nem, q_mne, z_same, z_neP, z_neK, zL_same, zL_neP, zL_neK, zr_same, zr_ne, hd]; rw [qi_z]
  | 3, _ => simp (disch := omega) only [↓reduceIte, o_bind, and_true, true_and, and_false, false_and, or_true, true_or, or_false, false_or, not_true, not_false_eq_true, not_false_iff, ne_eq, Nat.reduceAdd, Nat.reduceMul, Nat.reduceSub, Nat.reduceDiv, Nat.reduceMod, Nat.reduceLT, Nat.reduceLeDiff, Nat.reduceEqDiff, Nat.not_lt, Nat.not_le, q_lit, ↓q_m1, q_om, q_on, q_add, q_mul, q_sub, q_div, q_md, q_ltT, q_ltF, q_leT, q_leF, q_eqT, q_eqF, q_inT, q_inF, q_nn, q_mlt, q_ltm, q_mle, q_lem, q_nem, q_mne, z_same, z_neP, z_neK, zL_same, zL_neP, zL_neK, zr_same, zr_ne, m2, hse]; rw [qi_z]
  | 4, _ => simp (disch := omega) only [↓reduceIte, o_bind, and_true, true_and, and_false, false_and, or_true, true_or, or_false, false_or, not_true, not_false_eq_true, not_false_iff, ne_eq, Nat.reduceAdd, Nat.reduceMul, Nat.reduceSub, Nat.reduceDiv, Nat.reduceMod, Nat.reduceLT, Nat.reduceLeDiff, Nat.reduceEqDiff, Nat.not_lt, Nat.not_le, q_lit, ↓q_m1, q_om, q_on, q_add, q_mul, q_sub, q_div, q_md, q_ltT, q_ltF, q_leT, q_leF, q_eqT, q_eqF, q_inT, q_inF, q_nn, q_mlt, q_ltm, q_mle, q_lem, q_nem, q_mne, z_same, z_neP, z_neK, zL_same, zL_neP, zL_neK, zr_same, zr_ne, m3, hgo]; rw [qi_z]
theorem r_tells {V : zI} {L : zL} {b v x y : Nat} {U : aU} {A : aS} {h : Nat} (hU : UR V L b U) (hB : UB U) (hv : v < 22) (hx : x < 6) (hy : y < 6) (hu0 : 0 < U.1) (hd : V 20 v = qi A.1) (hh : V 21 (36 * v + (6 * x + y)) = qi h) (hse : V 22 (36 * v + (6 * x + y)) = qi (A.2.2.1 (6 * x + y))) (hgo : V 23 (36 * v + (6 * x + y)) = qi (A.2.2.2.1 (6 * x + y))) : zW (f_tells (qi v) (qi x) (qi y) V L) (fun r => r.2 = L ∧ (∀ w, w ≠ 29 → r.1 w = V w) ∧ ∀ c, c < 5 → r.1 29 (c + 1) = qz (fct U A (6 * x + y) h c)) := by
  have e3 : 36 * v + 6 * x + y = 36 * v + (6 * x + y) := by omega
  have hU2 : UR (z_uI V 29 1 (qi h)) L b U := by
    obtain ⟨tw, ct, way, encl, lost, rul, nam⟩ := U
    simp (disch := omega) only [UR, z_neP] at hU ⊢
    exact hU
  have hw1 := f_isWay_e (L := L) hU2 hB hx hy hu0
  obtain ⟨tw, ct, way, encl, lost, rul, nam⟩ := U
  obtain ⟨day, held, sent, got, m, mp, ml, kn, kc⟩ := A
  dsimp only at hd hse hgo hw1
  unfold f_tells f_tells_47 f_at
  simp (disch := omega) only [↓reduceIte, o_bind, and_true, true_and, and_false, false_and, or_true, true_or, or_false, false_or, not_true, not_false_eq_true, not_false_iff, ne_eq, Nat.reduceAdd, Nat.reduceMul, Nat.reduceSub, Nat.reduceDiv, Nat.reduceMod, Nat.reduceLT, Nat.reduceLeDiff, Nat.reduceEqDiff, Nat.not_lt, Nat.not_le, q_lit, ↓q_m1, q_om, q_on, q_add, q_mul, q_sub, q_div, q_md, q_ltT, q_ltF, q_leT, q_leF, q_eqT, q_eqF, q_inT, q_inF, q_nn, q_mlt, q_ltm, q_mle, q_lem, q_nem, q_mne, z_same, z_neP, z_neK, zL_same, zL_neP, zL_neK, zr_same, zr_ne, e3, hh, hw1]
  by_cases h0 : 0 < way (6 * x + y)
  · have hw2 := f_wayBy_e (L := L) hU2 hB hx hy h0
    dsimp only at hw2
    simp (disch := omega) only [↓reduceIte, o_bind, and_true, true_and, and_false, false_and, or_true, true_or, or_false, false_or, not_true, not_false_eq_true, not_false_iff, ne_eq, Nat.reduceAdd, Nat.reduceMul, Nat.reduceSub, Nat.reduceDiv, Nat.reduceMod, Nat.reduceLT, Nat.reduceLeDiff, Nat.reduceEqDiff, Nat.not_lt, Nat.not_le, q_lit, ↓q_m1, q_om, q_on, q_add, q_mul, q_sub, q_div, q_md, q_ltT, q_ltF, q_leT, q_leF, q_eqT, q_eqF, q_inT, q_inF, q_nn, q_mlt, q_ltm, q_mle, q_lem, q_nem, q_mne, z_same, z_neP, z_neK, zL_same, zL_neP, zL_neK, zr_same, zr_ne, h0, hw2, e3, hd, hse, hgo]
    refine zW_some ⟨rfl, fun w hw => by simp (disch := omega) only [z_neP], fun c hc => ?_⟩
    have h0' : ¬ way (6 * x + y) = 0 := by omega
    match c, hc with
    | 0, _ => simp (disch := omega) only [↓reduceIte, o_bind, and_true, true_and, and_false, false_and, or_true, true_or, or_false, false_or, not_true, not_false_eq_true, not_false_iff, ne_eq, Nat.reduceAdd, Nat.reduceMul, Nat.reduceSub, Nat.reduceDiv, Nat.reduceMod, Nat.reduceLT, Nat.reduceLeDiff, Nat.reduceEqDiff, Nat.not_lt, Nat.not_le, q_lit, ↓q_m1, q_om, q_on, q_add, q_mul, q_sub, q_div, q_md, q_ltT, q_ltF, q_leT, q_leF, q_eqT, q_eqF, q_inT, q_inF, q_nn, q_mlt, q_ltm, q_mle, q_lem, q_nem, q_mne, z_same, z_neP, z_neK, zL_same, zL_neP, zL_neK, zr_same, zr_ne, fct]; exact qi_z _
    | 1, _ => simp (disch := omega) only [↓reduceIte, o_bind, and_true, true_and, and_false, false_and, or_true, true_or, or_false, false_or, not_true, not_false_eq_true, not_false_iff, ne_eq, Nat.reduceAdd, Nat.reduceMul, Nat.reduceSub, Nat.reduceDiv, Nat.reduceMod, Nat.reduceLT, Nat.reduceLeDiff, Nat.reduceEqDiff, Nat.not_lt, Nat.not_le, q_lit, ↓q_m1, q_om, q_on, q_add, q_mul, q_sub, q_div, q_md, q_ltT, q_ltF, q_leT, q_leF, q_eqT, q_eqF, q_inT, q_inF, q_nn, q_mlt, q_ltm, q_mle, q_lem, q_nem, q_mne, z_same, z_neP, z_neK, zL_same, zL_neP, zL_neK, zr_same, zr_ne, fct, h0']; exact qi_z _
    | 2, _ => simp (disch := omega) only [↓reduceIte, o_bind, and_true, true_and, and_false, false_and, or_true, true_or, or_false, false_or, not_true, not_false_eq_true, not_false_iff, ne_eq, Nat.reduceAdd, Nat.reduceMul, Nat.reduceSub, Nat.reduceDiv, Nat.reduceMod, Nat.reduceLT, Nat.reduceLeDiff, Nat.reduceEqDiff, Nat.not_lt, Nat.not_le, q_lit, ↓q_m1, q_om, q_on, q_add, q_mul, q_sub, q_div, q_md, q_ltT, q_ltF, q_leT, q_leF, q_eqT, q_eqF, q_inT, q_inF, q_nn, q_mlt, q_ltm, q_mle, q_lem, q_nem, q_mne, z_same, z_neP, z_neK, zL_same, zL_neP, zL_neK, zr_same, zr_ne, fct]; exact qi_z _
    | 3, _ => simp (disch := omega) only [↓reduceIte, o_bind, and_true, true_and, and_false, false_and, or_true, true_or, or_false, false_or, not_true, not_false_eq_true, not_false_iff, ne_eq, Nat.reduceAdd, Nat.reduceMul, Nat.reduceSub, Nat.reduceDiv, Nat.reduceMod, Nat.reduceLT, Nat.reduceLeDiff, Nat.reduceEqDiff, Nat.not_lt, Nat.not_le, q_lit, ↓q_m1, q_om, q_on, q_add, q_mul, q_sub, q_div, q_md, q_ltT, q_ltF, q_leT, q_leF, q_eqT, q_eqF, q_inT, q_inF, q_nn, q_mlt, q_ltm, q_mle, q_lem, q_nem, q_mne, z_same, z_neP, z_neK, zL_same, zL_neP, zL_neK, zr_same, zr_ne, fct]; exact qi_z _
    | 4, _ => simp (disch := omega) only [↓reduceIte, o_bind, and_true, true_and, and_false, false_and, or_true, true_or, or_false, false_or, not_true, not_false_eq_true, not_false_iff, ne_eq, Nat.reduceAdd, Nat.reduceMul, Nat.reduceSub, Nat.reduceDiv, Nat.reduceMod, Nat.reduceLT, Nat.reduceLeDiff, Nat.reduceEqDiff, Nat.not_lt, Nat.not_le, q_lit, ↓q_m1, q_om, q_on, q_add, q_mul, q_sub, q_div, q_md, q_ltT, q_ltF, q_leT, q_leF, q_eqT, q_eqF, q_inT, q_inF, q_nn, q_mlt, q_ltm, q_mle, q_lem, q_nem, q_mne, z_same, z_neP, z_neK, zL_same, zL_neP, zL_neK, zr_same, zr_ne, fct]; exact qi_z _
  · have h0' : way (6 * x + y) = 0 := by omega
    simp (disch := omega) only [↓reduceIte, o_bind, and_true, true_and, and_false, false_and, or_true, true_or, or_false, false_or, not_true, not_false_eq_true, not_false_iff, ne_eq, Nat.reduceAdd, Nat.reduceMul, Nat.reduceSub, Nat.reduceDiv, Nat.reduceMod, Nat.reduceLT, Nat.reduceLeDiff, Nat.reduceEqDiff, Nat.not_lt, Nat.not_le, q_lit, ↓q_m1, q_om, q_on, q_add, q_mul, q_sub, q_div, q_md, q_ltT, q_ltF, q_leT, q_leF, q_eqT, q_eqF, q_inT, q_inF, q_nn, q_mlt, q_ltm, q_mle, q_lem, q_nem, q_mne, z_same, z_neP, z_neK, zL_same, zL_neP, zL_neK, zr_same, zr_ne, h0', Nat.lt_irrefl, e3, hd, hse, hgo]
    refine zW_some ⟨rfl, fun w hw => by simp (disch := omega) only [z_neP], fun c hc => ?_⟩
    match c, hc with
    | 0, _ => simp (disch := omega) only [↓reduceIte, o_bind, and_true, true_and, and_false, false_and, or_true, true_or, or_false, false_or, not_true, not_false_eq_true, not_false_iff, ne_eq, Nat.reduceAdd, Nat.reduceMul, Nat.reduceSub, Nat.reduceDiv, Nat.reduceMod, Nat.reduceLT, Nat.reduceLeDiff, Nat.reduceEqDiff, Nat.not_lt, Nat.not_le, q_lit, ↓q_m1, q_om, q_on, q_add, q_mul, q_sub, q_div, q_md, q_ltT, q_ltF, q_leT, q_leF, q_eqT, q_eqF, q_inT, q_inF, q_nn, q_mlt, q_ltm, q_mle, q_lem, q_nem, q_mne, z_same, z_neP, z_neK, zL_same, zL_neP, zL_neK, zr_same, zr_ne, fct]; exact qi_z _
    | 1, _ => simp (disch := omega) only [↓reduceIte, o_bind, and_true, true_and, and_false, false_and, or_true, true_or, or_false, false_or, not_true, not_false_eq_true, not_false_iff, ne_eq, Nat.reduceAdd, Nat.reduceMul, Nat.reduceSub, Nat.reduceDiv, Nat.reduceMod, Nat.reduceLT, Nat.reduceLeDiff, Nat.reduceEqDiff, Nat.not_lt, Nat.not_le, q_lit, ↓q_m1, q_om, q_on, q_add, q_mul, q_sub, q_div, q_md, q_ltT, q_ltF, q_leT, q_leF, q_eqT, q_eqF, q_inT, q_inF, q_nn, q_mlt, q_ltm, q_mle, q_lem, q_nem, q_mne, z_same, z_neP, z_neK, zL_same, zL_neP, zL_neK, zr_same, zr_ne, fct, h0']; rfl
    | 2, _ => simp (disch := omega) only [↓reduceIte, o_bind, and_true, true_and, and_false, false_and, or_true, true_or, or_false, false_or, not_true, not_false_eq_true, not_false_iff, ne_eq, Nat.reduceAdd, Nat.reduceMul, Nat.reduceSub, Nat.reduceDiv, Nat.reduceMod, Nat.reduceLT, Nat.reduceLeDiff, Nat.reduceEqDiff, Nat.not_lt, Nat.not_le, q_lit, ↓q_m1, q_om, q_on, q_add, q_mul, q_sub, q_div, q_md, q_ltT, q_ltF, q_leT, q_leF, q_eqT, q_eqF, q_inT, q_inF, q_nn, q_mlt, q_ltm, q_mle, q_lem, q_nem, q_mne, z_same, z_neP, z_neK, zL_same, zL_neP, zL_neK, zr_same, zr_ne, fct]; exact qi_z _
    | 3, _ => simp (disch := omega) only [↓reduceIte, o_bind, and_true, true_and, and_false, false_and, or_true, true_or, or_false, false_or, not_true, not_false_eq_true, not_false_iff, ne_eq, Nat.reduceAdd, Nat.reduceMul, Nat.reduceSub, Nat.reduceDiv, Nat.reduceMod, Nat.reduceLT, Nat.reduceLeDiff, Nat.reduceEqDiff, Nat.not_lt, Nat.not_le, q_lit, ↓q_m1, q_om, q_on, q_add, q_mul, q_sub, q_div, q_md, q_ltT, q_ltF, q_leT, q_leF, q_eqT, q_eqF, q_inT, q_inF, q_nn, q_mlt, q_ltm, q_mle, q_lem, q_nem, q_mne, z_same, z_neP, z_neK, zL_same, zL_neP, zL_neK, zr_same, zr_ne, fct]; exact qi_z _
    | 4, _ => simp (disch := omega) only [↓reduceIte, o_bind, and_true, true_and, and_false, false_and, or_true, true_or, or_false, false_or, not_true, not_false_eq_true, not_false_iff, ne_eq, Nat.reduceAdd, Nat.reduceMul, Nat.reduceSub, Nat.reduceDiv, Nat.reduceMod, Nat.reduceLT, Nat.reduceLeDiff, Nat.reduceEqDiff, Nat.not_lt, Nat.not_le, q_lit, ↓q_m1, q_om, q_on, q_add, q_mul, q_sub, q_div, q_md, q_ltT, q_ltF, q_leT, q_leF, q_eqT, q_eqF, q_inT, q_inF, q_nn, q_mlt, q_ltm, q_mle, q_lem, q_nem, q_mne, z_same, z_neP, z_neK, zL_same, zL_neP, zL_neK, zr_same, zr_ne, fct]; exact qi_z _
theorem UC_fr {N : Nat → Nat} {G : zG} {V V' : zI} {u : Nat} {U : aU} (h : UC N G V u U) (hv : ∀ w, (w = u ∨ w = u + 1 ∨ w = u + 2 ∨ w = u + 3 ∨ ∃ r, r < 3 ∧ G u (8 + r) = some w) → V' w = V w) : UC N G V' u U := by
  obtain ⟨tw, ct, way, encl, lost, rul, nam⟩ := U
  obtain ⟨h0, h1, h2, h3⟩ := h
  have e0 := hv u (by omega)
  have e1 := hv (u + 1) (by omega)
  have e2 := hv (u + 2) (by omega)
  have e3 := hv (u + 3) (by omega)
  refine ⟨by rw [e0]; exact h0, by rw [e3]; exact h1, by rw [e1, e2]; exact h2, fun r hr => ⟨(h3 r hr).1, fun l hl => ?_⟩⟩
  obtain ⟨p, g1, g2, g3, g4⟩ := (h3 r hr).2 l hl
  refine ⟨p, g1, g2, g3, ?_⟩
  rw [hv p (by exact Or.inr (Or.inr (Or.inr (Or.inr ⟨r, hr, g1⟩))))]
  exact g4
theorem UC_fr2 {N : Nat → Nat} {G : zG} {V V' : zI} {u : Nat} {U : aU} (hu : unS N G u) (h : UC N G V u U) (hv : ∀ w, ((2 ≤ w ∧ w < 6) ∨ 28 ≤ w) → V' w = V w) : UC N G V' u U := by
  have h' := h
  obtain ⟨tw, ct, way, encl, lost, rul, nam⟩ := U
  obtain ⟨-, -, -, h3⟩ := h'
  have hu' := hu.1
  refine UC_fr h (fun w hw => hv w ?_)
  rcases hw with rfl | rfl | rfl | rfl | ⟨r, hr, hg⟩
  · omega
  · omega
  · omega
  · omega
  · cases hl : rul r with
    | none => rw [(h3 r hr).1 hl] at hg; cases hg
    | some l =>
      obtain ⟨p, g1, g2, -⟩ := (h3 r hr).2 l hl
      rw [g1] at hg
      cases hg
      omega
theorem SC_fr {V V' : zI} {s : Nat} {A : aS} (h : SC V s A) (hv : ∀ w, s ≤ w → w < s + 7 → V' w = V w) : SC V' s A := by
  obtain ⟨day, held, sent, got, m, mp, ml, kn, kc⟩ := A
  obtain ⟨h0, h1, h2, h3, h4, h5, h6⟩ := h
  refine ⟨by rw [hv s (by omega) (by omega)]; exact h0, by rw [hv (s + 1) (by omega) (by omega)]; exact h1, by rw [hv (s + 2) (by omega) (by omega)]; exact h2, by rw [hv (s + 3) (by omega) (by omega)]; exact h3, by rw [hv (s + 4) (by omega) (by omega)]; exact h4, by rw [hv (s + 5) (by omega) (by omega)]; exact h5, by rw [hv (s + 6) (by omega) (by omega)]; exact h6⟩
theorem SR_fr {V V' : zI} {v : Nat} {A : aS} (h : SR V v A) (hv : ∀ w, 20 ≤ w → w < 28 → V' w = V w) : SR V' v A := by
  obtain ⟨day, held, sent, got, m, mp, ml, kn, kc⟩ := A
  unfold SR at h ⊢
  rw [hv 20 (by omega) (by omega), hv 21 (by omega) (by omega), hv 22 (by omega) (by omega), hv 23 (by omega) (by omega), hv 24 (by omega) (by omega), hv 25 (by omega) (by omega), hv 26 (by omega) (by omega), hv 27 (by omega) (by omega)]
  exact h
theorem UR_fr {V V' : zI} {L L' : zL} {b : Nat} {U : aU} (h : UR V L b U) (h0 : V' 0 13 = V 0 13) (hv : ∀ w, 2 ≤ w → w < 12 → w ≠ 4 → w ≠ 6 → V' w = V w) (hl : L' 12 = L 12) : UR V' L' b U := by
  obtain ⟨tw, ct, way, encl, lost, rul, nam⟩ := U
  unfold UR at h ⊢
  rw [h0, hl, hv 2 (by omega) (by omega) (by omega) (by omega), hv 3 (by omega) (by omega) (by omega) (by omega), hv 5 (by omega) (by omega) (by omega) (by omega), hv 7 (by omega) (by omega) (by omega) (by omega), hv 8 (by omega) (by omega) (by omega) (by omega), hv 9 (by omega) (by omega) (by omega) (by omega), hv 10 (by omega) (by omega) (by omega) (by omega), hv 11 (by omega) (by omega) (by omega) (by omega)]
  exact h
/-- a rule's value -/
def rv (U : aU) (A : aS) (r k : Nat) (h : Int) : Int := match U.2.2.2.2.2.1 r with
  | none => if r = 1 then 0 else 1
  | some l => (evL (fct U A k h) l ev0).2 0
theorem ev_all {f : Nat → Int} (hf : ∀ c, c < 5 → -1000000 ≤ f c ∧ f c ≤ 1000000) : ∀ (l : List Nat) (n : Nat) (t : Nat → Bool) (s : Nat → Int) (y : tyT), tyL l (n, t) = some y → evI n t s → evI y.1 y.2 (evL f l (n, s)).2 ∧ (evL f l (n, s)).1 = y.1 := by
  intro l
  induction l with
  | nil => intro n t s y h hI; cases h; exact ⟨hI, rfl⟩
  | cons c l ih =>
    intro n t s y h hI
    have h' : (tyS c (n, t)).bind (tyL l) = some y := h
    cases hc : tyS c (n, t) with
    | none => rw [hc] at h'; cases h'
    | some z =>
      rw [hc] at h'
      obtain ⟨g1, g2⟩ := ev_step hc hf hI
      have := ih z.1 z.2 (evS f c (n, s)).2 y h' g1
      rw [← g2] at this
      exact this
theorem rv_b {U : aU} {A : aS} {r k : Nat} {h : Int} (hr : r < 3) (hU : UB U) (hA : SB U A) (hk : k < 36) (hh : -1 ≤ h ∧ h ≤ 100) : (-1000000 ≤ rv U A r k h ∧ rv U A r k h ≤ 1000000) ∧ (r = 0 → rv U A r k h = 0 ∨ rv U A r k h = 1) := by
  have hf := fct_b hU hA hk hh
  unfold rv
  obtain ⟨tw, ct, way, encl, lost, rul, nam⟩ := U
  dsimp only
  cases hl : rul r with
  | none =>
    dsimp only
    split <;> omega
  | some l =>
    obtain ⟨-, t1, g1, g2⟩ := hU.2.2.1 r l hr hl
    have := (ev_all hf l 0 (fun _ => false) (fun _ => 0) _ g1 ⟨by omega, fun k h => absurd h (by omega)⟩).1.2 0 (by omega)
    refine ⟨this.1, fun h0 => this.2 ?_⟩
    show t1 0 = true
    rw [g2, h0]; rfl
/-- the class reckons a rule -/
theorem c_rule {N : Nat → Nat} {G : zG} {V V1 : zI} {L : zL} {u s k r p : Nat} {U : aU} {A : aS} {h : Int} {x3 : Int32} (hx : fxS N G) (hu : unS N G u) (hs : stS N G s) (hs2 : s + 7 ≤ 21 ∨ 22 ≤ s) (hC : UC N G V u U) (hS : SC V s A) (hU : UB U) (hA : SB U A) (hk : k < 36) (hh : -1 ≤ h ∧ h ≤ 100) (hr : r < 3) (hp : G u (8 + r) = some p) (h1 : ∀ w, w ≠ 21 → V1 w = V w) : zW (f_X4_reckon_s N G 20 u p s x3 (qi k) (qz h) V1 L) (fun x => x.1 = qz (rv U A r k h) ∧ x.2.2 = L ∧ ∀ w, w ≠ 21 → x.2.1 w = V w) := by
  have hf := fct_b hU hA hk hh
  have hC1 : ∀ V2 : zI, (∀ w, w ≠ 21 → V2 w = V w) → UC N G V2 u U := fun V2 h2 => UC_fr2 hu hC (fun w hw => h2 w (by omega))
  have hS1 : ∀ V2 : zI, (∀ w, w ≠ 21 → V2 w = V w) → SC V2 s A := fun V2 h2 => SC_fr hS (fun w hw hw2 => h2 w (by omega))
  unfold rv
  have hU' := hU
  have hC' := hC1 V1 h1
  have hfac : ∀ V' : zI, (∀ w, w ≠ 21 → V' w = V1 w) → ∀ c, c < 5 → f_X4_factOf N G u s (qi c) (qi k) (qz h) V' L = some (qz (fct U A k h c)) := fun V' h' => c_fact hu hs (hC1 V' (fun w hw => by rw [h' w hw]; exact h1 w hw)) (hS1 V' (fun w hw => by rw [h' w hw]; exact h1 w hw)) hU hk
  obtain ⟨tw, ct, way, encl, lost, rul, nam⟩ := U
  dsimp only
  cases hl : rul r with
  | none => rw [(hC.2.2.2 r hr).1 hl] at hp; cases hp
  | some l =>
    obtain ⟨g0, t1, g1, g2⟩ := hU'.2.2.1 r l hr hl
    obtain ⟨p', e1, e2, e3, e4⟩ := (hC'.2.2.2 r hr).2 l hl
    rw [e1] at hp
    cases hp
    refine zW_mono (c_reckon hx.2.2.2.2.1 hx.1.2.2.2.2.2.2.2.2.2.2 (by omega) e3 g0 e4 g1 hf hfac) ?_
    rintro x ⟨a1, a2, a3⟩
    exact ⟨a1, a2, fun w hw => by rw [a3 w hw]; exact h1 w hw⟩
theorem r_told0 {V : zI} {L : zL} {b r : Nat} {U : aU} (hR : UR V L b U) (hr : r < 3) (hl : U.2.2.2.2.2.1 r = none) : f_isTold (qi r) V L = some (qi 0, V, L) := by
  obtain ⟨tw, ct, way, encl, lost, rul, nam⟩ := U
  obtain ⟨⟨hb, h13, -⟩, -, -, h8⟩ := hR
  unfold f_isTold
  have e := (h8 r hr).1 hl
  simp (disch := omega) only [h13, ↓reduceIte, o_bind, and_true, true_and, and_false, false_and, or_true, true_or, or_false, false_or, not_true, not_false_eq_true, not_false_iff, ne_eq, Nat.reduceAdd, Nat.reduceMul, Nat.reduceSub, Nat.reduceDiv, Nat.reduceMod, Nat.reduceLT, Nat.reduceLeDiff, Nat.reduceEqDiff, Nat.not_lt, Nat.not_le, q_lit, ↓q_m1, q_om, q_on, q_add, q_mul, q_sub, q_div, q_md, q_ltT, q_ltF, q_leT, q_leF, q_eqT, q_eqF, q_inT, q_inF, q_nn, q_mlt, q_ltm, q_mle, q_lem, q_nem, q_mne, z_same, z_neP, z_neK, zL_same, zL_neP, zL_neK, zr_same, zr_ne, e]
theorem r_told1 {V : zI} {L : zL} {b r : Nat} {U : aU} {l : List Nat} (hR : UR V L b U) (hr : r < 3) (hl : U.2.2.2.2.2.1 r = some l) : f_isTold (qi r) V L = some (qi 1, V, L) := by
  obtain ⟨tw, ct, way, encl, lost, rul, nam⟩ := U
  obtain ⟨⟨hb, h13, -⟩, -, -, h8⟩ := hR
  unfold f_isTold
  obtain ⟨fr, e1, e2, e3, -⟩ := (h8 r hr).2 l hl
  simp (disch := omega) only [h13, ↓reduceIte, o_bind, and_true, true_and, and_false, false_and, or_true, true_or, or_false, false_or, not_true, not_false_eq_true, not_false_iff, ne_eq, Nat.reduceAdd, Nat.reduceMul, Nat.reduceSub, Nat.reduceDiv, Nat.reduceMod, Nat.reduceLT, Nat.reduceLeDiff, Nat.reduceEqDiff, Nat.not_lt, Nat.not_le, q_lit, ↓q_m1, q_om, q_on, q_add, q_mul, q_sub, q_div, q_md, q_ltT, q_ltF, q_leT, q_leF, q_eqT, q_eqF, q_inT, q_inF, q_nn, q_mlt, q_ltm, q_mle, q_lem, q_nem, q_mne, z_same, z_neP, z_neK, zL_same, zL_neP, zL_neK, zr_same, zr_ne, e1]
theorem r_rule {V : zI} {L : zL} {b r k : Nat} {U : aU} {A : aS} {h : Int} (hR : UR V L b U) (hU : UB U) (hA : SB U A) (hk : k < 36) (hh : -1 ≤ h ∧ h ≤ 100) (hr : r < 3) (hn : U.2.2.2.2.2.1 r ≠ none) (ha : ∀ c, c < 5 → V 29 (c + 1) = qz (fct U A k h c)) : zW (f_reckons (qi r) V L) (fun x => x.1 = qZ (rv U A r k h) ∧ x.2.1 = V ∧ ∀ w, w ≠ 28 → x.2.2 w = L w) := by
  have hf := fct_b hU hA hk hh
  unfold rv
  obtain ⟨tw, ct, way, encl, lost, rul, nam⟩ := U
  dsimp only at hn ⊢
  cases hl : rul r with
  | none => exact absurd hl hn
  | some l =>
    obtain ⟨g0, t1, g1, g2⟩ := hU.2.2.1 r l hr hl
    obtain ⟨fr, e1, e2, e3, e4⟩ := (hR.2.2.2 r hr).2 l hl
    exact r_reckon hR.1.1 hr hR.1.2.1 e1 e2 e3 e4 g1 hf ha
end
