section
variable {n : Nat} {K N : Nat → Nat} {G : zG} {V R : zI} {L M : zL} {u b f0 cnt acts x : Nat} {pl : Nat → Nat} {U : aU} {A : aS} {hi : Nat → aS}
def mxA (d : Nat) : Nat := if 999 - d < 60 then 999 - d else 60
theorem mxA_b (d : Nat) : mxA d ≤ 60 ∧ mxA d ≤ 999 - d ∧ (mxA d = 60 ∨ mxA d = 999 - d) := by
  unfold mxA; split <;> omega
theorem c_dah {d : Nat} (hx : fxS N G) (h : V 6 0 = qi d) (hd : d ≤ 999) : f_X10_daysAhead N G 0 V L = some (qi (mxA d)) := by
  unfold f_X10_daysAhead g_X10_daysAhead mxA
  rw [hx.1.2.1, o_bind, h]
  by_cases hc : 999 - d < 60
  · simp (disch := omega) only [hc, ↓reduceIte, o_bind, and_true, true_and, and_false, false_and, or_true, true_or, or_false, false_or, not_true, not_false_eq_true, not_false_iff, ne_eq, Nat.reduceAdd, Nat.reduceMul, Nat.reduceSub, Nat.reduceDiv, Nat.reduceMod, Nat.reduceLT, Nat.reduceLeDiff, Nat.reduceEqDiff, Nat.not_lt, Nat.not_le, q_lit, ↓q_m1, q_om, q_on, q_add, q_mul, q_sub, q_div, q_md, q_ltT, q_ltF, q_leT, q_leF, q_eqT, q_eqF, q_inT, q_inF, q_nn, q_mlt, q_ltm, q_mle, q_lem, q_nem, q_mne]
  · simp (disch := omega) only [hc, ↓reduceIte, o_bind, and_true, true_and, and_false, false_and, or_true, true_or, or_false, false_or, not_true, not_false_eq_true, not_false_iff, ne_eq, Nat.reduceAdd, Nat.reduceMul, Nat.reduceSub, Nat.reduceDiv, Nat.reduceMod, Nat.reduceLT, Nat.reduceLeDiff, Nat.reduceEqDiff, Nat.not_lt, Nat.not_le, q_lit, ↓q_m1, q_om, q_on, q_add, q_mul, q_sub, q_div, q_md, q_ltT, q_ltF, q_leT, q_leF, q_eqT, q_eqF, q_inT, q_inF, q_nn, q_mlt, q_ltm, q_mle, q_lem, q_nem, q_mne]
theorem r_isAh {k lo hi d : Nat} (h : R 20 0 = qi d) (hd : d ≤ 999) (hk : k < 2147483648) (hlo : lo ≤ 100) (hhi : hi ≤ 100) : f_isAhead (qi k) (qi lo) (qi hi) R M = some (if lo ≤ k ∧ k ≤ hi ∧ d + k ≤ 999 then qi 1 else qi 0, R, M) := by
  unfold f_isAhead f_is
  by_cases h1 : lo ≤ k
  · by_cases h2 : k ≤ hi
    · have e : (0 : Int32).toNatClampNeg = 0 := rfl
      by_cases h3 : d + k ≤ 999
      · simp (disch := omega) only [e, h, h1, h2, h3, ↓reduceIte, o_bind, and_true, true_and, and_false, false_and, or_true, true_or, or_false, false_or, not_true, not_false_eq_true, not_false_iff, ne_eq, Nat.reduceAdd, Nat.reduceMul, Nat.reduceSub, Nat.reduceDiv, Nat.reduceMod, Nat.reduceLT, Nat.reduceLeDiff, Nat.reduceEqDiff, Nat.not_lt, Nat.not_le, q_lit, ↓q_m1, q_om, q_on, q_add, q_mul, q_sub, q_div, q_md, q_ltT, q_ltF, q_leT, q_leF, q_eqT, q_eqF, q_inT, q_inF, q_nn, q_mlt, q_ltm, q_mle, q_lem, q_nem, q_mne]
      · simp (disch := omega) only [e, h, h1, h2, h3, ↓reduceIte, o_bind, and_true, true_and, and_false, false_and, or_true, true_or, or_false, false_or, not_true, not_false_eq_true, not_false_iff, ne_eq, Nat.reduceAdd, Nat.reduceMul, Nat.reduceSub, Nat.reduceDiv, Nat.reduceMod, Nat.reduceLT, Nat.reduceLeDiff, Nat.reduceEqDiff, Nat.not_lt, Nat.not_le, q_lit, ↓q_m1, q_om, q_on, q_add, q_mul, q_sub, q_div, q_md, q_ltT, q_ltF, q_leT, q_leF, q_eqT, q_eqF, q_inT, q_inF, q_nn, q_mlt, q_ltm, q_mle, q_lem, q_nem, q_mne]
    · simp (disch := omega) only [h1, h2, ↓reduceIte, o_bind, and_true, true_and, and_false, false_and, or_true, true_or, or_false, false_or, not_true, not_false_eq_true, not_false_iff, ne_eq, Nat.reduceAdd, Nat.reduceMul, Nat.reduceSub, Nat.reduceDiv, Nat.reduceMod, Nat.reduceLT, Nat.reduceLeDiff, Nat.reduceEqDiff, Nat.not_lt, Nat.not_le, q_lit, ↓q_m1, q_om, q_on, q_add, q_mul, q_sub, q_div, q_md, q_ltT, q_ltF, q_leT, q_leF, q_eqT, q_eqF, q_inT, q_inF, q_nn, q_mlt, q_ltm, q_mle, q_lem, q_nem, q_mne]
  · simp (disch := omega) only [h1, ↓reduceIte, o_bind, and_true, true_and, and_false, false_and, or_true, true_or, or_false, false_or, not_true, not_false_eq_true, not_false_iff, ne_eq, Nat.reduceAdd, Nat.reduceMul, Nat.reduceSub, Nat.reduceDiv, Nat.reduceMod, Nat.reduceLT, Nat.reduceLeDiff, Nat.reduceEqDiff, Nat.not_lt, Nat.not_le, q_lit, ↓q_m1, q_om, q_on, q_add, q_mul, q_sub, q_div, q_md, q_ltT, q_ltF, q_leT, q_leF, q_eqT, q_eqF, q_inT, q_inF, q_nn, q_mlt, q_ltm, q_mle, q_lem, q_nem, q_mne]
theorem r_isAhn {lo : Nat} {y z : Int32} (hy : y < qi 0) (hlo : lo ≤ 100) : f_isAhead y (qi lo) z R M = some (qi 0, R, M) := by
  have h := q_nlt hy (n := lo) (by omega)
  unfold f_isAhead f_is
  simp only [h, ↓reduceIte, o_bind, and_true, true_and, and_false, false_and, or_true, true_or, or_false, false_or, not_true, not_false_eq_true, not_false_iff, ne_eq, Nat.reduceAdd, Nat.reduceMul, Nat.reduceSub, Nat.reduceDiv, Nat.reduceMod, Nat.reduceLT, Nat.reduceLeDiff, Nat.reduceEqDiff, Nat.not_lt, Nat.not_le, q_lit, ↓q_m1, q_om, q_on, q_add, q_mul, q_sub, q_div, q_md, q_ltT, q_ltF, q_leT, q_leF, q_eqT, q_eqF, q_inT, q_inF, q_nn, q_mlt, q_ltm, q_mle, q_lem, q_nem, q_mne]
theorem m_later {a1 a2 a3 a4 : Int32} (h : JP n K N G V R M) : zX (f_X10_later N G 0 a1 a2 a3 a4 V L) (f_later a1 a2 a3 a4 R M) (fun r r' => r.1 = r'.1 ∧ JP n K N G r.2.1 r'.2.1 r'.2.2) := by
  obtain ⟨u, b, f0, cnt, acts, x, pl, U, A, hi, h⟩ := h
  have hp : JP n K N G V R M := ⟨u, b, f0, cnt, acts, x, pl, U, A, hi, h⟩
  obtain ⟨⟨hn, -, hx, g2, hu, -⟩, -⟩ := id h.1
  obtain ⟨⟨g1, gs, gr, gt⟩, ⟨hU, hA⟩, -⟩ := id h.2.1
  obtain ⟨hxb, -, hx49⟩ := id h.2.2.2.2.2.2.2.1
  have hd : A.1 ≤ 999 := hA.1.1
  have e60 : V 6 0 = qi A.1 := gs.1.1
  have r20 : R 20 0 = qi A.1 := gt.1.1
  have hmx := mxA_b A.1
  have htw := UB_tw hU
  unfold f_X10_later g_X10_later f_later
  rw [g2, hx.1.2.1, hx.1.2.2.1, hx.1.2.2.2.1, c_dah hx e60 hd]
  simp only [o_bind]
  rcases x_isPair (L := L) g1 gr hU a1 a2 with ⟨e1, e2⟩ | ⟨a, c, rfl, rfl, ha, hc, hac, e1, e2⟩
  · simp (disch := omega) only [e1, e2, ↓reduceIte, o_bind, and_true, true_and, and_false, false_and, or_true, true_or, or_false, false_or, not_true, not_false_eq_true, not_false_iff, ne_eq, Nat.reduceAdd, Nat.reduceMul, Nat.reduceSub, Nat.reduceDiv, Nat.reduceMod, Nat.reduceLT, Nat.reduceLeDiff, Nat.reduceEqDiff, Nat.not_lt, Nat.not_le, Nat.add_zero, Nat.zero_add, Nat.mul_zero, Nat.zero_mul, q_lit, ↓q_m1, q_om, q_on, q_add, q_mul, q_sub, q_div, q_md, q_ltT, q_ltF, q_leT, q_leF, q_eqT, q_eqF, q_inT, q_inF, q_nn, q_mlt, q_ltm, q_mle, q_lem, q_nem, q_mne]
    exact zX_some ⟨rfl, hp⟩
  rcases q_cases a3 with hn3 | ⟨k, hk, rfl⟩
  · simp (disch := omega) only [e1, e2, q_lit, r_isAhn hn3, hn3, ↓reduceIte, o_bind, and_true, true_and, and_false, false_and, or_true, true_or, or_false, false_or, not_true, not_false_eq_true, not_false_iff, ne_eq, Nat.reduceAdd, Nat.reduceMul, Nat.reduceSub, Nat.reduceDiv, Nat.reduceMod, Nat.reduceLT, Nat.reduceLeDiff, Nat.reduceEqDiff, Nat.not_lt, Nat.not_le, Nat.add_zero, Nat.zero_add, Nat.mul_zero, Nat.zero_mul, q_lit, ↓q_m1, q_om, q_on, q_add, q_mul, q_sub, q_div, q_md, q_ltT, q_ltF, q_leT, q_leF, q_eqT, q_eqF, q_inT, q_inF, q_nn, q_mlt, q_ltm, q_mle, q_lem, q_nem, q_mne]
    exact zX_some ⟨rfl, hp⟩
  by_cases hk6 : k ≤ 60 ∧ A.1 + k ≤ 999
  · have hkm : k ≤ mxA A.1 := by omega
    have hc1 : 0 ≤ k ∧ k ≤ 60 ∧ A.1 + k ≤ 999 := by omega
    simp (disch := omega) only [e1, e2, q_lit, r_isAh r20 hd, hc1, and_self, ↓reduceIte, o_bind, and_true, true_and, and_false, false_and, or_true, true_or, or_false, false_or, not_true, not_false_eq_true, not_false_iff, ne_eq, Nat.reduceAdd, Nat.reduceMul, Nat.reduceSub, Nat.reduceDiv, Nat.reduceMod, Nat.reduceLT, Nat.reduceLeDiff, Nat.reduceEqDiff, Nat.not_lt, Nat.not_le, Nat.add_zero, Nat.zero_add, Nat.mul_zero, Nat.zero_mul, q_lit, ↓q_m1, q_om, q_on, q_add, q_mul, q_sub, q_div, q_md, q_ltT, q_ltF, q_leT, q_leF, q_eqT, q_eqF, q_inT, q_inF, q_nn, q_mlt, q_ltm, q_mle, q_lem, q_nem, q_mne]
    refine zX_callL (cs_copy (L := L) hx.2.2.1 hx.2.1 (by omega) gs (SB_k hA).1 (SB_k hA).2) ?_
    rintro ⟨V1, L1⟩ ⟨p1, p2, p3⟩
    dsimp only at p1 p2 p3 ⊢
    have hC1 : UC N G V1 u U := UC_fr2 hu g1 (fun w hw => p2 w (by omega))
    refine zX_W (zW_mono (c_laterL (a := a) (c := c) (w := a4) hx hu hC1 p1 hU hA hxb (by omega) hk6.2) ?_)
    rintro ⟨y, V2, L2⟩ ⟨q1, q2⟩
    dsimp only at q1 q2 ⊢
    have hv : ∀ w, (w < 13 ∨ 22 ≤ w) → w < n → V2 w = V w := fun w hw _ => by rw [q2 w hw]; exact p2 w (by omega)
    have no : (∀ w, w < 3 → a4 ≠ qi w) → cntV (ahS U A x k) (6 * a + c) a4 = qm := by
      intro hw
      unfold cntV
      rw [if_neg (hw 0 (by omega)), if_neg (hw 1 (by omega)), if_neg (hw 2 (by omega))]
    rcases q_cases a4 with hn4 | ⟨w, hw, rfl⟩
    · simp (disch := omega) only [f_is, hn4, ↓reduceIte, o_bind, and_true, true_and, and_false, false_and, or_true, true_or, or_false, false_or, not_true, not_false_eq_true, not_false_iff, ne_eq, Nat.reduceAdd, Nat.reduceMul, Nat.reduceSub, Nat.reduceDiv, Nat.reduceMod, Nat.reduceLT, Nat.reduceLeDiff, Nat.reduceEqDiff, Nat.not_lt, Nat.not_le, Nat.add_zero, Nat.zero_add, Nat.mul_zero, Nat.zero_mul, q_lit, ↓q_m1, q_om, q_on, q_add, q_mul, q_sub, q_div, q_md, q_ltT, q_ltF, q_leT, q_leF, q_eqT, q_eqF, q_inT, q_inF, q_nn, q_mlt, q_ltm, q_mle, q_lem, q_nem, q_mne]
      refine zW_some ⟨?_, u, b, f0, cnt, acts, x, pl, U, A, hi, JJ_core h hv cR_rf ⟨rfl, rfl⟩⟩
      rw [q1]
      exact no (fun w hw => q_nne hn4 (by omega))
    by_cases hw3 : w < 3
    · simp (disch := omega) only [f_is, ↓reduceIte, o_bind, and_true, true_and, and_false, false_and, or_true, true_or, or_false, false_or, not_true, not_false_eq_true, not_false_iff, ne_eq, Nat.reduceAdd, Nat.reduceMul, Nat.reduceSub, Nat.reduceDiv, Nat.reduceMod, Nat.reduceLT, Nat.reduceLeDiff, Nat.reduceEqDiff, Nat.not_lt, Nat.not_le, Nat.add_zero, Nat.zero_add, Nat.mul_zero, Nat.zero_mul, q_lit, ↓q_m1, q_om, q_on, q_add, q_mul, q_sub, q_div, q_md, q_ltT, q_ltF, q_leT, q_leF, q_eqT, q_eqF, q_inT, q_inF, q_nn, q_mlt, q_ltm, q_mle, q_lem, q_nem, q_mne]
      refine zW_call (r_copies (a := 1) (b := 0) (by omega) (by omega) (by omega) gt (SB_k hA).1 (SB_k hA).2) ?_
      rintro ⟨R1, M1⟩ ⟨s1, s2, s3, s4⟩
      dsimp only at s1 s2 s3 s4 ⊢
      replace s4 := s4.symm
      subst s4
      have hR1 : UR R1 M b U := RFr_UR s2 rfl gr
      refine zW_mono (r_laterL (a := a) (c := c) hR1 s1 hU hA hx49 hxb (by omega) hk6.2 hw3) ?_
      rintro ⟨y', R2, M2⟩ ⟨t1, t2, t3, t4⟩
      dsimp only at t1 t2 t3 t4 ⊢
      exact ⟨q1.trans t1.symm, u, b, f0, cnt, acts, x, pl, U, A, hi, JJ_core h hv (cR_RFr (RFr_tr s2 t2)) ⟨t4 12 (by omega) (by omega), by rw [t3, hx49]⟩⟩
    · simp (disch := omega) only [f_is, ↓reduceIte, o_bind, and_true, true_and, and_false, false_and, or_true, true_or, or_false, false_or, not_true, not_false_eq_true, not_false_iff, ne_eq, Nat.reduceAdd, Nat.reduceMul, Nat.reduceSub, Nat.reduceDiv, Nat.reduceMod, Nat.reduceLT, Nat.reduceLeDiff, Nat.reduceEqDiff, Nat.not_lt, Nat.not_le, Nat.add_zero, Nat.zero_add, Nat.mul_zero, Nat.zero_mul, q_lit, ↓q_m1, q_om, q_on, q_add, q_mul, q_sub, q_div, q_md, q_ltT, q_ltF, q_leT, q_leF, q_eqT, q_eqF, q_inT, q_inF, q_nn, q_mlt, q_ltm, q_mle, q_lem, q_nem, q_mne]
      refine zW_some ⟨?_, u, b, f0, cnt, acts, x, pl, U, A, hi, JJ_core h hv cR_rf ⟨rfl, rfl⟩⟩
      rw [q1]
      exact no (fun w' hw' e => by have := (q_eq hw (by omega)).mp e; omega)
  · have hkm : ¬ k ≤ mxA A.1 := by omega
    have hc1 : ¬ (0 ≤ k ∧ k ≤ 60 ∧ A.1 + k ≤ 999) := by omega
    simp (disch := omega) only [e1, e2, q_lit, r_isAh r20 hd, hc1, ↓reduceIte, o_bind, and_true, true_and, and_false, false_and, or_true, true_or, or_false, false_or, not_true, not_false_eq_true, not_false_iff, ne_eq, Nat.reduceAdd, Nat.reduceMul, Nat.reduceSub, Nat.reduceDiv, Nat.reduceMod, Nat.reduceLT, Nat.reduceLeDiff, Nat.reduceEqDiff, Nat.not_lt, Nat.not_le, Nat.add_zero, Nat.zero_add, Nat.mul_zero, Nat.zero_mul, q_lit, ↓q_m1, q_om, q_on, q_add, q_mul, q_sub, q_div, q_md, q_ltT, q_ltF, q_leT, q_leF, q_eqT, q_eqF, q_inT, q_inF, q_nn, q_mlt, q_ltm, q_mle, q_lem, q_nem, q_mne]
    exact zX_some ⟨rfl, hp⟩
theorem m_comes {a1 a2 : Int32} (h : JP n K N G V R M) : zX (f_X10_comes N G 0 a1 a2 V L) (f_comes a1 a2 R M) (fun r r' => r.1 = r'.1 ∧ JP n K N G r.2.1 r'.2.1 r'.2.2) := by
  obtain ⟨u, b, f0, cnt, acts, x, pl, U, A, hi, h⟩ := h
  have hp : JP n K N G V R M := ⟨u, b, f0, cnt, acts, x, pl, U, A, hi, h⟩
  obtain ⟨⟨hn, -, hx, g2, hu, -⟩, -⟩ := id h.1
  obtain ⟨⟨g1, gs, gr, gt⟩, ⟨hU, hA⟩, -⟩ := id h.2.1
  obtain ⟨hxb, -, hx49⟩ := id h.2.2.2.2.2.2.2.1
  have hd : A.1 ≤ 999 := hA.1.1
  have e60 : V 6 0 = qi A.1 := gs.1.1
  have r20 : R 20 0 = qi A.1 := gt.1.1
  have hmx := mxA_b A.1
  have htw := UB_tw hU
  have hu1 := hu.1
  unfold f_X10_comes g_X10_comes f_comes
  rw [g2, hx.1.2.1, hx.1.2.2.1, hx.1.2.2.2.1, c_dah hx e60 hd]
  simp only [o_bind]
  rcases x_isPair (L := L) g1 gr hU a1 a2 with ⟨e1, e2⟩ | ⟨a, c, rfl, rfl, ha, hc, hac, e1, e2⟩
  · simp (disch := omega) only [e1, e2, ↓reduceIte, o_bind, and_true, true_and, and_false, false_and, or_true, true_or, or_false, false_or, not_true, not_false_eq_true, not_false_iff, ne_eq, Nat.reduceAdd, Nat.reduceMul, Nat.reduceSub, Nat.reduceDiv, Nat.reduceMod, Nat.reduceLT, Nat.reduceLeDiff, Nat.reduceEqDiff, Nat.not_lt, Nat.not_le, Nat.add_zero, Nat.zero_add, Nat.mul_zero, Nat.zero_mul, q_lit, ↓q_m1, q_om, q_on, q_add, q_mul, q_sub, q_div, q_md, q_ltT, q_ltF, q_leT, q_leF, q_eqT, q_eqF, q_inT, q_inF, q_nn, q_mlt, q_ltm, q_mle, q_lem, q_nem, q_mne]
    exact zX_some ⟨rfl, hp⟩
  have ei : a * 6 + c = 6 * a + c := by omega
  simp (disch := omega) only [e1, e2, ei, ↓reduceIte, o_bind, and_true, true_and, and_false, false_and, or_true, true_or, or_false, false_or, not_true, not_false_eq_true, not_false_iff, ne_eq, Nat.reduceAdd, Nat.reduceMul, Nat.reduceSub, Nat.reduceDiv, Nat.reduceMod, Nat.reduceLT, Nat.reduceLeDiff, Nat.reduceEqDiff, Nat.not_lt, Nat.not_le, Nat.add_zero, Nat.zero_add, Nat.mul_zero, Nat.zero_mul, q_lit, ↓q_m1, q_om, q_on, q_add, q_mul, q_sub, q_div, q_md, q_ltT, q_ltF, q_leT, q_leF, q_eqT, q_eqF, q_inT, q_inF, q_nn, q_mlt, q_ltm, q_mle, q_lem, q_nem, q_mne]
  refine zX_callL (cs_copy (L := L) hx.2.2.1 hx.2.1 (by omega) gs (SB_k hA).1 (SB_k hA).2) ?_
  rintro ⟨V1, L1⟩ ⟨p1, p2, p3⟩
  refine zX_callR (r_copies (a := 1) (b := 0) (by omega) (by omega) (by omega) gt (SB_k hA).1 (SB_k hA).2) ?_
  rintro ⟨R1, M1⟩ ⟨s1, s2, s3, s4⟩
  dsimp only at p1 p2 p3 s1 s2 s3 s4 ⊢
  subst p3 s4
  refine zX_mono (zX_lp (P := fun r r' => r.1 = r'.1 ∧ (∀ w, (w < 13 ∨ 22 ≤ w) → r.2.1 w = V w) ∧ RFr 1 R r'.2.1 ∧ r'.2.2 0 49 = qI x ∧ ∀ w, w ≠ 0 → w ≠ 28 → r'.2.2 w = M1 w) (I := fun r s s' => ∃ (i : Nat) (V2 : zI) (L2 : zL) (R2 : zI) (M2 : zL), 1 ≤ i ∧ i ≤ mxA A.1 + 1 ∧ r = mxA A.1 + 1 - i ∧ s = (qi (mxA A.1), bit6 (6 * a + c), qi i, V2, L2) ∧ s' = (qi a, qi c, qi i, R2, M2) ∧ SC V2 13 (ahS U A x (i - 1)) ∧ SR R2 1 (ahS U A x (i - 1)) ∧ (∀ w, (w < 13 ∨ 22 ≤ w) → V2 w = V w) ∧ RFr 1 R R2 ∧ M2 0 49 = qI x ∧ ∀ w, w ≠ 0 → w ≠ 28 → M2 w = M1 w) ?_ FU FU (mxA A.1) _ _ ⟨1, V1, L1, R1, M1, by omega, by omega, by omega, rfl, rfl, p1, s1, fun w hw => p2 w (by omega), s2, hx49, fun _ _ _ => rfl⟩ (FU_big (by omega)) (FU_big (by omega))) ?_
  · rintro k k' r s s' ⟨i, V2, L2, R2, M2, hi1, hi2, rfl, rfl, rfl, hS, hT, hv, hfr, h49, hm⟩ ih
    have r20' : R2 20 0 = qi A.1 := by rw [(hfr.2.2.1 0 (by omega)).1]; exact r20
    by_cases hend : i = mxA A.1 + 1
    · have hc1 : ¬ (1 ≤ i ∧ i ≤ 60 ∧ A.1 + i ≤ 999) := by omega
      simp (disch := omega) only [b_X10_comes_43, b_comes_19, q_lit, r_isAh r20' hd, hc1, ↓reduceIte, o_bind, and_true, true_and, and_false, false_and, or_true, true_or, or_false, false_or, not_true, not_false_eq_true, not_false_iff, ne_eq, Nat.reduceAdd, Nat.reduceMul, Nat.reduceSub, Nat.reduceDiv, Nat.reduceMod, Nat.reduceLT, Nat.reduceLeDiff, Nat.reduceEqDiff, Nat.not_lt, Nat.not_le, Nat.add_zero, Nat.zero_add, Nat.mul_zero, Nat.zero_mul, q_lit, ↓q_m1, q_om, q_on, q_add, q_mul, q_sub, q_div, q_md, q_ltT, q_ltF, q_leT, q_leF, q_eqT, q_eqF, q_inT, q_inF, q_nn, q_mlt, q_ltm, q_mle, q_lem, q_nem, q_mne]
      exact zX_some ⟨rfl, hv, hfr, h49, hm⟩
    · have hc1 : (1 ≤ i ∧ i ≤ 60 ∧ A.1 + i ≤ 999) := by omega
      obtain ⟨hB, hB1⟩ := ah_SB hU hA hxb (i - 1) (by omega)
      have hC2 : UC N G V2 u U := UC_fr2 hu g1 (fun w h => hv w (by omega))
      have hR2 : UR R2 M2 b U := RFr_UR hfr (hm 12 (by omega) (by omega)) gr
      simp (disch := omega) only [b_X10_comes_43, b_comes_19, q_lit, r_isAh r20' hd, hc1, and_self, ↓reduceIte, o_bind, and_true, true_and, and_false, false_and, or_true, true_or, or_false, false_or, not_true, not_false_eq_true, not_false_iff, ne_eq, Nat.reduceAdd, Nat.reduceMul, Nat.reduceSub, Nat.reduceDiv, Nat.reduceMod, Nat.reduceLT, Nat.reduceLeDiff, Nat.reduceEqDiff, Nat.not_lt, Nat.not_le, Nat.add_zero, Nat.zero_add, Nat.mul_zero, Nat.zero_mul, q_lit, ↓q_m1, q_om, q_on, q_add, q_mul, q_sub, q_div, q_md, q_ltT, q_ltF, q_leT, q_leF, q_eqT, q_eqF, q_inT, q_inF, q_nn, q_mlt, q_ltm, q_mle, q_lem, q_nem, q_mne]
      refine zX_callL (c_pass_n (L := L2) (x := x) hx hu hx.2.2.1 (by omega) hC2 hS hU hB hxb) ?_
      rintro ⟨V3, L3⟩ ⟨q1, -, -, q4, q5, -, q7⟩
      refine zX_callR (r_passes (v := 1) (dr := false) (by omega) hR2 hT hU hB h49 hxb) ?_
      rintro ⟨R3, M3⟩ ⟨t1, -, -, t4, t5, t6, t7⟩
      dsimp only at q1 q4 q5 q7 t1 t4 t5 t6 t7 ⊢
      rw [bX_x] at t5
      have e : (if (ahS U A x (i - 1)).1 + 1 < 999 then (ahS U A x (i - 1)).1 + 1 else 999) = (ahS U A x (i - 1)).1 + 1 := by split <;> omega
      rw [e] at q1
      have hv3 : ∀ w, (w < 13 ∨ 22 ≤ w) → V3 w = V w := by
        intro w h
        by_cases h22 : w = 22
        · subst h22; rw [q7]; exact hv 22 (by omega)
        · rw [q5 w (by omega) (by omega) h22]; exact hv w h
      have hm3 : ∀ w, w ≠ 0 → w ≠ 28 → M3 w = M1 w := fun w h1 h2 => by rw [t7 w h1 h2]; exact hm w h1 h2
      have hp36 : 6 * a + c < 63 := by omega
      generalize (bX U false (ahS U A x (i - 1)) x).2.2.2.2.2 = bt at q4 t4
      have k1 : (lg_cmp (L3 13 9 &&& bit6 (6 * a + c)) 0 = qi 0) ↔ bt.toBitVec.getLsbD (6 * a + c) = false := by
        show (lg_cmp _ 0 = 0) ↔ _
        rw [lg_cmp_eq, q4, bt_l bt hp36]
      have k2 : (lg_cmp ((M3 0 54 >>> ((qi (6 * a + c)).toInt64 &&& 63)) &&& 1) 1 = qi 0) ↔ bt.toBitVec.getLsbD (6 * a + c) = true := by
        show (lg_cmp _ 1 = 0) ↔ _
        rw [lg_cmp_eq, t4, bt_r bt hp36]
      cases hb : bt.toBitVec.getLsbD (6 * a + c) with
      | false =>
        rw [if_pos (k1.mpr hb), if_neg (fun e => by rw [k2.mp e] at hb; cases hb)]
        exact ih (mxA A.1 + 1 - (i + 1)) _ _ (by omega) ⟨i + 1, V3, L3, R3, M3, by omega, by omega, rfl, rfl, rfl, by rw [show i + 1 - 1 = (i - 1) + 1 by omega]; exact q1, by rw [show i + 1 - 1 = (i - 1) + 1 by omega]; exact t1, hv3, RFr_tr hfr t6, t5, hm3⟩
      | true =>
        rw [if_neg (fun e => by rw [k1.mp e] at hb; cases hb), if_pos (k2.mpr hb)]
        exact zX_some ⟨rfl, hv3, RFr_tr hfr t6, t5, hm3⟩
  · rintro ⟨y, V2, L2⟩ ⟨y', R2, M2⟩ ⟨t1, t2, t3, t4, t5⟩
    dsimp only at t1 t2 t3 t4 t5 ⊢
    exact ⟨t1, u, b, f0, cnt, acts, x, pl, U, A, hi, JJ_core h (fun w h1 _ => t2 w h1) (cR_RFr t3) ⟨t5 12 (by omega) (by omega), by rw [t4, hx49]⟩⟩
/-! silence -/
def silP (U : aU) (B : aS) : Prop := B.2.2.2.2.1 = 0 ∧ ∀ a, a < U.1 → tgt U B a = none
theorem c_sil {s : Nat} (hx : fxS N G) (hu : unS N G u) (hs : stS N G s) (hs2 : s + 7 ≤ 21) (hC : UC N G V u U) (hS : SC V s A) (hU : UB U) (hA : SB U A) : zW (f_X4_isSilent N G 20 u s V L) (fun r => ((r.1 = qi 1 ∧ silP U A) ∨ (r.1 = qi 0 ∧ ¬ silP U A)) ∧ r.2.2 = L ∧ ∀ w, w ≠ 21 → r.2.1 w = V w) := by
  have htw := UB_tw hU
  have hm := SB_m hA
  have hu1 := hu.1
  have e4 : V s 4 = qi A.2.2.2.2.1 := hS.1.2.1
  unfold f_X4_isSilent g_X4_isSilent
  by_cases h0 : A.2.2.2.2.1 = 0
  · rw [h0] at e4
    simp (disch := omega) only [e4, Nat.le_refl, ↓reduceIte, o_bind, and_true, true_and, and_false, false_and, or_true, true_or, or_false, false_or, not_true, not_false_eq_true, not_false_iff, ne_eq, Nat.reduceAdd, Nat.reduceMul, Nat.reduceSub, Nat.reduceDiv, Nat.reduceMod, Nat.reduceLT, Nat.reduceLeDiff, Nat.reduceEqDiff, Nat.not_lt, Nat.not_le, q_lit, ↓q_m1, q_om, q_on, q_add, q_mul, q_sub, q_div, q_md, q_ltT, q_ltF, q_leT, q_leF, q_eqT, q_eqF, q_inT, q_inF, q_nn, q_mlt, q_ltm, q_mle, q_lem, q_nem, q_mne]
    refine zW_lp (I := fun r q => ∃ (i : Nat) (V1 : zI), i ≤ U.1 ∧ r = U.1 - i ∧ q = (qi i, V1, L) ∧ (∀ a, a < i → tgt U A a = none) ∧ ∀ w, w ≠ 21 → V1 w = V w) ?_ FU U.1 _ ⟨0, V, by omega, by omega, rfl, fun a h => absurd h (by omega), fun _ _ => rfl⟩ (FU_big (by omega))
    rintro k r q ⟨i, V1, hi, rfl, rfl, ht, hw⟩ ih
    have e0 : V1 u 0 = qi U.1 := by rw [hw u (by omega)]; exact hC.1.1
    by_cases hend : i = U.1
    · simp (disch := omega) only [b_X4_isSilent_11, e0, hend, Nat.le_refl, ↓reduceIte, o_bind, and_true, true_and, and_false, false_and, or_true, true_or, or_false, false_or, not_true, not_false_eq_true, not_false_iff, ne_eq, Nat.reduceAdd, Nat.reduceMul, Nat.reduceSub, Nat.reduceDiv, Nat.reduceMod, Nat.reduceLT, Nat.reduceLeDiff, Nat.reduceEqDiff, Nat.not_lt, Nat.not_le, q_lit, ↓q_m1, q_om, q_on, q_add, q_mul, q_sub, q_div, q_md, q_ltT, q_ltF, q_leT, q_leF, q_eqT, q_eqF, q_inT, q_inF, q_nn, q_mlt, q_ltm, q_mle, q_lem, q_nem, q_mne]
      rw [hend] at ht
      exact zW_some ⟨Or.inl ⟨rfl, h0, ht⟩, rfl, hw⟩
    · simp (disch := omega) only [b_X4_isSilent_11, e0, ↓reduceIte, o_bind, and_true, true_and, and_false, false_and, or_true, true_or, or_false, false_or, not_true, not_false_eq_true, not_false_iff, ne_eq, Nat.reduceAdd, Nat.reduceMul, Nat.reduceSub, Nat.reduceDiv, Nat.reduceMod, Nat.reduceLT, Nat.reduceLeDiff, Nat.reduceEqDiff, Nat.not_lt, Nat.not_le, q_lit, ↓q_m1, q_om, q_on, q_add, q_mul, q_sub, q_div, q_md, q_ltT, q_ltF, q_leT, q_leF, q_eqT, q_eqF, q_inT, q_inF, q_nn, q_mlt, q_ltm, q_mle, q_lem, q_nem, q_mne]
      refine zW_call (c_next hx hu hs (by omega) hC hS hU hA (show i < U.1 by omega) hw) ?_
      rintro ⟨y, V2, L2⟩ ⟨p1, p2, p3⟩
      dsimp only at p1 p2 p3 ⊢
      subst p1 p2
      cases htg : tgt U A i with
      | none =>
        simp only [oi, ↓reduceIte]
        refine ih (U.1 - (i + 1)) _ (by omega) ⟨i + 1, V2, by omega, rfl, rfl, fun a ha => ?_, p3⟩
        by_cases hai : a = i
        · subst hai; exact htg
        · exact ht a (by omega)
      | some c =>
        have hb := (tgt_b hU hA (show i < U.1 by omega) htg).2.1
        simp (disch := omega) only [oi, ↓reduceIte, o_bind, and_true, true_and, and_false, false_and, or_true, true_or, or_false, false_or, not_true, not_false_eq_true, not_false_iff, ne_eq, Nat.reduceAdd, Nat.reduceMul, Nat.reduceSub, Nat.reduceDiv, Nat.reduceMod, Nat.reduceLT, Nat.reduceLeDiff, Nat.reduceEqDiff, Nat.not_lt, Nat.not_le, q_lit, ↓q_m1, q_om, q_on, q_add, q_mul, q_sub, q_div, q_md, q_ltT, q_ltF, q_leT, q_leF, q_eqT, q_eqF, q_inT, q_inF, q_nn, q_mlt, q_ltm, q_mle, q_lem, q_nem, q_mne]
        exact zW_some ⟨Or.inr ⟨rfl, fun h => by have := h.2 i (by omega); rw [htg] at this; cases this⟩, rfl, p3⟩
  · simp (disch := omega) only [e4, ↓reduceIte, o_bind, and_true, true_and, and_false, false_and, or_true, true_or, or_false, false_or, not_true, not_false_eq_true, not_false_iff, ne_eq, Nat.reduceAdd, Nat.reduceMul, Nat.reduceSub, Nat.reduceDiv, Nat.reduceMod, Nat.reduceLT, Nat.reduceLeDiff, Nat.reduceEqDiff, Nat.not_lt, Nat.not_le, q_lit, ↓q_m1, q_om, q_on, q_add, q_mul, q_sub, q_div, q_md, q_ltT, q_ltF, q_leT, q_leF, q_eqT, q_eqF, q_inT, q_inF, q_nn, q_mlt, q_ltm, q_mle, q_lem, q_nem, q_mne]
    exact zW_some ⟨Or.inr ⟨rfl, fun h => h0 h.1⟩, rfl, fun _ _ => rfl⟩
theorem r_sil {v : Nat} (hv : v < 22) (hR : UR R M b U) (hS : SR R v A) (hU : UB U) (hA : SB U A) : zW (f_isSilent (qi v) R M) (fun r => ((r.1 = qi 1 ∧ silP U A) ∨ (r.1 = qi 0 ∧ ¬ silP U A)) ∧ (∀ w, w ≠ 29 → r.2.1 w = R w) ∧ ∀ w, w ≠ 28 → r.2.2 w = M w) := by
  have htw := UB_tw hU
  have hm := SB_m hA
  have hb2 : b < 2 := hR.1.1
  unfold f_isSilent
  refine zW_lp (I := fun r q => ∃ (i : Nat) (R1 : zI) (M1 : zL), i ≤ U.1 ∧ r = U.1 - i ∧ q = (qi v, qi i, R1, M1) ∧ (∀ a, a < i → tgt U A a = none) ∧ (∀ w, w ≠ 29 → R1 w = R w) ∧ ∀ w, w ≠ 28 → M1 w = M w) ?_ FU U.1 _ ⟨0, R, M, by omega, by omega, rfl, fun a h => absurd h (by omega), fun _ _ => rfl, fun _ _ => rfl⟩ (FU_big (by omega))
  rintro k r q ⟨i, R1, M1, hi, rfl, rfl, ht, hw, hm1⟩ ih
  have e13 : R1 0 13 = qi b := by rw [hw 0 (by omega)]; exact hR.1.2.1
  have e2 : R1 2 b = qi U.1 := by rw [hw 2 (by omega)]; exact hR.1.2.2.1
  have e24 : R1 24 v = qi A.2.2.2.2.1 := by rw [hw 24 (by omega)]; exact hS.1.2.1
  by_cases hend : i = U.1
  · rw [hend] at ht
    by_cases h0 : A.2.2.2.2.1 = 0
    · simp (disch := omega) only [b_isSilent_2, e13, e2, e24, hend, h0, Nat.le_refl, ↓reduceIte, o_bind, and_true, true_and, and_false, false_and, or_true, true_or, or_false, false_or, not_true, not_false_eq_true, not_false_iff, ne_eq, Nat.reduceAdd, Nat.reduceMul, Nat.reduceSub, Nat.reduceDiv, Nat.reduceMod, Nat.reduceLT, Nat.reduceLeDiff, Nat.reduceEqDiff, Nat.not_lt, Nat.not_le, q_lit, ↓q_m1, q_om, q_on, q_add, q_mul, q_sub, q_div, q_md, q_ltT, q_ltF, q_leT, q_leF, q_eqT, q_eqF, q_inT, q_inF, q_nn, q_mlt, q_ltm, q_mle, q_lem, q_nem, q_mne]
      exact zW_some ⟨Or.inl ⟨rfl, h0, ht⟩, hw, hm1⟩
    · simp (disch := omega) only [b_isSilent_2, e13, e2, e24, hend, Nat.le_refl, ↓reduceIte, o_bind, and_true, true_and, and_false, false_and, or_true, true_or, or_false, false_or, not_true, not_false_eq_true, not_false_iff, ne_eq, Nat.reduceAdd, Nat.reduceMul, Nat.reduceSub, Nat.reduceDiv, Nat.reduceMod, Nat.reduceLT, Nat.reduceLeDiff, Nat.reduceEqDiff, Nat.not_lt, Nat.not_le, q_lit, ↓q_m1, q_om, q_on, q_add, q_mul, q_sub, q_div, q_md, q_ltT, q_ltF, q_leT, q_leF, q_eqT, q_eqF, q_inT, q_inF, q_nn, q_mlt, q_ltm, q_mle, q_lem, q_nem, q_mne]
      exact zW_some ⟨Or.inr ⟨rfl, fun h => h0 h.1⟩, hw, hm1⟩
  · simp (disch := omega) only [b_isSilent_2, e13, e2, ↓reduceIte, o_bind, and_true, true_and, and_false, false_and, or_true, true_or, or_false, false_or, not_true, not_false_eq_true, not_false_iff, ne_eq, Nat.reduceAdd, Nat.reduceMul, Nat.reduceSub, Nat.reduceDiv, Nat.reduceMod, Nat.reduceLT, Nat.reduceLeDiff, Nat.reduceEqDiff, Nat.not_lt, Nat.not_le, q_lit, ↓q_m1, q_om, q_on, q_add, q_mul, q_sub, q_div, q_md, q_ltT, q_ltF, q_leT, q_leF, q_eqT, q_eqF, q_inT, q_inF, q_nn, q_mlt, q_ltm, q_mle, q_lem, q_nem, q_mne]
    refine zW_call (r_next hv hR hS hU hA (show i < U.1 by omega) hw hm1) ?_
    rintro ⟨y, R2, M2⟩ ⟨p1, p2, p3⟩
    dsimp only at p1 p2 p3 ⊢
    subst p1
    cases htg : tgt U A i with
    | none =>
      simp only [oi, ↓reduceIte]
      refine ih (U.1 - (i + 1)) _ (by omega) ⟨i + 1, R2, M2, by omega, rfl, rfl, fun a ha => ?_, p2, p3⟩
      by_cases hai : a = i
      · subst hai; exact htg
      · exact ht a (by omega)
    | some c =>
      have hb := (tgt_b hU hA (show i < U.1 by omega) htg).2.1
      simp (disch := omega) only [oi, ↓reduceIte, o_bind, and_true, true_and, and_false, false_and, or_true, true_or, or_false, false_or, not_true, not_false_eq_true, not_false_iff, ne_eq, Nat.reduceAdd, Nat.reduceMul, Nat.reduceSub, Nat.reduceDiv, Nat.reduceMod, Nat.reduceLT, Nat.reduceLeDiff, Nat.reduceEqDiff, Nat.not_lt, Nat.not_le, q_lit, ↓q_m1, q_om, q_on, q_add, q_mul, q_sub, q_div, q_md, q_ltT, q_ltF, q_leT, q_leF, q_eqT, q_eqF, q_inT, q_inF, q_nn, q_mlt, q_ltm, q_mle, q_lem, q_nem, q_mne]
      exact zW_some ⟨Or.inr ⟨rfl, fun h => by have := h.2 i (by omega); rw [htg] at this; cases this⟩, p2, p3⟩
theorem m_silent (h : JP n K N G V R M) : zX (f_X10_silent N G 0 V L) (f_silent R M) (fun r r' => r.1 = r'.1 ∧ JP n K N G r.2.1 r'.2.1 r'.2.2) := by
  obtain ⟨u, b, f0, cnt, acts, x, pl, U, A, hi, h⟩ := h
  obtain ⟨⟨hn, -, hx, g2, hu, -⟩, -⟩ := id h.1
  obtain ⟨⟨g1, gs, gr, gt⟩, ⟨hU, hA⟩, -⟩ := id h.2.1
  obtain ⟨hxb, -, hx49⟩ := id h.2.2.2.2.2.2.2.1
  have hd : A.1 ≤ 999 := hA.1.1
  have e60 : V 6 0 = qi A.1 := gs.1.1
  have r20 : R 20 0 = qi A.1 := gt.1.1
  have hmx := mxA_b A.1
  have hu1 := hu.1
  unfold f_X10_silent g_X10_silent f_silent
  rw [g2, hx.1.2.1, hx.1.2.2.1, hx.1.2.2.2.1, c_dah hx e60 hd]
  simp only [o_bind]
  refine zX_callL (cs_copy (L := L) hx.2.2.1 hx.2.1 (by omega) gs (SB_k hA).1 (SB_k hA).2) ?_
  rintro ⟨V1, L1⟩ ⟨p1, p2, p3⟩
  refine zX_callR (r_copies (a := 1) (b := 0) (by omega) (by omega) (by omega) gt (SB_k hA).1 (SB_k hA).2) ?_
  rintro ⟨R1, M1⟩ ⟨s1, s2, s3, s4⟩
  dsimp only at p1 p2 p3 s1 s2 s3 s4 ⊢
  subst p3 s4
  refine zX_mono (zX_lp (P := fun r r' => r.1 = r'.1 ∧ (∀ w, (w < 13 ∨ 22 ≤ w) → r.2.1 w = V w) ∧ RFr 1 R r'.2.1 ∧ r'.2.2 0 49 = qI x ∧ ∀ w, w ≠ 0 → w ≠ 28 → r'.2.2 w = M1 w) (I := fun r s s' => ∃ (i : Nat) (V2 : zI) (L2 : zL) (R2 : zI) (M2 : zL), i ≤ mxA A.1 + 1 ∧ r = mxA A.1 + 1 - i ∧ s = (qi (mxA A.1), qi i, V2, L2) ∧ s' = (qi i, R2, M2) ∧ (i ≤ mxA A.1 → SC V2 13 (ahS U A x i) ∧ SR R2 1 (ahS U A x i)) ∧ (∀ w, (w < 13 ∨ 22 ≤ w) → V2 w = V w) ∧ RFr 1 R R2 ∧ M2 0 49 = qI x ∧ ∀ w, w ≠ 0 → w ≠ 28 → M2 w = M1 w) ?_ FU FU (mxA A.1 + 1) _ _ ⟨0, V1, L1, R1, M1, by omega, by omega, rfl, rfl, fun _ => ⟨p1, s1⟩, fun w hw => p2 w (by omega), s2, hx49, fun _ _ _ => rfl⟩ (FU_big (by omega)) (FU_big (by omega))) ?_
  · rintro k k' r s s' ⟨i, V2, L2, R2, M2, hi2, rfl, rfl, rfl, hST, hv, hfr, h49, hm⟩ ih
    have r20' : R2 20 0 = qi A.1 := by rw [(hfr.2.2.1 0 (by omega)).1]; exact r20
    by_cases hend : i = mxA A.1 + 1
    · have hc1 : ¬ (0 ≤ i ∧ i ≤ 60 ∧ A.1 + i ≤ 999) := by omega
      simp (disch := omega) only [b_X10_silent_18, b_silent_8, q_lit, r_isAh r20' hd, hc1, ↓reduceIte, o_bind, and_true, true_and, and_false, false_and, or_true, true_or, or_false, false_or, not_true, not_false_eq_true, not_false_iff, ne_eq, Nat.reduceAdd, Nat.reduceMul, Nat.reduceSub, Nat.reduceDiv, Nat.reduceMod, Nat.reduceLT, Nat.reduceLeDiff, Nat.reduceEqDiff, Nat.not_lt, Nat.not_le, q_lit, ↓q_m1, q_om, q_on, q_add, q_mul, q_sub, q_div, q_md, q_ltT, q_ltF, q_leT, q_leF, q_eqT, q_eqF, q_inT, q_inF, q_nn, q_mlt, q_ltm, q_mle, q_lem, q_nem, q_mne]
      exact zX_some ⟨rfl, hv, hfr, h49, hm⟩
    · have hc1 : (0 ≤ i ∧ i ≤ 60 ∧ A.1 + i ≤ 999) := by omega
      obtain ⟨hS, hT⟩ := hST (by omega)
      obtain ⟨hB, hB1⟩ := ah_SB hU hA hxb i (by omega)
      have hC2 : UC N G V2 u U := UC_fr2 hu g1 (fun w h => hv w (by omega))
      have hR2 : UR R2 M2 b U := RFr_UR hfr (hm 12 (by omega) (by omega)) gr
      simp (disch := omega) only [b_X10_silent_18, b_silent_8, q_lit, r_isAh r20' hd, hc1, and_self, ↓reduceIte, o_bind, and_true, true_and, and_false, false_and, or_true, true_or, or_false, false_or, not_true, not_false_eq_true, not_false_iff, ne_eq, Nat.reduceAdd, Nat.reduceMul, Nat.reduceSub, Nat.reduceDiv, Nat.reduceMod, Nat.reduceLT, Nat.reduceLeDiff, Nat.reduceEqDiff, Nat.not_lt, Nat.not_le, q_lit, ↓q_m1, q_om, q_on, q_add, q_mul, q_sub, q_div, q_md, q_ltT, q_ltF, q_leT, q_leF, q_eqT, q_eqF, q_inT, q_inF, q_nn, q_mlt, q_ltm, q_mle, q_lem, q_nem, q_mne]
      refine zX_callL (c_sil (L := L2) hx hu hx.2.2.1 (by omega) hC2 hS hU hB) ?_
      rintro ⟨y, V3, L3⟩ ⟨q1, q2, q3⟩
      refine zX_callR (r_sil (v := 1) (by omega) hR2 hT hU hB) ?_
      rintro ⟨y', R3, M3⟩ ⟨t1, t2, t3⟩
      dsimp only at q1 q2 q3 t1 t2 t3 ⊢
      have hv3 : ∀ w, (w < 13 ∨ 22 ≤ w) → V3 w = V w := fun w hw => by rw [q3 w (by omega)]; exact hv w hw
      have hfr3 : RFr 1 R R3 := RFr_tr hfr (RFr_29 t2)
      have hm3 : ∀ w, w ≠ 0 → w ≠ 28 → M3 w = M1 w := fun w h1 h2 => by rw [t3 w h2]; exact hm w h1 h2
      have h493 : M3 0 49 = qI x := by rw [t3 0 (by omega)]; exact h49
      rcases q1 with ⟨rfl, hs⟩ | ⟨rfl, hs⟩
      · rcases t1 with ⟨rfl, -⟩ | ⟨-, hs'⟩
        · simp (disch := omega) only [↓reduceIte, o_bind, and_true, true_and, and_false, false_and, or_true, true_or, or_false, false_or, not_true, not_false_eq_true, not_false_iff, ne_eq, Nat.reduceAdd, Nat.reduceMul, Nat.reduceSub, Nat.reduceDiv, Nat.reduceMod, Nat.reduceLT, Nat.reduceLeDiff, Nat.reduceEqDiff, Nat.not_lt, Nat.not_le, q_lit, ↓q_m1, q_om, q_on, q_add, q_mul, q_sub, q_div, q_md, q_ltT, q_ltF, q_leT, q_leF, q_eqT, q_eqF, q_inT, q_inF, q_nn, q_mlt, q_ltm, q_mle, q_lem, q_nem, q_mne]
          exact zX_some ⟨rfl, hv3, hfr3, h493, hm3⟩
        · exact absurd hs hs'
      · rcases t1 with ⟨-, hs'⟩ | ⟨rfl, -⟩
        · exact absurd hs' hs
        · simp (disch := omega) only [↓reduceIte, o_bind, and_true, true_and, and_false, false_and, or_true, true_or, or_false, false_or, not_true, not_false_eq_true, not_false_iff, ne_eq, Nat.reduceAdd, Nat.reduceMul, Nat.reduceSub, Nat.reduceDiv, Nat.reduceMod, Nat.reduceLT, Nat.reduceLeDiff, Nat.reduceEqDiff, Nat.not_lt, Nat.not_le, q_lit, ↓q_m1, q_om, q_on, q_add, q_mul, q_sub, q_div, q_md, q_ltT, q_ltF, q_leT, q_leF, q_eqT, q_eqF, q_inT, q_inF, q_nn, q_mlt, q_ltm, q_mle, q_lem, q_nem, q_mne]
          have hC3 : UC N G V3 u U := UC_fr2 hu g1 (fun w h => hv3 w (by omega))
          have hR3 : UR R3 M3 b U := RFr_UR hfr3 (hm3 12 (by omega) (by omega)) gr
          have hS3 : SC V3 13 (ahS U A x i) := SC_fr hS (fun w h1 h2 => q3 w (by omega))
          have hT3 : SR R3 1 (ahS U A x i) := SR_fr hT (fun w h1 h2 => t2 w (by omega))
          refine zX_callL (c_pass_n (L := L3) (x := x) hx hu hx.2.2.1 (by omega) hC3 hS3 hU hB hxb) ?_
          rintro ⟨V4, L4⟩ ⟨z1, -, -, -, z5, -, z7⟩
          refine zX_callR (r_passes (v := 1) (dr := false) (by omega) hR3 hT3 hU hB h493 hxb) ?_
          rintro ⟨R4, M4⟩ ⟨o1, -, -, -, o5, o6, o7⟩
          dsimp only at z1 z5 z7 o1 o5 o6 o7 ⊢
          rw [bX_x] at o5
          refine ih (mxA A.1 + 1 - (i + 1)) _ _ (by omega) ⟨i + 1, V4, L4, R4, M4, by omega, rfl, rfl, rfl, fun hle => ⟨?_, o1⟩, fun w h => ?_, RFr_tr hfr3 o6, o5, fun w h1 h2 => by rw [o7 w h1 h2]; exact hm3 w h1 h2⟩
          · have e : (if (ahS U A x i).1 + 1 < 999 then (ahS U A x i).1 + 1 else 999) = (ahS U A x i).1 + 1 := by split <;> omega
            rw [e] at z1
            exact z1
          · by_cases h22 : w = 22
            · subst h22; rw [z7]; exact hv3 22 (by omega)
            · rw [z5 w (by omega) (by omega) h22]; exact hv3 w h
  · rintro ⟨y, V2, L2⟩ ⟨y', R2, M2⟩ ⟨t1, t2, t3, t4, t5⟩
    dsimp only at t1 t2 t3 t4 t5 ⊢
    exact ⟨t1, u, b, f0, cnt, acts, x, pl, U, A, hi, JJ_core h (fun w h1 _ => t2 w h1) (cR_RFr t3) ⟨t5 12 (by omega) (by omega), by rw [t4, hx49]⟩⟩
end
