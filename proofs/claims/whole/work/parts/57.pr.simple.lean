section
variable {n : Nat} {K N : Nat → Nat} {G : zG} {V R : zI} {L M : zL} {u b f0 cnt acts x : Nat} {pl : Nat → Nat} {U : aU} {A : aS} {hi : Nat → aS}
theorem q_ne3 {y : Int32} (h : y < qi 0) : ¬ y = qi 0 ∧ ¬ y = qi 1 ∧ ¬ y = qi 2 ∧ ¬ y = qi 3 := ⟨q_nne h (by omega), q_nne h (by omega), q_nne h (by omega), q_nne h (by omega)⟩
theorem m_pair {a1 a2 a3 : Int32} (h : JP n K N G V R M) : zX (f_X10_pair N G 0 a1 a2 a3 V L) (f_pair a1 a2 a3 R M) (fun r r' => r = r'.1 ∧ JP n K N G V r'.2.1 r'.2.2) := by
  obtain ⟨u, b, f0, cnt, acts, x, pl, U, A, hi, h⟩ := h
  have hp : JP n K N G V R M := ⟨u, b, f0, cnt, acts, x, pl, U, A, hi, h⟩
  obtain ⟨⟨hn, -, hx, g2, hu, -⟩, -⟩ := id h.1
  obtain ⟨⟨g1, gs, gr, gt⟩, ⟨hU, hA⟩, -⟩ := id h.2.1
  have htw := UB_tw hU
  have n3 : N (u + 3) = 36 := hu.2.2.2.2
  unfold f_X10_pair g_X10_pair f_pair
  rw [g2, hx.1.2.1]
  simp only [o_bind]
  rw [hu.2.1.2.2]
  simp only [o_bind]
  rcases x_isPair (L := L) g1 gr hU a1 a2 with ⟨e1, e2⟩ | ⟨a, c, rfl, rfl, ha, hc, hac, e1, e2⟩
  · simp (disch := omega) only [e1, e2, ↓reduceIte, o_bind, and_true, true_and, and_false, false_and, or_true, true_or, or_false, false_or, not_true, not_false_eq_true, not_false_iff, ne_eq, Nat.reduceAdd, Nat.reduceMul, Nat.reduceSub, Nat.reduceDiv, Nat.reduceMod, Nat.reduceLT, Nat.reduceLeDiff, Nat.reduceEqDiff, Nat.not_lt, Nat.not_le, Nat.add_zero, Nat.zero_add, Nat.mul_zero, Nat.zero_mul, q_lit, ↓q_m1, q_om, q_on, q_add, q_mul, q_sub, q_div, q_md, q_ltT, q_ltF, q_leT, q_leF, q_eqT, q_eqF, q_inT, q_inF, q_nn, q_mlt, q_ltm, q_mle, q_lem, q_nem, q_mne]
    exact zX_some ⟨rfl, hp⟩
  have ei : a * 6 + c = 6 * a + c := by omega
  have hk : 6 * a + c < 36 := by omega
  have d1 : R 21 (6 * a + c) = qi (A.2.1 (6 * a + c)) := by have := gt.2.1 _ hk; rw [Nat.mul_zero, Nat.zero_add] at this; exact this
  have d2 : R 22 (6 * a + c) = qi (A.2.2.1 (6 * a + c)) := by have := gt.2.2.1 _ hk; rw [Nat.mul_zero, Nat.zero_add] at this; exact this
  have d3 : R 23 (6 * a + c) = qi (A.2.2.2.1 (6 * a + c)) := by have := gt.2.2.2.1 _ hk; rw [Nat.mul_zero, Nat.zero_add] at this; exact this
  have hw := f_isWay_e (L := M) gr hU (x := a) (y := c) (by omega) (by omega) (by omega)
  have ew : V (u + 3) (6 * a + c) = qi (U.2.2.1 (6 * a + c)) := g1.2.1 _ hk
  have hwb : U.2.2.1 (6 * a + c) ≤ 45 := (hU.2.1 (6 * a + c) hk).1
  have cc := c_count (L := L) (w := a3) hx.2.1 gs hk
  rcases q_cases a3 with h3 | ⟨w, hw3, rfl⟩
  · obtain ⟨k0, k1, k2, k3⟩ := q_ne3 h3
    simp (disch := omega) only [e1, e2, f_at, ei, cc, k0, k1, k2, k3, cntV, ↓reduceIte, o_bind, and_true, true_and, and_false, false_and, or_true, true_or, or_false, false_or, not_true, not_false_eq_true, not_false_iff, ne_eq, Nat.reduceAdd, Nat.reduceMul, Nat.reduceSub, Nat.reduceDiv, Nat.reduceMod, Nat.reduceLT, Nat.reduceLeDiff, Nat.reduceEqDiff, Nat.not_lt, Nat.not_le, Nat.add_zero, Nat.zero_add, Nat.mul_zero, Nat.zero_mul, q_lit, ↓q_m1, q_om, q_on, q_add, q_mul, q_sub, q_div, q_md, q_ltT, q_ltF, q_leT, q_leF, q_eqT, q_eqF, q_inT, q_inF, q_nn, q_mlt, q_ltm, q_mle, q_lem, q_nem, q_mne]
    exact zX_some ⟨rfl, hp⟩
  by_cases w3 : w = 3
  · subst w3
    by_cases hw0 : 0 < U.2.2.1 (6 * a + c)
    · have hwy := f_wayBy_e (L := M) gr hU (x := a) (y := c) (by omega) (by omega) hw0
      have hw1 : ¬ U.2.2.1 (6 * a + c) ≤ 0 := by omega
      simp (disch := omega) only [e1, e2, f_at, ei, n3, ew, hw, hw0, hwy, ↓reduceIte, o_bind, and_true, true_and, and_false, false_and, or_true, true_or, or_false, false_or, not_true, not_false_eq_true, not_false_iff, ne_eq, Nat.reduceAdd, Nat.reduceMul, Nat.reduceSub, Nat.reduceDiv, Nat.reduceMod, Nat.reduceLT, Nat.reduceLeDiff, Nat.reduceEqDiff, Nat.not_lt, Nat.not_le, Nat.add_zero, Nat.zero_add, Nat.mul_zero, Nat.zero_mul, q_lit, ↓q_m1, q_om, q_on, q_add, q_mul, q_sub, q_div, q_md, q_ltT, q_ltF, q_leT, q_leF, q_eqT, q_eqF, q_inT, q_inF, q_nn, q_mlt, q_ltm, q_mle, q_lem, q_nem, q_mne]
      refine zX_some ?_
      exact ⟨rfl, hp⟩
    · have hz : U.2.2.1 (6 * a + c) = 0 := by omega
      simp (disch := omega) only [e1, e2, f_at, ei, n3, ew, hw, hz, Nat.lt_irrefl, Nat.le_refl, ↓reduceIte, o_bind, and_true, true_and, and_false, false_and, or_true, true_or, or_false, false_or, not_true, not_false_eq_true, not_false_iff, ne_eq, Nat.reduceAdd, Nat.reduceMul, Nat.reduceSub, Nat.reduceDiv, Nat.reduceMod, Nat.reduceLT, Nat.reduceLeDiff, Nat.reduceEqDiff, Nat.not_lt, Nat.not_le, Nat.add_zero, Nat.zero_add, Nat.mul_zero, Nat.zero_mul, q_lit, ↓q_m1, q_om, q_on, q_add, q_mul, q_sub, q_div, q_md, q_ltT, q_ltF, q_leT, q_leF, q_eqT, q_eqF, q_inT, q_inF, q_nn, q_mlt, q_ltm, q_mle, q_lem, q_nem, q_mne]
      exact zX_some ⟨rfl, hp⟩
  · by_cases w0 : w = 0
    · subst w0
      simp (disch := omega) only [e1, e2, f_at, ei, cc, cntV, d1, ↓reduceIte, o_bind, and_true, true_and, and_false, false_and, or_true, true_or, or_false, false_or, not_true, not_false_eq_true, not_false_iff, ne_eq, Nat.reduceAdd, Nat.reduceMul, Nat.reduceSub, Nat.reduceDiv, Nat.reduceMod, Nat.reduceLT, Nat.reduceLeDiff, Nat.reduceEqDiff, Nat.not_lt, Nat.not_le, Nat.add_zero, Nat.zero_add, Nat.mul_zero, Nat.zero_mul, q_lit, ↓q_m1, q_om, q_on, q_add, q_mul, q_sub, q_div, q_md, q_ltT, q_ltF, q_leT, q_leF, q_eqT, q_eqF, q_inT, q_inF, q_nn, q_mlt, q_ltm, q_mle, q_lem, q_nem, q_mne]
      exact zX_some ⟨rfl, hp⟩
    by_cases w1 : w = 1
    · subst w1
      simp (disch := omega) only [e1, e2, f_at, ei, cc, cntV, d2, ↓reduceIte, o_bind, and_true, true_and, and_false, false_and, or_true, true_or, or_false, false_or, not_true, not_false_eq_true, not_false_iff, ne_eq, Nat.reduceAdd, Nat.reduceMul, Nat.reduceSub, Nat.reduceDiv, Nat.reduceMod, Nat.reduceLT, Nat.reduceLeDiff, Nat.reduceEqDiff, Nat.not_lt, Nat.not_le, Nat.add_zero, Nat.zero_add, Nat.mul_zero, Nat.zero_mul, q_lit, ↓q_m1, q_om, q_on, q_add, q_mul, q_sub, q_div, q_md, q_ltT, q_ltF, q_leT, q_leF, q_eqT, q_eqF, q_inT, q_inF, q_nn, q_mlt, q_ltm, q_mle, q_lem, q_nem, q_mne]
      exact zX_some ⟨rfl, hp⟩
    by_cases w2 : w = 2
    · subst w2
      simp (disch := omega) only [e1, e2, f_at, ei, cc, cntV, d3, ↓reduceIte, o_bind, and_true, true_and, and_false, false_and, or_true, true_or, or_false, false_or, not_true, not_false_eq_true, not_false_iff, ne_eq, Nat.reduceAdd, Nat.reduceMul, Nat.reduceSub, Nat.reduceDiv, Nat.reduceMod, Nat.reduceLT, Nat.reduceLeDiff, Nat.reduceEqDiff, Nat.not_lt, Nat.not_le, Nat.add_zero, Nat.zero_add, Nat.mul_zero, Nat.zero_mul, q_lit, ↓q_m1, q_om, q_on, q_add, q_mul, q_sub, q_div, q_md, q_ltT, q_ltF, q_leT, q_leF, q_eqT, q_eqF, q_inT, q_inF, q_nn, q_mlt, q_ltm, q_mle, q_lem, q_nem, q_mne]
      exact zX_some ⟨rfl, hp⟩
    simp (disch := omega) only [e1, e2, f_at, ei, cc, cntV, ↓reduceIte, o_bind, and_true, true_and, and_false, false_and, or_true, true_or, or_false, false_or, not_true, not_false_eq_true, not_false_iff, ne_eq, Nat.reduceAdd, Nat.reduceMul, Nat.reduceSub, Nat.reduceDiv, Nat.reduceMod, Nat.reduceLT, Nat.reduceLeDiff, Nat.reduceEqDiff, Nat.not_lt, Nat.not_le, Nat.add_zero, Nat.zero_add, Nat.mul_zero, Nat.zero_mul, q_lit, ↓q_m1, q_om, q_on, q_add, q_mul, q_sub, q_div, q_md, q_ltT, q_ltF, q_leT, q_leF, q_eqT, q_eqF, q_inT, q_inF, q_nn, q_mlt, q_ltm, q_mle, q_lem, q_nem, q_mne]
    exact zX_some ⟨rfl, hp⟩
theorem m_mail {a1 a2 : Int32} (h : JP n K N G V R M) : zX (f_X10_mail N G 0 a1 a2 V L) (f_mail a1 a2 R M) (fun r r' => r = r'.1 ∧ JP n K N G V r'.2.1 r'.2.2) := by
  obtain ⟨u, b, f0, cnt, acts, x, pl, U, A, hi, h⟩ := h
  have hp : JP n K N G V R M := ⟨u, b, f0, cnt, acts, x, pl, U, A, hi, h⟩
  obtain ⟨⟨hn, -, hx, g2, hu, -⟩, -⟩ := id h.1
  obtain ⟨⟨g1, gs, gr, gt⟩, ⟨hU, hA⟩, -⟩ := id h.2.1
  have g65 : G 6 5 = some 10 := hx.2.1.1.2.2.2.1
  have g66 : G 6 6 = some 11 := hx.2.1.1.2.2.2.2.1
  have n10 : N 10 = 60 := hx.2.1.2.2.2.2.1
  have n11 : N 11 = 60 := hx.2.1.2.2.2.2.2.1
  have e4 : V 6 4 = qi A.2.2.2.2.1 := gs.1.2.1
  have r24 : R 24 0 = qi A.2.2.2.2.1 := gt.1.2.1
  have hm := SB_m hA
  have z0 : (0 : Int32).toNatClampNeg = 0 := rfl
  unfold f_X10_mail g_X10_mail f_mail f_is
  rw [hx.1.2.1]
  simp only [o_bind]
  rw [g65, g66]
  simp only [o_bind]
  rcases q_cases a1 with h1 | ⟨k, hk, rfl⟩
  · simp (disch := omega) only [h1, ↓reduceIte, o_bind, and_true, true_and, and_false, false_and, or_true, true_or, or_false, false_or, not_true, not_false_eq_true, not_false_iff, ne_eq, Nat.reduceAdd, Nat.reduceMul, Nat.reduceSub, Nat.reduceDiv, Nat.reduceMod, Nat.reduceLT, Nat.reduceLeDiff, Nat.reduceEqDiff, Nat.not_lt, Nat.not_le, Nat.add_zero, Nat.zero_add, Nat.mul_zero, Nat.zero_mul, q_lit, ↓q_m1, q_om, q_on, q_add, q_mul, q_sub, q_div, q_md, q_ltT, q_ltF, q_leT, q_leF, q_eqT, q_eqF, q_inT, q_inF, q_nn, q_mlt, q_ltm, q_mle, q_lem, q_nem, q_mne]
    exact zX_some ⟨rfl, hp⟩
  by_cases m0 : A.2.2.2.2.1 = 0
  · have e : qi 0 - qi 1 = qm := rfl
    simp (disch := omega) only [z0, e4, r24, m0, e, ↓reduceIte, o_bind, and_true, true_and, and_false, false_and, or_true, true_or, or_false, false_or, not_true, not_false_eq_true, not_false_iff, ne_eq, Nat.reduceAdd, Nat.reduceMul, Nat.reduceSub, Nat.reduceDiv, Nat.reduceMod, Nat.reduceLT, Nat.reduceLeDiff, Nat.reduceEqDiff, Nat.not_lt, Nat.not_le, Nat.add_zero, Nat.zero_add, Nat.mul_zero, Nat.zero_mul, q_lit, ↓q_m1, q_om, q_on, q_add, q_mul, q_sub, q_div, q_md, q_ltT, q_ltF, q_leT, q_leF, q_eqT, q_eqF, q_inT, q_inF, q_nn, q_mlt, q_ltm, q_mle, q_lem, q_nem, q_mne]
    exact zX_some ⟨rfl, hp⟩
  by_cases hkm : k < A.2.2.2.2.1
  · have d1 : V 10 k = qi (A.2.2.2.2.2.1 k) := gs.2.2.2.2.1 k hkm
    have d2 : V 11 k = qi (A.2.2.2.2.2.2.1 k) := gs.2.2.2.2.2.1 k hkm
    have c1 : R 25 (3 * k) = qi (A.2.2.2.2.2.1 k / 6) := by have := gt.2.2.2.2.1 k hkm; rw [Nat.mul_zero, Nat.zero_add] at this; exact this
    have c2 : R 25 (3 * k + 1) = qi (A.2.2.2.2.2.1 k % 6) := by have := gt.2.2.2.2.2.1 k hkm; rw [Nat.mul_zero, Nat.zero_add] at this; exact this
    have c3 : R 25 (3 * k + 2) = qi (A.2.2.2.2.2.2.1 k) := by have := gt.2.2.2.2.2.2.1 k hkm; rw [Nat.mul_zero, Nat.zero_add] at this; exact this
    have hb := hA.2.2.2.1 k hkm
    have hb1 : A.2.2.2.2.2.1 k < 36 := hb.1
    rcases q_cases a2 with h3 | ⟨w, hw3, rfl⟩
    · obtain ⟨k0, k1, k2, k3⟩ := q_ne3 h3
      simp (disch := omega) only [z0, e4, r24, h3, k0, k1, k2, ↓reduceIte, o_bind, and_true, true_and, and_false, false_and, or_true, true_or, or_false, false_or, not_true, not_false_eq_true, not_false_iff, ne_eq, Nat.reduceAdd, Nat.reduceMul, Nat.reduceSub, Nat.reduceDiv, Nat.reduceMod, Nat.reduceLT, Nat.reduceLeDiff, Nat.reduceEqDiff, Nat.not_lt, Nat.not_le, Nat.add_zero, Nat.zero_add, Nat.mul_zero, Nat.zero_mul, q_lit, ↓q_m1, q_om, q_on, q_add, q_mul, q_sub, q_div, q_md, q_ltT, q_ltF, q_leT, q_leF, q_eqT, q_eqF, q_inT, q_inF, q_nn, q_mlt, q_ltm, q_mle, q_lem, q_nem, q_mne]
      exact zX_some ⟨rfl, hp⟩
    by_cases w0 : w = 0
    · subst w0
      simp (disch := omega) only [z0, e4, r24, n10, d1, c1, ↓reduceIte, o_bind, and_true, true_and, and_false, false_and, or_true, true_or, or_false, false_or, not_true, not_false_eq_true, not_false_iff, ne_eq, Nat.reduceAdd, Nat.reduceMul, Nat.reduceSub, Nat.reduceDiv, Nat.reduceMod, Nat.reduceLT, Nat.reduceLeDiff, Nat.reduceEqDiff, Nat.not_lt, Nat.not_le, Nat.add_zero, Nat.zero_add, Nat.mul_zero, Nat.zero_mul, q_lit, ↓q_m1, q_om, q_on, q_add, q_mul, q_sub, q_div, q_md, q_ltT, q_ltF, q_leT, q_leF, q_eqT, q_eqF, q_inT, q_inF, q_nn, q_mlt, q_ltm, q_mle, q_lem, q_nem, q_mne]
      exact zX_some ⟨rfl, hp⟩
    by_cases w1 : w = 1
    · subst w1
      simp (disch := omega) only [z0, e4, r24, n10, d1, c2, ↓reduceIte, o_bind, and_true, true_and, and_false, false_and, or_true, true_or, or_false, false_or, not_true, not_false_eq_true, not_false_iff, ne_eq, Nat.reduceAdd, Nat.reduceMul, Nat.reduceSub, Nat.reduceDiv, Nat.reduceMod, Nat.reduceLT, Nat.reduceLeDiff, Nat.reduceEqDiff, Nat.not_lt, Nat.not_le, Nat.add_zero, Nat.zero_add, Nat.mul_zero, Nat.zero_mul, q_lit, ↓q_m1, q_om, q_on, q_add, q_mul, q_sub, q_div, q_md, q_ltT, q_ltF, q_leT, q_leF, q_eqT, q_eqF, q_inT, q_inF, q_nn, q_mlt, q_ltm, q_mle, q_lem, q_nem, q_mne]
      exact zX_some ⟨rfl, hp⟩
    by_cases w2 : w = 2
    · subst w2
      simp (disch := omega) only [z0, e4, r24, n11, d2, c3, ↓reduceIte, o_bind, and_true, true_and, and_false, false_and, or_true, true_or, or_false, false_or, not_true, not_false_eq_true, not_false_iff, ne_eq, Nat.reduceAdd, Nat.reduceMul, Nat.reduceSub, Nat.reduceDiv, Nat.reduceMod, Nat.reduceLT, Nat.reduceLeDiff, Nat.reduceEqDiff, Nat.not_lt, Nat.not_le, Nat.add_zero, Nat.zero_add, Nat.mul_zero, Nat.zero_mul, q_lit, ↓q_m1, q_om, q_on, q_add, q_mul, q_sub, q_div, q_md, q_ltT, q_ltF, q_leT, q_leF, q_eqT, q_eqF, q_inT, q_inF, q_nn, q_mlt, q_ltm, q_mle, q_lem, q_nem, q_mne]
      exact zX_some ⟨rfl, hp⟩
    simp (disch := omega) only [z0, e4, r24, ↓reduceIte, o_bind, and_true, true_and, and_false, false_and, or_true, true_or, or_false, false_or, not_true, not_false_eq_true, not_false_iff, ne_eq, Nat.reduceAdd, Nat.reduceMul, Nat.reduceSub, Nat.reduceDiv, Nat.reduceMod, Nat.reduceLT, Nat.reduceLeDiff, Nat.reduceEqDiff, Nat.not_lt, Nat.not_le, Nat.add_zero, Nat.zero_add, Nat.mul_zero, Nat.zero_mul, q_lit, ↓q_m1, q_om, q_on, q_add, q_mul, q_sub, q_div, q_md, q_ltT, q_ltF, q_leT, q_leF, q_eqT, q_eqF, q_inT, q_inF, q_nn, q_mlt, q_ltm, q_mle, q_lem, q_nem, q_mne]
    exact zX_some ⟨rfl, hp⟩
  · simp (disch := omega) only [z0, e4, r24, ↓reduceIte, o_bind, and_true, true_and, and_false, false_and, or_true, true_or, or_false, false_or, not_true, not_false_eq_true, not_false_iff, ne_eq, Nat.reduceAdd, Nat.reduceMul, Nat.reduceSub, Nat.reduceDiv, Nat.reduceMod, Nat.reduceLT, Nat.reduceLeDiff, Nat.reduceEqDiff, Nat.not_lt, Nat.not_le, Nat.add_zero, Nat.zero_add, Nat.mul_zero, Nat.zero_mul, q_lit, ↓q_m1, q_om, q_on, q_add, q_mul, q_sub, q_div, q_md, q_ltT, q_ltF, q_leT, q_leF, q_eqT, q_eqF, q_inT, q_inF, q_nn, q_mlt, q_ltm, q_mle, q_lem, q_nem, q_mne]
    exact zX_some ⟨rfl, hp⟩
theorem m_kept {a1 a2 : Int32} (h : JP n K N G V R M) : zX (f_X10_kept N G 0 a1 a2 V L) (f_kept a1 a2 R M) (fun r r' => r = r'.1 ∧ JP n K N G V r'.2.1 r'.2.2) := by
  obtain ⟨u, b, f0, cnt, acts, x, pl, U, A, hi, h⟩ := h
  have hp : JP n K N G V R M := ⟨u, b, f0, cnt, acts, x, pl, U, A, hi, h⟩
  obtain ⟨⟨hn, -, hx, g2, hu, -⟩, -⟩ := id h.1
  obtain ⟨⟨g1, gs, gr, gt⟩, ⟨hU, hA⟩, -⟩ := id h.2.1
  have g68 : G 6 8 = some 12 := hx.2.1.1.2.2.2.2.2
  have n12 : N 12 = 50 := hx.2.1.2.2.2.2.2.2
  have e7 : V 6 7 = qi A.2.2.2.2.2.2.2.1 := gs.1.2.2
  have r26 : R 26 0 = qi A.2.2.2.2.2.2.2.1 := gt.1.2.2
  have hm := (SB_k hA).2
  have z0 : (0 : Int32).toNatClampNeg = 0 := rfl
  unfold f_X10_kept g_X10_kept f_kept f_is f_X7_keptAt g_X7_keptAt
  rw [hx.1.2.1]
  simp only [o_bind]
  rw [g68]
  simp only [o_bind]
  rcases q_cases a1 with h1 | ⟨k, hk, rfl⟩
  · simp (disch := omega) only [h1, ↓reduceIte, o_bind, and_true, true_and, and_false, false_and, or_true, true_or, or_false, false_or, not_true, not_false_eq_true, not_false_iff, ne_eq, Nat.reduceAdd, Nat.reduceMul, Nat.reduceSub, Nat.reduceDiv, Nat.reduceMod, Nat.reduceLT, Nat.reduceLeDiff, Nat.reduceEqDiff, Nat.not_lt, Nat.not_le, Nat.add_zero, Nat.zero_add, Nat.mul_zero, Nat.zero_mul, q_lit, ↓q_m1, q_om, q_on, q_add, q_mul, q_sub, q_div, q_md, q_ltT, q_ltF, q_leT, q_leF, q_eqT, q_eqF, q_inT, q_inF, q_nn, q_mlt, q_ltm, q_mle, q_lem, q_nem, q_mne]
    exact zX_some ⟨rfl, hp⟩
  by_cases m0 : A.2.2.2.2.2.2.2.1 = 0
  · have e : qi 0 - qi 1 = qm := rfl
    simp (disch := omega) only [z0, e7, r26, m0, e, ↓reduceIte, o_bind, and_true, true_and, and_false, false_and, or_true, true_or, or_false, false_or, not_true, not_false_eq_true, not_false_iff, ne_eq, Nat.reduceAdd, Nat.reduceMul, Nat.reduceSub, Nat.reduceDiv, Nat.reduceMod, Nat.reduceLT, Nat.reduceLeDiff, Nat.reduceEqDiff, Nat.not_lt, Nat.not_le, Nat.add_zero, Nat.zero_add, Nat.mul_zero, Nat.zero_mul, q_lit, ↓q_m1, q_om, q_on, q_add, q_mul, q_sub, q_div, q_md, q_ltT, q_ltF, q_leT, q_leF, q_eqT, q_eqF, q_inT, q_inF, q_nn, q_mlt, q_ltm, q_mle, q_lem, q_nem, q_mne]
    exact zX_some ⟨rfl, hp⟩
  by_cases hkm : k < A.2.2.2.2.2.2.2.1
  · have d1 : V 12 k = qi (A.2.2.2.2.2.2.2.2 k) := gs.2.2.2.2.2.2 k hkm
    have c1 : R 27 (4 * k) = qi (A.2.2.2.2.2.2.2.2 k / 72) := by have := gt.2.2.2.2.2.2.2.1 k hkm; rw [Nat.mul_zero, Nat.zero_add] at this; exact this
    have c2 : R 27 (4 * k + 1) = qi (A.2.2.2.2.2.2.2.2 k / 2 % 36 / 6) := by have := gt.2.2.2.2.2.2.2.2.1 k hkm; rw [Nat.mul_zero, Nat.zero_add] at this; exact this
    have c3 : R 27 (4 * k + 2) = qi (A.2.2.2.2.2.2.2.2 k / 2 % 36 % 6) := by have := gt.2.2.2.2.2.2.2.2.2.1 k hkm; rw [Nat.mul_zero, Nat.zero_add] at this; exact this
    have c4 : R 27 (4 * k + 3) = qi (A.2.2.2.2.2.2.2.2 k % 2) := by have := gt.2.2.2.2.2.2.2.2.2.2 k hkm; rw [Nat.mul_zero, Nat.zero_add] at this; exact this
    have hb := hA.2.2.2.2 k hkm
    generalize A.2.2.2.2.2.2.2.2 k = c at *
    have e72 : c / 2 / 36 = c / 72 := by omega
    rcases q_cases a2 with h3 | ⟨w, hw3, rfl⟩
    · obtain ⟨k0, k1, k2, k3⟩ := q_ne3 h3
      simp (disch := omega) only [z0, e7, r26, n12, d1, h3, k0, k1, k2, k3, ↓reduceIte, o_bind, and_true, true_and, and_false, false_and, or_true, true_or, or_false, false_or, not_true, not_false_eq_true, not_false_iff, ne_eq, Nat.reduceAdd, Nat.reduceMul, Nat.reduceSub, Nat.reduceDiv, Nat.reduceMod, Nat.reduceLT, Nat.reduceLeDiff, Nat.reduceEqDiff, Nat.not_lt, Nat.not_le, Nat.add_zero, Nat.zero_add, Nat.mul_zero, Nat.zero_mul, q_lit, ↓q_m1, q_om, q_on, q_add, q_mul, q_sub, q_div, q_md, q_ltT, q_ltF, q_leT, q_leF, q_eqT, q_eqF, q_inT, q_inF, q_nn, q_mlt, q_ltm, q_mle, q_lem, q_nem, q_mne]
      exact zX_some ⟨rfl, hp⟩
    by_cases w0 : w = 0
    · subst w0
      simp (disch := omega) only [z0, e7, r26, n12, d1, c1, e72, ↓reduceIte, o_bind, and_true, true_and, and_false, false_and, or_true, true_or, or_false, false_or, not_true, not_false_eq_true, not_false_iff, ne_eq, Nat.reduceAdd, Nat.reduceMul, Nat.reduceSub, Nat.reduceDiv, Nat.reduceMod, Nat.reduceLT, Nat.reduceLeDiff, Nat.reduceEqDiff, Nat.not_lt, Nat.not_le, Nat.add_zero, Nat.zero_add, Nat.mul_zero, Nat.zero_mul, q_lit, ↓q_m1, q_om, q_on, q_add, q_mul, q_sub, q_div, q_md, q_ltT, q_ltF, q_leT, q_leF, q_eqT, q_eqF, q_inT, q_inF, q_nn, q_mlt, q_ltm, q_mle, q_lem, q_nem, q_mne]
      exact zX_some ⟨rfl, hp⟩
    by_cases w1 : w = 1
    · subst w1
      simp (disch := omega) only [z0, e7, r26, n12, d1, c2, ↓reduceIte, o_bind, and_true, true_and, and_false, false_and, or_true, true_or, or_false, false_or, not_true, not_false_eq_true, not_false_iff, ne_eq, Nat.reduceAdd, Nat.reduceMul, Nat.reduceSub, Nat.reduceDiv, Nat.reduceMod, Nat.reduceLT, Nat.reduceLeDiff, Nat.reduceEqDiff, Nat.not_lt, Nat.not_le, Nat.add_zero, Nat.zero_add, Nat.mul_zero, Nat.zero_mul, q_lit, ↓q_m1, q_om, q_on, q_add, q_mul, q_sub, q_div, q_md, q_ltT, q_ltF, q_leT, q_leF, q_eqT, q_eqF, q_inT, q_inF, q_nn, q_mlt, q_ltm, q_mle, q_lem, q_nem, q_mne]
      exact zX_some ⟨rfl, hp⟩
    by_cases w2 : w = 2
    · subst w2
      simp (disch := omega) only [z0, e7, r26, n12, d1, c3, ↓reduceIte, o_bind, and_true, true_and, and_false, false_and, or_true, true_or, or_false, false_or, not_true, not_false_eq_true, not_false_iff, ne_eq, Nat.reduceAdd, Nat.reduceMul, Nat.reduceSub, Nat.reduceDiv, Nat.reduceMod, Nat.reduceLT, Nat.reduceLeDiff, Nat.reduceEqDiff, Nat.not_lt, Nat.not_le, Nat.add_zero, Nat.zero_add, Nat.mul_zero, Nat.zero_mul, q_lit, ↓q_m1, q_om, q_on, q_add, q_mul, q_sub, q_div, q_md, q_ltT, q_ltF, q_leT, q_leF, q_eqT, q_eqF, q_inT, q_inF, q_nn, q_mlt, q_ltm, q_mle, q_lem, q_nem, q_mne]
      exact zX_some ⟨rfl, hp⟩
    by_cases w3 : w = 3
    · subst w3
      simp (disch := omega) only [z0, e7, r26, n12, d1, c4, ↓reduceIte, o_bind, and_true, true_and, and_false, false_and, or_true, true_or, or_false, false_or, not_true, not_false_eq_true, not_false_iff, ne_eq, Nat.reduceAdd, Nat.reduceMul, Nat.reduceSub, Nat.reduceDiv, Nat.reduceMod, Nat.reduceLT, Nat.reduceLeDiff, Nat.reduceEqDiff, Nat.not_lt, Nat.not_le, Nat.add_zero, Nat.zero_add, Nat.mul_zero, Nat.zero_mul, q_lit, ↓q_m1, q_om, q_on, q_add, q_mul, q_sub, q_div, q_md, q_ltT, q_ltF, q_leT, q_leF, q_eqT, q_eqF, q_inT, q_inF, q_nn, q_mlt, q_ltm, q_mle, q_lem, q_nem, q_mne]
      exact zX_some ⟨rfl, hp⟩
    simp (disch := omega) only [z0, e7, r26, n12, d1, ↓reduceIte, o_bind, and_true, true_and, and_false, false_and, or_true, true_or, or_false, false_or, not_true, not_false_eq_true, not_false_iff, ne_eq, Nat.reduceAdd, Nat.reduceMul, Nat.reduceSub, Nat.reduceDiv, Nat.reduceMod, Nat.reduceLT, Nat.reduceLeDiff, Nat.reduceEqDiff, Nat.not_lt, Nat.not_le, Nat.add_zero, Nat.zero_add, Nat.mul_zero, Nat.zero_mul, q_lit, ↓q_m1, q_om, q_on, q_add, q_mul, q_sub, q_div, q_md, q_ltT, q_ltF, q_leT, q_leF, q_eqT, q_eqF, q_inT, q_inF, q_nn, q_mlt, q_ltm, q_mle, q_lem, q_nem, q_mne]
    exact zX_some ⟨rfl, hp⟩
  · simp (disch := omega) only [z0, e7, r26, ↓reduceIte, o_bind, and_true, true_and, and_false, false_and, or_true, true_or, or_false, false_or, not_true, not_false_eq_true, not_false_iff, ne_eq, Nat.reduceAdd, Nat.reduceMul, Nat.reduceSub, Nat.reduceDiv, Nat.reduceMod, Nat.reduceLT, Nat.reduceLeDiff, Nat.reduceEqDiff, Nat.not_lt, Nat.not_le, Nat.add_zero, Nat.zero_add, Nat.mul_zero, Nat.zero_mul, q_lit, ↓q_m1, q_om, q_on, q_add, q_mul, q_sub, q_div, q_md, q_ltT, q_ltF, q_leT, q_leF, q_eqT, q_eqF, q_inT, q_inF, q_nn, q_mlt, q_ltm, q_mle, q_lem, q_nem, q_mne]
    exact zX_some ⟨rfl, hp⟩
/-! sums of 36 -/
def smF (f : Nat → Nat) : Nat → Int32
  | 0 => qi 0
  | k + 1 => smF f k + qi (f k)
theorem c_sum {p : Nat} {f : Nat → Nat} (hN : N p = 36) (hV : ∀ k, k < 36 → V p k = qi (f k)) : f_X10_sumOf N G p V L = some (smF f 36) := by
  apply zW_of
  unfold f_X10_sumOf g_X10_sumOf
  refine zW_lp (I := fun r q => ∃ i : Nat, i ≤ 36 ∧ r = 36 - i ∧ q = (smF f i, qi i)) ?_ FU 36 _ ⟨0, by omega, by omega, rfl⟩ (FU_big (by omega))
  rintro k r q ⟨i, hi, rfl, rfl⟩ ih
  by_cases hend : i = 36
  · subst hend
    simp (disch := omega) only [b_X10_sumOf_4, hN, Nat.le_refl, ↓reduceIte, o_bind, and_true, true_and, and_false, false_and, or_true, true_or, or_false, false_or, not_true, not_false_eq_true, not_false_iff, ne_eq, Nat.reduceAdd, Nat.reduceMul, Nat.reduceSub, Nat.reduceDiv, Nat.reduceMod, Nat.reduceLT, Nat.reduceLeDiff, Nat.reduceEqDiff, Nat.not_lt, Nat.not_le, q_lit, ↓q_m1, q_om, q_on, q_add, q_mul, q_sub, q_div, q_md, q_ltT, q_ltF, q_leT, q_leF, q_eqT, q_eqF, q_inT, q_inF, q_nn, q_mlt, q_ltm, q_mle, q_lem, q_nem, q_mne]
    exact zW_some rfl
  · simp (disch := omega) only [b_X10_sumOf_4, hN, hV, ↓reduceIte, o_bind, and_true, true_and, and_false, false_and, or_true, true_or, or_false, false_or, not_true, not_false_eq_true, not_false_iff, ne_eq, Nat.reduceAdd, Nat.reduceMul, Nat.reduceSub, Nat.reduceDiv, Nat.reduceMod, Nat.reduceLT, Nat.reduceLeDiff, Nat.reduceEqDiff, Nat.not_lt, Nat.not_le, q_lit, ↓q_m1, q_om, q_on, q_add, q_mul, q_sub, q_div, q_md, q_ltT, q_ltF, q_leT, q_leF, q_eqT, q_eqF, q_inT, q_inF, q_nn, q_mlt, q_ltm, q_mle, q_lem, q_nem, q_mne]
    exact ih (36 - (i + 1)) _ (by omega) ⟨i + 1, by omega, rfl, rfl⟩
theorem r_sum89 {f : Nat → Nat} (hV : ∀ k, k < 36 → R 21 k = qi (f k)) : zfix b_has_89 FU (0, 0, R, M) = some (smF f 36, R, M) := by
  apply zW_of
  refine zW_lp (I := fun r q => ∃ i : Nat, i ≤ 36 ∧ r = 36 - i ∧ q = (smF f i, qi i, R, M)) ?_ FU 36 _ ⟨0, by omega, by omega, rfl⟩ (FU_big (by omega))
  rintro k r q ⟨i, hi, rfl, rfl⟩ ih
  by_cases hend : i = 36
  · subst hend
    simp (disch := omega) only [b_has_89, Nat.le_refl, ↓reduceIte, o_bind, and_true, true_and, and_false, false_and, or_true, true_or, or_false, false_or, not_true, not_false_eq_true, not_false_iff, ne_eq, Nat.reduceAdd, Nat.reduceMul, Nat.reduceSub, Nat.reduceDiv, Nat.reduceMod, Nat.reduceLT, Nat.reduceLeDiff, Nat.reduceEqDiff, Nat.not_lt, Nat.not_le, q_lit, ↓q_m1, q_om, q_on, q_add, q_mul, q_sub, q_div, q_md, q_ltT, q_ltF, q_leT, q_leF, q_eqT, q_eqF, q_inT, q_inF, q_nn, q_mlt, q_ltm, q_mle, q_lem, q_nem, q_mne]
    exact zW_some rfl
  · simp (disch := omega) only [b_has_89, hV, ↓reduceIte, o_bind, and_true, true_and, and_false, false_and, or_true, true_or, or_false, false_or, not_true, not_false_eq_true, not_false_iff, ne_eq, Nat.reduceAdd, Nat.reduceMul, Nat.reduceSub, Nat.reduceDiv, Nat.reduceMod, Nat.reduceLT, Nat.reduceLeDiff, Nat.reduceEqDiff, Nat.not_lt, Nat.not_le, q_lit, ↓q_m1, q_om, q_on, q_add, q_mul, q_sub, q_div, q_md, q_ltT, q_ltF, q_leT, q_leF, q_eqT, q_eqF, q_inT, q_inF, q_nn, q_mlt, q_ltm, q_mle, q_lem, q_nem, q_mne]
    exact ih (36 - (i + 1)) _ (by omega) ⟨i + 1, by omega, rfl, rfl⟩
theorem r_sum121 {f : Nat → Nat} (hV : ∀ k, k < 36 → R 22 k = qi (f k)) : zfix b_has_121 FU (0, 0, R, M) = some (smF f 36, R, M) := by
  apply zW_of
  refine zW_lp (I := fun r q => ∃ i : Nat, i ≤ 36 ∧ r = 36 - i ∧ q = (smF f i, qi i, R, M)) ?_ FU 36 _ ⟨0, by omega, by omega, rfl⟩ (FU_big (by omega))
  rintro k r q ⟨i, hi, rfl, rfl⟩ ih
  by_cases hend : i = 36
  · subst hend
    simp (disch := omega) only [b_has_121, Nat.le_refl, ↓reduceIte, o_bind, and_true, true_and, and_false, false_and, or_true, true_or, or_false, false_or, not_true, not_false_eq_true, not_false_iff, ne_eq, Nat.reduceAdd, Nat.reduceMul, Nat.reduceSub, Nat.reduceDiv, Nat.reduceMod, Nat.reduceLT, Nat.reduceLeDiff, Nat.reduceEqDiff, Nat.not_lt, Nat.not_le, q_lit, ↓q_m1, q_om, q_on, q_add, q_mul, q_sub, q_div, q_md, q_ltT, q_ltF, q_leT, q_leF, q_eqT, q_eqF, q_inT, q_inF, q_nn, q_mlt, q_ltm, q_mle, q_lem, q_nem, q_mne]
    exact zW_some rfl
  · simp (disch := omega) only [b_has_121, hV, ↓reduceIte, o_bind, and_true, true_and, and_false, false_and, or_true, true_or, or_false, false_or, not_true, not_false_eq_true, not_false_iff, ne_eq, Nat.reduceAdd, Nat.reduceMul, Nat.reduceSub, Nat.reduceDiv, Nat.reduceMod, Nat.reduceLT, Nat.reduceLeDiff, Nat.reduceEqDiff, Nat.not_lt, Nat.not_le, q_lit, ↓q_m1, q_om, q_on, q_add, q_mul, q_sub, q_div, q_md, q_ltT, q_ltF, q_leT, q_leF, q_eqT, q_eqF, q_inT, q_inF, q_nn, q_mlt, q_ltm, q_mle, q_lem, q_nem, q_mne]
    exact ih (36 - (i + 1)) _ (by omega) ⟨i + 1, by omega, rfl, rfl⟩
theorem r_sum146 {f : Nat → Nat} (hV : ∀ k, k < 36 → R 23 k = qi (f k)) : zfix b_has_146 FU (0, 0, R, M) = some (smF f 36, R, M) := by
  apply zW_of
  refine zW_lp (I := fun r q => ∃ i : Nat, i ≤ 36 ∧ r = 36 - i ∧ q = (smF f i, qi i, R, M)) ?_ FU 36 _ ⟨0, by omega, by omega, rfl⟩ (FU_big (by omega))
  rintro k r q ⟨i, hi, rfl, rfl⟩ ih
  by_cases hend : i = 36
  · subst hend
    simp (disch := omega) only [b_has_146, Nat.le_refl, ↓reduceIte, o_bind, and_true, true_and, and_false, false_and, or_true, true_or, or_false, false_or, not_true, not_false_eq_true, not_false_iff, ne_eq, Nat.reduceAdd, Nat.reduceMul, Nat.reduceSub, Nat.reduceDiv, Nat.reduceMod, Nat.reduceLT, Nat.reduceLeDiff, Nat.reduceEqDiff, Nat.not_lt, Nat.not_le, q_lit, ↓q_m1, q_om, q_on, q_add, q_mul, q_sub, q_div, q_md, q_ltT, q_ltF, q_leT, q_leF, q_eqT, q_eqF, q_inT, q_inF, q_nn, q_mlt, q_ltm, q_mle, q_lem, q_nem, q_mne]
    exact zW_some rfl
  · simp (disch := omega) only [b_has_146, hV, ↓reduceIte, o_bind, and_true, true_and, and_false, false_and, or_true, true_or, or_false, false_or, not_true, not_false_eq_true, not_false_iff, ne_eq, Nat.reduceAdd, Nat.reduceMul, Nat.reduceSub, Nat.reduceDiv, Nat.reduceMod, Nat.reduceLT, Nat.reduceLeDiff, Nat.reduceEqDiff, Nat.not_lt, Nat.not_le, q_lit, ↓q_m1, q_om, q_on, q_add, q_mul, q_sub, q_div, q_md, q_ltT, q_ltF, q_leT, q_leF, q_eqT, q_eqF, q_inT, q_inF, q_nn, q_mlt, q_ltm, q_mle, q_lem, q_nem, q_mne]
    exact ih (36 - (i + 1)) _ (by omega) ⟨i + 1, by omega, rfl, rfl⟩
theorem zX_ite2 {α β : Type} {c : Prop} [Decidable c] {a b : Option α} {a' b' : Option β} {P : α → β → Prop} (h1 : c → zX a a' P) (h2 : ¬ c → zX b b' P) : zX (if c then a else b) (if c then a' else b') P := by
  by_cases h : c
  · rw [if_pos h, if_pos h]; exact h1 h
  · rw [if_neg h, if_neg h]; exact h2 h
theorem m_has {a1 : Int32} (h : JP n K N G V R M) : zX (f_X10_has N G 0 a1 V L) (f_has a1 R M) (fun r r' => r = r'.1 ∧ JP n K N G V r'.2.1 r'.2.2) := by
  obtain ⟨u, b, f0, cnt, acts, x, pl, U, A, hi, h⟩ := h
  have hp : JP n K N G V R M := ⟨u, b, f0, cnt, acts, x, pl, U, A, hi, h⟩
  obtain ⟨⟨hn, -, hx, g2, hu, -⟩, -⟩ := id h.1
  obtain ⟨⟨g1, gs, gr, gt⟩, ⟨hU, hA⟩, -⟩ := id h.2.1
  obtain ⟨br, -, b1, b2, -⟩ := id h.2.2.2.2.2.1
  obtain ⟨-, x1, x2⟩ := id h.2.2.2.2.2.2.2.1
  obtain ⟨-, -, c1, c2, -⟩ := id h.2.2.2.2.2.2.2.2
  have z0 : (0 : Int32).toNatClampNeg = 0 := rfl
  have hb : b < 2 := gr.1.1
  have e13 : R 0 13 = qi b := gr.1.2.1
  have r2 : R 2 b = qi U.1 := gr.1.2.2.1
  have r3 : R 3 b = qi U.2.1 := gr.1.2.2.2.1
  have v0 : V u 0 = qi U.1 := g1.1.1
  have v1 : V u 1 = qi U.2.1 := g1.1.2.1
  have s1 : f_X10_sumOf N G 7 V L = some (smF A.2.1 36) := c_sum hx.2.1.2.1 gs.2.1
  have s2 : f_X10_sumOf N G 8 V L = some (smF A.2.2.1 36) := c_sum hx.2.1.2.2.1 gs.2.2.1
  have s3 : f_X10_sumOf N G 9 V L = some (smF A.2.2.2.1 36) := c_sum hx.2.1.2.2.2.1 gs.2.2.2.1
  have t1 := r_sum89 (R := R) (M := M) (f := A.2.1) (fun k hk => by have := gt.2.1 k hk; rw [Nat.mul_zero, Nat.zero_add] at this; exact this)
  have t2 := r_sum121 (R := R) (M := M) (f := A.2.2.1) (fun k hk => by have := gt.2.2.1 k hk; rw [Nat.mul_zero, Nat.zero_add] at this; exact this)
  have t3 := r_sum146 (R := R) (M := M) (f := A.2.2.2.1) (fun k hk => by have := gt.2.2.2.1 k hk; rw [Nat.mul_zero, Nat.zero_add] at this; exact this)
  have e60 : V 6 0 = qi A.1 := gs.1.1
  have e64 : V 6 4 = qi A.2.2.2.2.1 := gs.1.2.1
  have e67 : V 6 7 = qi A.2.2.2.2.2.2.2.1 := gs.1.2.2
  have f20 : R 20 0 = qi A.1 := gt.1.1
  have f24 : R 24 0 = qi A.2.2.2.2.1 := gt.1.2.1
  have f26 : R 26 0 = qi A.2.2.2.2.2.2.2.1 := gt.1.2.2
  have ib : inB (qi b) 2 := (q_in (by omega)).mpr hb
  have nb : (qi b).toNatClampNeg = b := q_nn (by omega)
  have i2 : (if inB (R 0 13) 2 then some (R 2 (R 0 13).toNatClampNeg, R, M) else none) = some (qi U.1, R, M) := by rw [e13, if_pos ib, nb, r2]
  have i3 : (if inB (R 0 13) 2 then some (R 3 (R 0 13).toNatClampNeg, R, M) else none) = some (qi U.2.1, R, M) := by rw [e13, if_pos ib, nb, r3]
  unfold f_X10_has g_X10_has f_has
  rw [i2, i3]
  rw [g2, hx.1.2.1, hx.1.2.2.2.2.1]
  simp only [o_bind]
  rw [hx.2.1.1.1, hx.2.1.1.2.1, hx.2.1.1.2.2.1]
  simp only [o_bind, s1, s2, s3, t1, t2, t3, z0, v0, v1, e60, e64, e67, f20, f24, f26, b1, b2, c1, c2, x1, x2, Q_32]
  refine zX_ite2 (fun _ => ?_) (fun _ => ?_)
  · refine zX_some ?_
    exact ⟨rfl, hp⟩
  refine zX_ite2 (fun _ => zX_some ⟨rfl, hp⟩) (fun _ => ?_)
  refine zX_ite2 (fun _ => zX_some ⟨rfl, hp⟩) (fun _ => ?_)
  refine zX_ite2 (fun _ => zX_some ⟨rfl, hp⟩) (fun _ => ?_)
  refine zX_ite2 (fun _ => zX_some ⟨rfl, hp⟩) (fun _ => ?_)
  refine zX_ite2 (fun _ => zX_some ⟨rfl, hp⟩) (fun _ => ?_)
  refine zX_ite2 (fun _ => zX_some ⟨rfl, hp⟩) (fun _ => ?_)
  refine zX_ite2 (fun _ => zX_some ⟨rfl, hp⟩) (fun _ => ?_)
  refine zX_ite2 (fun _ => zX_some ⟨rfl, hp⟩) (fun _ => ?_)
  refine zX_ite2 (fun _ => zX_some ⟨rfl, hp⟩) (fun _ => ?_)
  exact zX_ite2 (fun _ => zX_some ⟨rfl, hp⟩) (fun _ => zX_some ⟨rfl, hp⟩)
/-! letters of names -/
theorem nmC_b : ∀ l : List Nat, (∀ a ∈ l, 1 ≤ a ∧ a ≤ 26) → nmC l < 32 ^ l.length := by
  intro l
  induction l with
  | nil => intro _; decide
  | cons a l ih =>
    intro h
    have h1 := ih (fun c hc => h c (List.mem_cons_of_mem _ hc))
    have h2 := h a (List.mem_cons_self ..)
    show a + 32 * nmC l < 32 ^ (l.length + 1)
    rw [Nat.pow_succ]
    omega
theorem nmC_at : ∀ (l : List Nat) (k : Nat), (∀ a ∈ l, 1 ≤ a ∧ a ≤ 26) → nmC l / 32 ^ k % 32 = l.getD k 0 := by
  intro l
  induction l with
  | nil => intro k _; show 0 / _ % 32 = _; simp
  | cons a l ih =>
    intro k h
    have h2 := h a (List.mem_cons_self ..)
    match k with
    | 0 =>
      show (a + 32 * nmC l) / 1 % 32 = a
      omega
    | k + 1 =>
      have h1 := ih k (fun c hc => h c (List.mem_cons_of_mem _ hc))
      show (a + 32 * nmC l) / 32 ^ (k + 1) % 32 = l.getD k 0
      rw [← h1, Nat.pow_succ, Nat.mul_comm (32 ^ k) 32, ← Nat.div_div_eq_div_mul]
      congr 2
      omega
theorem nmR_app {l : List Nat} {a : Nat} : nmR (l ++ [a]) = nmR l * 256 + (a + 96) := by
  unfold nmR
  rw [List.foldl_append]
  rfl
theorem nmR_snoc : ∀ (m : Nat) (l : List Nat), l.length = m → (∀ a ∈ l, 1 ≤ a ∧ a ≤ 26) → nmR l < 256 ^ m ∧ (∀ k, k < m → nmR l / 256 ^ (m - 1 - k) % 256 = l.getD k 0 + 96) ∧ ∀ k, k < m → 0 < nmR l / 256 ^ k := by
  intro m
  induction m with
  | zero =>
    intro l hl _
    have : l = [] := List.eq_nil_of_length_eq_zero hl
    subst this
    exact ⟨by decide, fun k h => absurd h (by omega), fun k h => absurd h (by omega)⟩
  | succ m ih =>
    intro l hl h
    have hne : l ≠ [] := fun e => by rw [e] at hl; cases hl
    obtain ⟨l', a, rfl⟩ : ∃ l' a, l = l' ++ [a] := ⟨l.dropLast, l.getLast hne, (List.dropLast_concat_getLast hne).symm⟩
    have hl' : l'.length = m := by simpa using hl
    obtain ⟨i1, i2, i3⟩ := ih l' hl' (fun c hc => h c (List.mem_append_left _ hc))
    have ha := h a (by simp)
    rw [nmR_app]
    generalize nmR l' = z at *
    refine ⟨by rw [Nat.pow_succ]; omega, fun k hk => ?_, fun k hk => ?_⟩
    · by_cases hkm : k = m
      · subst hkm
        have e : (l' ++ [a]).getD k 0 = a := by
          rw [← hl']
          simp
        rw [e, show k + 1 - 1 - k = 0 by omega]
        omega
      · have e : (l' ++ [a]).getD k 0 = l'.getD k 0 := by
          have hk2 : k < l'.length := by omega
          simp only [List.getD_eq_getElem?_getD]
          rw [List.getElem?_append_left hk2]
        have hi2 := i2 k (by omega)
        rw [e, ← hi2, show m + 1 - 1 - k = (m - 1 - k) + 1 by omega, Nat.pow_succ, Nat.mul_comm (256 ^ _) 256, ← Nat.div_div_eq_div_mul]
        congr 2
        omega
    · match k with
      | 0 => simp only [Nat.pow_zero, Nat.div_one]; omega
      | k + 1 =>
        have := i3 k (by omega)
        rw [Nat.pow_succ, Nat.mul_comm (256 ^ _) 256, ← Nat.div_div_eq_div_mul, show (z * 256 + (a + 96)) / 256 = z by omega]
        exact this
theorem Q_cmp0 {a : Nat} (ha : a < 9223372036854775808) : (lg_cmp (qI a) 0 ≤ qi 0) ↔ a = 0 := by
  show (lg_cmp (qI a) 0 ≤ 0) ↔ _
  rw [lg_cmp_le, Q_z, qZ_lit, qZ_le (by omega) (by omega) (by omega) (by omega)]
  show (a : Int) ≤ 0 ↔ _
  omega
theorem r_letL {k m w : Nat} (hm : m ≤ 6) (hk : k < 6) (hw : w < 256 ^ m) (hp : ∀ i, i < m → 0 < w / 256 ^ i) : zfix b_letter_40 FU (qi k, qI w, 0, qI w, R, M) = some (if k < m then qi (w / 256 ^ (m - 1 - k) % 256) - qi 97 + qi 1 else qi 0, R, M) := by
  have h48 : 256 ^ m ≤ 256 ^ 6 := Nat.pow_le_pow_right (by decide) hm
  have hw48 : w < 281474976710656 := Nat.lt_of_lt_of_le hw h48
  apply zW_of
  refine zW_lp (I := fun r q => ∃ i : Nat, i ≤ m ∧ r = m - i ∧ q = (qi k, qI w, qi i, qI (w / 256 ^ i), R, M)) ?_ FU m _ ⟨0, by omega, by omega, by simp; rfl⟩ (FU_big (by omega))
  rintro kk r q ⟨i, hi, rfl, rfl⟩ ih
  have hdl : w / 256 ^ i ≤ w := Nat.div_le_self _ _
  by_cases hend : i = m
  · subst hend
    have hz : w / 256 ^ i = 0 := Nat.div_eq_of_lt hw
    have hc := (Q_cmp0 (a := w / 256 ^ i) (by omega)).mpr hz
    by_cases hki : k < i
    · have e8 : 8 * (i - 1 - k) < 64 := by omega
      have ep : 2 ^ (8 * (i - 1 - k)) = 256 ^ (i - 1 - k) := by rw [Nat.pow_mul]
      have hd2 : w / 256 ^ (i - 1 - k) ≤ w := Nat.div_le_self _ _
      have ea : qI (w / 256 ^ (i - 1 - k)) &&& 255 = qI (w / 256 ^ (i - 1 - k) % 256) := by
        show _ &&& qI 255 = _
        rw [Q_and (by omega) (by omega), show (255 : Nat) = 2 ^ 8 - 1 from rfl, Nat.and_two_pow_sub_one_eq_mod]
      simp (disch := omega) only [b_letter_40, hc, hki, Q_shr, ep, ea, Q_32, ↓reduceIte, o_bind, and_true, true_and, and_false, false_and, or_true, true_or, or_false, false_or, not_true, not_false_eq_true, not_false_iff, ne_eq, Nat.reduceAdd, Nat.reduceMul, Nat.reduceSub, Nat.reduceDiv, Nat.reduceMod, Nat.reduceLT, Nat.reduceLeDiff, Nat.reduceEqDiff, Nat.not_lt, Nat.not_le, q_lit, ↓q_m1, q_om, q_on, q_add, q_mul, q_sub, q_div, q_md, q_ltT, q_ltF, q_leT, q_leF, q_eqT, q_eqF, q_inT, q_inF, q_nn, q_mlt, q_ltm, q_mle, q_lem, q_nem, q_mne]
      exact zW_some rfl
    · simp (disch := omega) only [b_letter_40, hc, hki, ↓reduceIte, o_bind, and_true, true_and, and_false, false_and, or_true, true_or, or_false, false_or, not_true, not_false_eq_true, not_false_iff, ne_eq, Nat.reduceAdd, Nat.reduceMul, Nat.reduceSub, Nat.reduceDiv, Nat.reduceMod, Nat.reduceLT, Nat.reduceLeDiff, Nat.reduceEqDiff, Nat.not_lt, Nat.not_le, q_lit, ↓q_m1, q_om, q_on, q_add, q_mul, q_sub, q_div, q_md, q_ltT, q_ltF, q_leT, q_leF, q_eqT, q_eqF, q_inT, q_inF, q_nn, q_mlt, q_ltm, q_mle, q_lem, q_nem, q_mne]
      exact zW_some rfl
  · have hpos := hp i (by omega)
    have hc : ¬ lg_cmp (qI (w / 256 ^ i)) 0 ≤ qi 0 := fun e => by
      have := (Q_cmp0 (a := w / 256 ^ i) (by omega)).mp e
      omega
    have e8 : qI (w / 256 ^ i) >>> ((qi 8).toInt64 &&& 63) = qI (w / 256 ^ (i + 1)) := by
      rw [Q_shr (by omega) (by omega), Nat.div_div_eq_div_mul, show (2 : Nat) ^ 8 = 256 from rfl, ← Nat.pow_succ]
    simp (disch := omega) only [b_letter_40, hc, e8, ↓reduceIte, o_bind, and_true, true_and, and_false, false_and, or_true, true_or, or_false, false_or, not_true, not_false_eq_true, not_false_iff, ne_eq, Nat.reduceAdd, Nat.reduceMul, Nat.reduceSub, Nat.reduceDiv, Nat.reduceMod, Nat.reduceLT, Nat.reduceLeDiff, Nat.reduceEqDiff, Nat.not_lt, Nat.not_le, q_lit, ↓q_m1, q_om, q_on, q_add, q_mul, q_sub, q_div, q_md, q_ltT, q_ltF, q_leT, q_leF, q_eqT, q_eqF, q_inT, q_inF, q_nn, q_mlt, q_ltm, q_mle, q_lem, q_nem, q_mne]
    exact ih (m - (i + 1)) _ (by omega) ⟨i + 1, by omega, rfl, rfl⟩
theorem m_letter {a1 a2 : Int32} (h : JP n K N G V R M) : zX (f_X10_letter N G 0 a1 a2 V L) (f_letter a1 a2 R M) (fun r r' => r = r'.1 ∧ JP n K N G V r'.2.1 r'.2.2) := by
  obtain ⟨u, b, f0, cnt, acts, x, pl, U, A, hi, h⟩ := h
  have hp : JP n K N G V R M := ⟨u, b, f0, cnt, acts, x, pl, U, A, hi, h⟩
  obtain ⟨⟨hn, -, hx, g2, hu, -⟩, -⟩ := id h.1
  obtain ⟨⟨g1, gs, gr, gt⟩, ⟨hU, hA⟩, -⟩ := id h.2.1
  have htw := UB_tw hU
  have n1 : N (u + 1) = 6 := hu.2.2.1
  have hb : b < 2 := gr.1.1
  have e13 : R 0 13 = qi b := gr.1.2.1
  unfold f_X10_letter g_X10_letter f_letter f_is
  rw [g2]
  simp only [o_bind]
  rw [hu.2.1.1]
  simp only [o_bind]
  rcases x_isTown (L := L) g1 gr hU a1 with ⟨e1, e2⟩ | ⟨a, rfl, ha, e1, e2⟩
  · simp (disch := omega) only [e1, e2, ↓reduceIte, o_bind, and_true, true_and, and_false, false_and, or_true, true_or, or_false, false_or, not_true, not_false_eq_true, not_false_iff, ne_eq, Nat.reduceAdd, Nat.reduceMul, Nat.reduceSub, Nat.reduceDiv, Nat.reduceMod, Nat.reduceLT, Nat.reduceLeDiff, Nat.reduceEqDiff, Nat.not_lt, Nat.not_le, Nat.add_zero, Nat.zero_add, Nat.mul_zero, Nat.zero_mul, q_lit, ↓q_m1, q_om, q_on, q_add, q_mul, q_sub, q_div, q_md, q_ltT, q_ltF, q_leT, q_leF, q_eqT, q_eqF, q_inT, q_inF, q_nn, q_mlt, q_ltm, q_mle, q_lem, q_nem, q_mne]
    exact zX_some ⟨rfl, hp⟩
  rcases q_cases a2 with h3 | ⟨k, hk, rfl⟩
  · simp (disch := omega) only [e1, e2, h3, ↓reduceIte, o_bind, and_true, true_and, and_false, false_and, or_true, true_or, or_false, false_or, not_true, not_false_eq_true, not_false_iff, ne_eq, Nat.reduceAdd, Nat.reduceMul, Nat.reduceSub, Nat.reduceDiv, Nat.reduceMod, Nat.reduceLT, Nat.reduceLeDiff, Nat.reduceEqDiff, Nat.not_lt, Nat.not_le, Nat.add_zero, Nat.zero_add, Nat.mul_zero, Nat.zero_mul, q_lit, ↓q_m1, q_om, q_on, q_add, q_mul, q_sub, q_div, q_md, q_ltT, q_ltF, q_leT, q_leF, q_eqT, q_eqF, q_inT, q_inF, q_nn, q_mlt, q_ltm, q_mle, q_lem, q_nem, q_mne]
    exact zX_some ⟨rfl, hp⟩
  by_cases hk6 : k < 6
  · have v1 : V (u + 1) a = qi (nmC (U.2.2.2.2.2.2 a)) := g1.2.2.1.1 a ha
    have l12 : M 12 (6 * b + a) = qI (nmR (U.2.2.2.2.2.2 a)) := by rw [Q_z]; exact gr.2.2.1 a ha
    obtain ⟨⟨hl1, hl6⟩, hab⟩ := hU.2.2.2 a ha
    have hc1 := nmC_b _ hab
    have hc2 := nmC_at _ k hab
    obtain ⟨r1, r2, r3⟩ := nmR_snoc _ _ rfl hab
    have h30 : 32 ^ (U.2.2.2.2.2.2 a).length ≤ 32 ^ 6 := Nat.pow_le_pow_right (by decide) hl6
    have hL := r_letL (R := R) (M := M) hl6 hk6 r1 r3
    rw [show (0 : Int32) = qi 0 from rfl] at hL
    have hc3 : nmC (U.2.2.2.2.2.2 a) < 1073741824 := Nat.lt_of_lt_of_le hc1 h30
    have hd : nmC (U.2.2.2.2.2.2 a) / 2 ^ (k * 5) ≤ nmC (U.2.2.2.2.2.2 a) := Nat.div_le_self _ _
    have e5 : 2 ^ (k * 5) = 32 ^ k := by rw [Nat.mul_comm, Nat.pow_mul]
    have ec : (qi (nmC (U.2.2.2.2.2.2 a)) >>> ((qi k * qi 5) &&& 31)) &&& 31 = qi ((U.2.2.2.2.2.2 a).getD k 0) := by
      rw [q_mul, q_shr (by omega) (by omega)]
      show _ &&& qi 31 = _
      rw [q_and (by omega) (by omega), show (31 : Nat) = 2 ^ 5 - 1 from rfl, Nat.and_two_pow_sub_one_eq_mod, e5, ← hc2]
    have ec' : (qi (nmC (U.2.2.2.2.2.2 a)) >>> ((qi k * qi 5) &&& qi 31)) &&& qi 31 = qi ((U.2.2.2.2.2.2 a).getD k 0) := ec
    have eans : (if k < (U.2.2.2.2.2.2 a).length then qi (nmR (U.2.2.2.2.2.2 a) / 256 ^ ((U.2.2.2.2.2.2 a).length - 1 - k) % 256) - qi 97 + qi 1 else qi 0) = qi ((U.2.2.2.2.2.2 a).getD k 0) := by
      by_cases hkl : k < (U.2.2.2.2.2.2 a).length
      · have hg : 1 ≤ (U.2.2.2.2.2.2 a).getD k 0 := by
          have hm : (U.2.2.2.2.2.2 a).getD k 0 ∈ U.2.2.2.2.2.2 a := by
            rw [List.getD_eq_getElem?_getD, List.getElem?_eq_getElem hkl]
            exact List.getElem_mem hkl
          exact (hab _ hm).1
        rw [if_pos hkl, r2 k hkl, q_sub (a := (U.2.2.2.2.2.2 a).getD k 0 + 96) (b := 97) (by omega), q_add]
        congr 1
        omega
      · rw [if_neg hkl, List.getD_eq_getElem?_getD, List.getElem?_eq_none (by omega)]
        rfl
    rw [eans] at hL
    simp (disch := omega) only [e1, e2, n1, v1, e13, l12, f_X8_letterOf, g_X8_letterOf, ↓reduceIte, o_bind, and_true, true_and, and_false, false_and, or_true, true_or, or_false, false_or, not_true, not_false_eq_true, not_false_iff, ne_eq, Nat.reduceAdd, Nat.reduceMul, Nat.reduceSub, Nat.reduceDiv, Nat.reduceMod, Nat.reduceLT, Nat.reduceLeDiff, Nat.reduceEqDiff, Nat.not_lt, Nat.not_le, q_lit, q_ltT, q_ltF, q_leT, q_leF, q_eqF, q_inT, q_nn]
    simp (disch := omega) only [q_mul, q_add, q_inT, q_nn, l12, ↓reduceIte]
    rw [hL]
    exact zX_some ⟨by rw [← q_mul]; exact ec', hp⟩
  · simp (disch := omega) only [e1, e2, ↓reduceIte, o_bind, and_true, true_and, and_false, false_and, or_true, true_or, or_false, false_or, not_true, not_false_eq_true, not_false_iff, ne_eq, Nat.reduceAdd, Nat.reduceMul, Nat.reduceSub, Nat.reduceDiv, Nat.reduceMod, Nat.reduceLT, Nat.reduceLeDiff, Nat.reduceEqDiff, Nat.not_lt, Nat.not_le, Nat.add_zero, Nat.zero_add, Nat.mul_zero, Nat.zero_mul, q_lit, ↓q_m1, q_om, q_on, q_add, q_mul, q_sub, q_div, q_md, q_ltT, q_ltF, q_leT, q_leF, q_eqT, q_eqF, q_inT, q_inF, q_nn, q_mlt, q_ltm, q_mle, q_lem, q_nem, q_mne]
    exact zX_some ⟨rfl, hp⟩
end
