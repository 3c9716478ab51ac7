section
variable {n : Nat} {K N : Nat → Nat} {G : zG} {V R : zI} {L M : zL} {u b f0 cnt acts x : Nat} {pl : Nat → Nat} {U : aU} {A : aS} {hi : Nat → aS}
def JQ (S : zS) (R : zI) (M : zL) : Prop := (S.2.1 ≤ 100 ∧ S.2.2.1 ≤ 14000) ∧ JP S.1 S.2.2.2.1 S.2.2.2.2.1 S.2.2.2.2.2.1 S.2.2.2.2.2.2.1 R M
theorem JQ_mk {c q : Nat} (hc : c ≤ 100) (hq : q ≤ 14000) (h : JP n K N G V R M) : JQ (n, c, q, K, N, G, V, L) R M := ⟨⟨hc, hq⟩, h⟩
theorem JJ_acts {a' : Nat} (ha : a' ≤ acts) (h : JJ n K N G V R M u b f0 cnt acts x pl U A hi) : JJ n K N G (z_uI V 0 10 (qi a')) (z_uI R 0 48 (qi a')) M u b f0 cnt a' x pl U A hi := by
  obtain ⟨h1, h2, h3, h4, h5, h6, h7, h8, h9⟩ := h
  obtain ⟨c1, c2, c3, c4, c5⟩ := h9
  have h2' : JB N G V R M u b f0 a' pl U A hi := ⟨h2.1, h2.2.1, fun i hi' => h2.2.2 i (by omega)⟩
  refine ⟨h1, JB_fr h1 (by omega) h2' (fun w hw => z_neP (by omega)) (fun w hw => z_neP (by omega)) (z_neK (by omega)) rfl, ?_, ?_, ?_, ?_, ?_, ?_, by omega, c2, z_same, z_same, ?_⟩
  · rw [z_neK (by omega), z_neP (by omega), z_neK (by omega), z_neP (by omega)]; exact h3
  · rw [z_neK (by omega), z_neK (by omega), z_neK (by omega), z_neK (by omega)]; exact h4
  · rw [z_neP (by omega), z_neP (by omega)]; exact h5
  · rw [z_neK (by omega), z_neP (by omega), z_neP (by omega), z_neK (by omega), z_neP (by omega), z_neP (by omega)]; exact h6
  · rw [z_neK (by omega), z_neP (by omega), z_neK (by omega), z_neP (by omega)]; exact h7
  · rw [z_neP (by omega)]; exact h8
  · rw [z_neK (by omega)]; exact c5
theorem m_undo (h : JP n K N G V R M) : zX (f_X10_undo 0 n K N G V L) (f_undo R M) (fun r r' => r.1 = r'.1 ∧ JQ r.2 r'.2.1 r'.2.2) := by
  obtain ⟨u, b, f0, cnt, acts, x, pl, U, A, hi, h⟩ := h
  obtain ⟨⟨a1, a2, a3, a4, a5, a6, a7⟩, b1, b2, b3, b4, b5, b6⟩ := id h.1
  obtain ⟨⟨g1, g2, g3, g4⟩, ⟨hU, hA⟩, g6⟩ := id h.2.1
  obtain ⟨c1, c2, c3, c4, c5⟩ := id h.2.2.2.2.2.2.2.2
  have G5 : G 0 5 = some 6 := a3.1.2.1
  have G9 : G 0 9 = some 23 := a3.1.2.2.2.2.2.1
  have N23 : N 23 = 20 := a3.2.2.2.2.2.1
  unfold f_X10_undo g_X10_undo f_undo
  by_cases h0 : acts = 0
  · rw [h0] at c3 c4
    simp (disch := omega) only [c3, c4, Nat.le_refl, f_X10_undo_30, f_X10_undo_102400031, ↓reduceIte, o_bind, and_true, true_and, and_false, false_and, or_true, true_or, or_false, false_or, not_true, not_false_eq_true, not_false_iff, ne_eq, Nat.reduceAdd, Nat.reduceMul, Nat.reduceSub, Nat.reduceDiv, Nat.reduceMod, Nat.reduceLT, Nat.reduceLeDiff, Nat.reduceEqDiff, Nat.not_lt, Nat.not_le, q_lit, ↓q_m1, q_om, q_on, q_add, q_mul, q_sub, q_div, q_md, q_ltT, q_ltF, q_leT, q_leF, q_eqT, q_eqF, q_inT, q_inF, q_nn, q_mlt, q_ltm, q_mle, q_lem, q_nem, q_mne]
    refine zX_call (x_refuse (k := 4) (by omega) h) ?_
    rintro ⟨y, V1, L1⟩ ⟨y', R1, M1⟩ ⟨p1, p2, p3⟩
    dsimp only at p1 p2 p3 ⊢
    subst p2
    simp (disch := omega) only [q_mlt, ↓reduceIte]
    refine zX_some ?_
    dsimp only
    exact ⟨rfl, JQ_mk (by omega) (by omega) ⟨u, b, f0, cnt, acts, x, pl, U, A, hi, p3⟩⟩
  · have hlt : acts - 1 < acts := by omega
    obtain ⟨e0, k2, k3, k4⟩ := b1 (acts - 1) (by omega)
    obtain ⟨s1, s2, s3⟩ := g6 (acts - 1) hlt
    have h1 := JJ_acts (a' := acts - 1) (by omega) h
    have hS1 : SR (z_uI R 0 48 (qi (acts - 1))) (2 + (f0 + (acts - 1)) % 20) (hi (acts - 1)) := SR_fr s2 (fun w w1 w2 => z_neP (by omega))
    have e47 : z_uI R 0 48 (qi (acts - 1)) 0 47 = qi f0 := by rw [z_neK (by omega)]; exact c5
    simp (disch := omega) only [c3, c4, G9, N23, e0, zopt_s, f_X10_undo_31, G5, f_slot, e47, ↓reduceIte, o_bind, and_true, true_and, and_false, false_and, or_true, true_or, or_false, false_or, not_true, not_false_eq_true, not_false_iff, ne_eq, Nat.reduceAdd, Nat.reduceMul, Nat.reduceSub, Nat.reduceDiv, Nat.reduceMod, Nat.reduceLT, Nat.reduceLeDiff, Nat.reduceEqDiff, Nat.not_lt, Nat.not_le, q_lit, ↓q_m1, q_om, q_on, q_add, q_mul, q_sub, q_div, q_md, q_ltT, q_ltF, q_leT, q_leF, q_eqT, q_eqF, q_inT, q_inF, q_nn, q_mlt, q_ltm, q_mle, q_lem, q_nem, q_mne, z_same]
    refine zX_callL (cs_copy (L := L) a3.2.1 k2 (by omega) s1 (SB_k s3).1 (SB_k s3).2) ?_
    rintro ⟨V1, L1⟩ ⟨p1, p2, p3⟩
    refine zX_callR (r_copies (a := 0) (b := 2 + (f0 + (acts - 1)) % 20) (by omega) (by omega) (by omega) hS1 (SB_k s3).1 (SB_k s3).2) ?_
    rintro ⟨R1, M1⟩ ⟨q1, q2, q3, q4⟩
    dsimp only at p1 p2 p3 q1 q2 q3 q4 ⊢
    have e10 : V1 0 10 = qi acts := by rw [p2 0 (by omega)]; exact c3
    have e1 : qi acts - qi 1 = qi (acts - 1) := q_sub (by omega)
    rw [e10, e1]
    refine zX_some ?_
    dsimp only
    refine ⟨rfl, JQ_mk (by omega) (by omega) ⟨u, b, f0, cnt, acts - 1, x, pl, U, hi (acts - 1), hi, ?_⟩⟩
    rw [q4]
    refine JJ_state h1 (SC_fr p1 (fun w w1 w2 => z_neP (by omega))) q1 s3 (fun w hw => ?_) q2 rfl ?_
    · by_cases w0 : w = 0
      · subst w0; rw [z_place, z_place, p2 0 (by omega)]
      · rw [z_neP w0, z_neP w0]; exact p2 w (by omega)
    · have hs := h.2.2.2.2.2.2.2.1
      rw [z_neP (by omega), p2 22 (by omega)]
      exact hs
theorem c_canP {k d : Nat} (hx : fxS N G) (e : V 6 0 = qi d) (hd : d ≤ 999) (hk : k < 2147483648) : f_X10_canPass N G 0 (qi k) V L = some (if 1 ≤ k ∧ k ≤ 100 ∧ d + k ≤ 999 then qi 1 else qi 0) := by
  unfold f_X10_canPass g_X10_canPass
  rw [hx.1.2.1, o_bind, e]
  by_cases h1 : 1 ≤ k
  · by_cases h2 : k ≤ 100
    · by_cases h3 : d + k ≤ 999
      · simp (disch := omega) only [h1, h2, h3, ↓reduceIte, o_bind, and_true, true_and, and_false, false_and, or_true, true_or, or_false, false_or, not_true, not_false_eq_true, not_false_iff, ne_eq, Nat.reduceAdd, Nat.reduceMul, Nat.reduceSub, Nat.reduceDiv, Nat.reduceMod, Nat.reduceLT, Nat.reduceLeDiff, Nat.reduceEqDiff, Nat.not_lt, Nat.not_le, q_lit, ↓q_m1, q_om, q_on, q_add, q_mul, q_sub, q_div, q_md, q_ltT, q_ltF, q_leT, q_leF, q_eqT, q_eqF, q_inT, q_inF, q_nn, q_mlt, q_ltm, q_mle, q_lem, q_nem, q_mne]
      · simp (disch := omega) only [h1, h2, h3, ↓reduceIte, o_bind, and_true, true_and, and_false, false_and, or_true, true_or, or_false, false_or, not_true, not_false_eq_true, not_false_iff, ne_eq, Nat.reduceAdd, Nat.reduceMul, Nat.reduceSub, Nat.reduceDiv, Nat.reduceMod, Nat.reduceLT, Nat.reduceLeDiff, Nat.reduceEqDiff, Nat.not_lt, Nat.not_le, q_lit, ↓q_m1, q_om, q_on, q_add, q_mul, q_sub, q_div, q_md, q_ltT, q_ltF, q_leT, q_leF, q_eqT, q_eqF, q_inT, q_inF, q_nn, q_mlt, q_ltm, q_mle, q_lem, q_nem, q_mne]
    · simp (disch := omega) only [h1, h2, ↓reduceIte, o_bind, and_true, true_and, and_false, false_and, or_true, true_or, or_false, false_or, not_true, not_false_eq_true, not_false_iff, ne_eq, Nat.reduceAdd, Nat.reduceMul, Nat.reduceSub, Nat.reduceDiv, Nat.reduceMod, Nat.reduceLT, Nat.reduceLeDiff, Nat.reduceEqDiff, Nat.not_lt, Nat.not_le, q_lit, ↓q_m1, q_om, q_on, q_add, q_mul, q_sub, q_div, q_md, q_ltT, q_ltF, q_leT, q_leF, q_eqT, q_eqF, q_inT, q_inF, q_nn, q_mlt, q_ltm, q_mle, q_lem, q_nem, q_mne]
  · simp (disch := omega) only [h1, ↓reduceIte, o_bind, and_true, true_and, and_false, false_and, or_true, true_or, or_false, false_or, not_true, not_false_eq_true, not_false_iff, ne_eq, Nat.reduceAdd, Nat.reduceMul, Nat.reduceSub, Nat.reduceDiv, Nat.reduceMod, Nat.reduceLT, Nat.reduceLeDiff, Nat.reduceEqDiff, Nat.not_lt, Nat.not_le, q_lit, ↓q_m1, q_om, q_on, q_add, q_mul, q_sub, q_div, q_md, q_ltT, q_ltF, q_leT, q_leF, q_eqT, q_eqF, q_inT, q_inF, q_nn, q_mlt, q_ltm, q_mle, q_lem, q_nem, q_mne]
theorem c_canN {y : Int32} (hx : fxS N G) (hy : y < qi 0) : f_X10_canPass N G 0 y V L = some (qi 0) := by
  have h := q_nlt hy (n := 1) (by omega)
  unfold f_X10_canPass g_X10_canPass
  rw [hx.1.2.1, o_bind]
  simp only [h, ↓reduceIte, o_bind, and_true, true_and, and_false, false_and, or_true, true_or, or_false, false_or, not_true, not_false_eq_true, not_false_iff, ne_eq, Nat.reduceAdd, Nat.reduceMul, Nat.reduceSub, Nat.reduceDiv, Nat.reduceMod, Nat.reduceLT, Nat.reduceLeDiff, Nat.reduceEqDiff, Nat.not_lt, Nat.not_le, q_lit, ↓q_m1, q_om, q_on, q_add, q_mul, q_sub, q_div, q_md, q_ltT, q_ltF, q_leT, q_leF, q_eqT, q_eqF, q_inT, q_inF, q_nn, q_mlt, q_ltm, q_mle, q_lem, q_nem, q_mne]
theorem x_ref2 (h : JJ n K N G V R M u b f0 cnt acts x pl U A hi) : zX ((f_X10_refuse N G 0 (qi 2) V L).bind fun r3 => some (r3.1, n, 0, 0, K, N, G, r3.2.1, r3.2.2)) ((f_refuses (qi 2) R M).bind fun r3 => some (r3.1, r3.2.1, r3.2.2)) (fun (r : Int32 × zS) r' => r.1 = r'.1 ∧ JQ r.2 r'.2.1 r'.2.2) := by
  refine zX_call (x_refuse (k := 2) (by omega) h) ?_
  rintro ⟨y, V1, L1⟩ ⟨y', R1, M1⟩ ⟨p1, p2, p3⟩
  refine zX_some ?_
  dsimp only at p1 p2 p3 ⊢
  exact ⟨p1.trans p2.symm, JQ_mk (by omega) (by omega) ⟨u, b, f0, cnt, acts, x, pl, U, A, hi, p3⟩⟩
theorem m_days {a1 : Int32} (h : JP n K N G V R M) : zX (f_X10_days 0 a1 n K N G V L) (f_days a1 R M) (fun r r' => r.1 = r'.1 ∧ JQ r.2 r'.2.1 r'.2.2) := by
  obtain ⟨u, b, f0, cnt, acts, x, pl, U, A, hi, h⟩ := h
  obtain ⟨⟨a1', a2, hx, a4, a5, a6, a7⟩, -⟩ := id h.1
  obtain ⟨⟨g1, g2, g3, g4⟩, ⟨hU, hA⟩, -⟩ := id h.2.1
  have hd : A.1 ≤ 999 := hA.1.1
  have e60 : V 6 0 = qi A.1 := g2.1.1
  have r20 : R 20 0 = qi A.1 := g4.1.1
  unfold f_X10_days g_X10_days f_days
  rcases q_cases a1 with hn | ⟨k, hk, rfl⟩
  · simp (disch := omega) only [c_canN hx hn, q_lit, r_isAhn hn, ↓reduceIte, o_bind, and_true, true_and, and_false, false_and, or_true, true_or, or_false, false_or, not_true, not_false_eq_true, not_false_iff, ne_eq, Nat.reduceAdd, Nat.reduceMul, Nat.reduceSub, Nat.reduceDiv, Nat.reduceMod, Nat.reduceLT, Nat.reduceLeDiff, Nat.reduceEqDiff, Nat.not_lt, Nat.not_le, q_lit, ↓q_m1, q_om, q_on, q_add, q_mul, q_sub, q_div, q_md, q_ltT, q_ltF, q_leT, q_leF, q_eqT, q_eqF, q_inT, q_inF, q_nn, q_mlt, q_ltm, q_mle, q_lem, q_nem, q_mne]
    exact x_ref2 h
  by_cases hc : 1 ≤ k ∧ k ≤ 100 ∧ A.1 + k ≤ 999
  · simp (disch := omega) only [c_canP hx e60 hd, q_lit, r_isAh r20 hd, hc, and_self, ↓reduceIte, o_bind, and_true, true_and, and_false, false_and, or_true, true_or, or_false, false_or, not_true, not_false_eq_true, not_false_iff, ne_eq, Nat.reduceAdd, Nat.reduceMul, Nat.reduceSub, Nat.reduceDiv, Nat.reduceMod, Nat.reduceLT, Nat.reduceLeDiff, Nat.reduceEqDiff, Nat.not_lt, Nat.not_le, q_lit, ↓q_m1, q_om, q_on, q_add, q_mul, q_sub, q_div, q_md, q_ltT, q_ltF, q_leT, q_leF, q_eqT, q_eqF, q_inT, q_inF, q_nn, q_mlt, q_ltm, q_mle, q_lem, q_nem, q_mne]
    refine zX_call (x_remember h) ?_
    rintro ⟨n1, cc, qq, K1, N1, G1, V1, L1⟩ ⟨R1, M1⟩ ⟨⟨hcc, hqq⟩, f1, cnt1, acts1, pl1, hi1, h1⟩
    dsimp only at hcc hqq h1 ⊢
    unfold f_X10_days_18
    refine zX_lp (I := fun r s s' => ∃ (i : Nat) (sm : Int32) (V2 : zI) (L2 : zL) (R2 : zI) (M2 : zL) (x2 : Nat) (A2 : aS), i ≤ k ∧ r = k - i ∧ s = (0, qi k, sm, qi i, n1, 0 + cc, 0 + qq, K1, N1, G1, V2, L2) ∧ s' = (qi k, sm, qi i, R2, M2) ∧ A2.1 + (k - i) ≤ 999 ∧ JJ n1 K1 N1 G1 V2 R2 M2 u b f1 cnt1 acts1 x2 pl1 U A2 hi1) ?_ FU FU k _ _ ⟨0, 0, V1, L1, R1, M1, x, A, by omega, by omega, rfl, rfl, by omega, h1⟩ (FU_big (by omega)) (FU_big (by omega))
    rintro kk kk' r s s' ⟨i, sm, V2, L2, R2, M2, x2, A2, hik, rfl, rfl, rfl, hd2, h2⟩ ih
    obtain ⟨⟨-, -, hx2, u2, hu2, -⟩, -⟩ := id h2.1
    obtain ⟨⟨k1, k2, k3, k4⟩, ⟨-, hA2⟩, -⟩ := id h2.2.1
    obtain ⟨hxb, x22, x49⟩ := id h2.2.2.2.2.2.2.2.1
    have G5 : G1 0 5 = some 6 := hx2.1.2.1
    have G7 : G1 0 7 = some 20 := hx2.1.2.2.2.1
    have G8 : G1 0 8 = some 22 := hx2.1.2.2.2.2.1
    by_cases hend : i = k
    · subst hend
      simp (disch := omega) only [b_X10_days_22, b_days_25, Nat.le_refl, ↓reduceIte, o_bind, and_true, true_and, and_false, false_and, or_true, true_or, or_false, false_or, not_true, not_false_eq_true, not_false_iff, ne_eq, Nat.reduceAdd, Nat.reduceMul, Nat.reduceSub, Nat.reduceDiv, Nat.reduceMod, Nat.reduceLT, Nat.reduceLeDiff, Nat.reduceEqDiff, Nat.not_lt, Nat.not_le, q_lit, ↓q_m1, q_om, q_on, q_add, q_mul, q_sub, q_div, q_md, q_ltT, q_ltF, q_leT, q_leF, q_eqT, q_eqF, q_inT, q_inF, q_nn, q_mlt, q_ltm, q_mle, q_lem, q_nem, q_mne]
      refine zX_some ?_
      dsimp only
      exact ⟨rfl, JQ_mk (by omega) (by omega) ⟨u, b, f1, cnt1, acts1, x2, pl1, U, A2, hi1, h2⟩⟩
    · have e1 : (if A2.1 + 1 < 999 then A2.1 + 1 else 999) = A2.1 + 1 := by split <;> omega
      simp (disch := omega) only [b_X10_days_22, b_days_25, G5, G7, G8, u2, ↓reduceIte, o_bind, and_true, true_and, and_false, false_and, or_true, true_or, or_false, false_or, not_true, not_false_eq_true, not_false_iff, ne_eq, Nat.reduceAdd, Nat.reduceMul, Nat.reduceSub, Nat.reduceDiv, Nat.reduceMod, Nat.reduceLT, Nat.reduceLeDiff, Nat.reduceEqDiff, Nat.not_lt, Nat.not_le, q_lit, ↓q_m1, q_om, q_on, q_add, q_mul, q_sub, q_div, q_md, q_ltT, q_ltF, q_leT, q_leF, q_eqT, q_eqF, q_inT, q_inF, q_nn, q_mlt, q_ltm, q_mle, q_lem, q_nem, q_mne]
      refine zX_callL (c_pass_n (L := L2) (x := x2) hx2 hu2 hx2.2.1 (by omega) k1 k2 hU hA2 hxb) ?_
      rintro ⟨V3, L3⟩ ⟨q1, q2, q3, -, q5, -, q7⟩
      refine zX_callR (r_passes (v := 0) (dr := false) (by omega) k3 k4 hU hA2 x49 hxb) ?_
      rintro ⟨R3, M3⟩ ⟨t1, t2, t3, -, t5, t6, t7⟩
      dsimp only at q1 q2 q3 q5 q7 t1 t2 t3 t5 t6 t7 ⊢
      rw [e1] at q1
      rw [q2, t2]
      refine ih (k - (i + 1)) _ _ (by omega) ⟨i + 1, _, V3, L3, R3, M3, x2, _, by omega, rfl, rfl, rfl, ?_, JJ_state h2 q1 t1 (dayW_SB hU hA2 hxb (by omega)) (fun w hw => q5 w (by omega) (by omega) (by omega)) t6 (t7 12 (by omega) (by omega)) ⟨hxb, by rw [q7]; exact x22, by rw [t5, bX_x]⟩⟩
      show A2.1 + 1 + (k - (i + 1)) ≤ 999
      omega
  · simp (disch := omega) only [c_canP hx e60 hd, q_lit, r_isAh r20 hd, hc, ↓reduceIte, o_bind, and_true, true_and, and_false, false_and, or_true, true_or, or_false, false_or, not_true, not_false_eq_true, not_false_iff, ne_eq, Nat.reduceAdd, Nat.reduceMul, Nat.reduceSub, Nat.reduceDiv, Nat.reduceMod, Nat.reduceLT, Nat.reduceLeDiff, Nat.reduceEqDiff, Nat.not_lt, Nat.not_le, q_lit, ↓q_m1, q_om, q_on, q_add, q_mul, q_sub, q_div, q_md, q_ltT, q_ltF, q_leT, q_leF, q_eqT, q_eqF, q_inT, q_inF, q_nn, q_mlt, q_ltm, q_mle, q_lem, q_nem, q_mne]
    exact x_ref2 h
theorem m_chance {a1 : Int32} (h : JP n K N G V R M) : zX (f_X10_chance 0 a1 n K N G V L) (f_chance a1 R M) (fun r r' => r.1 = r'.1 ∧ JQ r.2 r'.2.1 r'.2.2) := by
  obtain ⟨u, b, f0, cnt, acts, x, pl, U, A, hi, h⟩ := h
  obtain ⟨⟨a1', a2, hx, a4, a5, a6, a7⟩, -⟩ := id h.1
  obtain ⟨⟨g1, g2, g3, g4⟩, ⟨hU, hA⟩, -⟩ := id h.2.1
  have hd : A.1 ≤ 999 := hA.1.1
  have e60 : V 6 0 = qi A.1 := g2.1.1
  have r20 : R 20 0 = qi A.1 := g4.1.1
  unfold f_X10_chance g_X10_chance f_chance
  rcases q_cases a1 with hn | ⟨k, hk, rfl⟩
  · simp (disch := omega) only [c_canN hx hn, q_lit, r_isAhn hn, ↓reduceIte, o_bind, and_true, true_and, and_false, false_and, or_true, true_or, or_false, false_or, not_true, not_false_eq_true, not_false_iff, ne_eq, Nat.reduceAdd, Nat.reduceMul, Nat.reduceSub, Nat.reduceDiv, Nat.reduceMod, Nat.reduceLT, Nat.reduceLeDiff, Nat.reduceEqDiff, Nat.not_lt, Nat.not_le, q_lit, ↓q_m1, q_om, q_on, q_add, q_mul, q_sub, q_div, q_md, q_ltT, q_ltF, q_leT, q_leF, q_eqT, q_eqF, q_inT, q_inF, q_nn, q_mlt, q_ltm, q_mle, q_lem, q_nem, q_mne]
    exact x_ref2 h
  by_cases hc : 1 ≤ k ∧ k ≤ 100 ∧ A.1 + k ≤ 999
  · simp (disch := omega) only [c_canP hx e60 hd, q_lit, r_isAh r20 hd, hc, and_self, ↓reduceIte, o_bind, and_true, true_and, and_false, false_and, or_true, true_or, or_false, false_or, not_true, not_false_eq_true, not_false_iff, ne_eq, Nat.reduceAdd, Nat.reduceMul, Nat.reduceSub, Nat.reduceDiv, Nat.reduceMod, Nat.reduceLT, Nat.reduceLeDiff, Nat.reduceEqDiff, Nat.not_lt, Nat.not_le, q_lit, ↓q_m1, q_om, q_on, q_add, q_mul, q_sub, q_div, q_md, q_ltT, q_ltF, q_leT, q_leF, q_eqT, q_eqF, q_inT, q_inF, q_nn, q_mlt, q_ltm, q_mle, q_lem, q_nem, q_mne]
    refine zX_call (x_remember h) ?_
    rintro ⟨n1, cc, qq, K1, N1, G1, V1, L1⟩ ⟨R1, M1⟩ ⟨⟨hcc, hqq⟩, f1, cnt1, acts1, pl1, hi1, h1⟩
    dsimp only at hcc hqq h1 ⊢
    unfold f_X10_chance_18
    refine zX_lp (I := fun r s s' => ∃ (i : Nat) (sm : Int32) (V2 : zI) (L2 : zL) (R2 : zI) (M2 : zL) (x2 : Nat) (A2 : aS), i ≤ k ∧ r = k - i ∧ s = (0, qi k, sm, qi i, n1, 0 + cc, 0 + qq, K1, N1, G1, V2, L2) ∧ s' = (qi k, sm, qi i, R2, M2) ∧ A2.1 + (k - i) ≤ 999 ∧ JJ n1 K1 N1 G1 V2 R2 M2 u b f1 cnt1 acts1 x2 pl1 U A2 hi1) ?_ FU FU k _ _ ⟨0, 0, V1, L1, R1, M1, x, A, by omega, by omega, rfl, rfl, by omega, h1⟩ (FU_big (by omega)) (FU_big (by omega))
    rintro kk kk' r s s' ⟨i, sm, V2, L2, R2, M2, x2, A2, hik, rfl, rfl, rfl, hd2, h2⟩ ih
    obtain ⟨⟨-, -, hx2, u2, hu2, -⟩, -⟩ := id h2.1
    obtain ⟨⟨k1, k2, k3, k4⟩, ⟨-, hA2⟩, -⟩ := id h2.2.1
    obtain ⟨hxb, x22, x49⟩ := id h2.2.2.2.2.2.2.2.1
    have G5 : G1 0 5 = some 6 := hx2.1.2.1
    have G7 : G1 0 7 = some 20 := hx2.1.2.2.2.1
    have G8 : G1 0 8 = some 22 := hx2.1.2.2.2.2.1
    by_cases hend : i = k
    · subst hend
      simp (disch := omega) only [b_X10_chance_22, b_chance_25, Nat.le_refl, ↓reduceIte, o_bind, and_true, true_and, and_false, false_and, or_true, true_or, or_false, false_or, not_true, not_false_eq_true, not_false_iff, ne_eq, Nat.reduceAdd, Nat.reduceMul, Nat.reduceSub, Nat.reduceDiv, Nat.reduceMod, Nat.reduceLT, Nat.reduceLeDiff, Nat.reduceEqDiff, Nat.not_lt, Nat.not_le, q_lit, ↓q_m1, q_om, q_on, q_add, q_mul, q_sub, q_div, q_md, q_ltT, q_ltF, q_leT, q_leF, q_eqT, q_eqF, q_inT, q_inF, q_nn, q_mlt, q_ltm, q_mle, q_lem, q_nem, q_mne]
      refine zX_some ?_
      dsimp only
      exact ⟨rfl, JQ_mk (by omega) (by omega) ⟨u, b, f1, cnt1, acts1, x2, pl1, U, A2, hi1, h2⟩⟩
    · have e1 : (if A2.1 + 1 < 999 then A2.1 + 1 else 999) = A2.1 + 1 := by split <;> omega
      simp (disch := omega) only [b_X10_chance_22, b_chance_25, G5, G7, G8, u2, ↓reduceIte, o_bind, and_true, true_and, and_false, false_and, or_true, true_or, or_false, false_or, not_true, not_false_eq_true, not_false_iff, ne_eq, Nat.reduceAdd, Nat.reduceMul, Nat.reduceSub, Nat.reduceDiv, Nat.reduceMod, Nat.reduceLT, Nat.reduceLeDiff, Nat.reduceEqDiff, Nat.not_lt, Nat.not_le, q_lit, ↓q_m1, q_om, q_on, q_add, q_mul, q_sub, q_div, q_md, q_ltT, q_ltF, q_leT, q_leF, q_eqT, q_eqF, q_inT, q_inF, q_nn, q_mlt, q_ltm, q_mle, q_lem, q_nem, q_mne]
      refine zX_callL (c_pass_s (L := L2) (x := x2) hx2 hu2 hx2.2.1 (by omega) k1 k2 hU hA2 hxb x22) ?_
      rintro ⟨V3, L3⟩ ⟨q1, q2, q3, -, q5, -, q7⟩
      refine zX_callR (r_passes (v := 0) (dr := true) (by omega) k3 k4 hU hA2 x49 hxb) ?_
      rintro ⟨R3, M3⟩ ⟨t1, t2, t3, -, t5, t6, t7⟩
      dsimp only at q1 q2 q3 q5 q7 t1 t2 t3 t5 t6 t7 ⊢
      rw [e1] at q1
      rw [q3, t3]
      refine ih (k - (i + 1)) _ _ (by omega) ⟨i + 1, _, V3, L3, R3, M3, (bX U true A2 x2).2.2.1, _, by omega, rfl, rfl, rfl, ?_, JJ_state h2 q1 t1 (dayW_SB hU hA2 hxb (by omega)) (fun w hw => q5 w (by omega) (by omega) (by omega)) t6 (t7 12 (by omega) (by omega)) ⟨(bX_SB hU hA2 hxb).2.2.1, q7, t5⟩⟩
      show A2.1 + 1 + (k - (i + 1)) ≤ 999
      omega
  · simp (disch := omega) only [c_canP hx e60 hd, q_lit, r_isAh r20 hd, hc, ↓reduceIte, o_bind, and_true, true_and, and_false, false_and, or_true, true_or, or_false, false_or, not_true, not_false_eq_true, not_false_iff, ne_eq, Nat.reduceAdd, Nat.reduceMul, Nat.reduceSub, Nat.reduceDiv, Nat.reduceMod, Nat.reduceLT, Nat.reduceLeDiff, Nat.reduceEqDiff, Nat.not_lt, Nat.not_le, q_lit, ↓q_m1, q_om, q_on, q_add, q_mul, q_sub, q_div, q_md, q_ltT, q_ltF, q_leT, q_leF, q_eqT, q_eqF, q_inT, q_inF, q_nn, q_mlt, q_ltm, q_mle, q_lem, q_nem, q_mne]
    exact x_ref2 h
theorem cs_held {a c : Nat} (hx : fxS N G) (hS : SC V 6 A) (ha : a < 6) (hc : c < 6) : f_X7_heldBy N G 6 (qi a) (qi c) V L = some (qi (A.2.1 (6 * a + c))) := by
  have e : V 7 (6 * a + c) = qi (A.2.1 (6 * a + c)) := hS.2.1 _ (by omega)
  have n7 : N 7 = 36 := hx.2.1.2.1
  have ei : a * 6 + c = 6 * a + c := by omega
  unfold f_X7_heldBy g_X7_heldBy
  rw [hx.2.1.1.1, o_bind]
  simp (disch := omega) only [ei, n7, e, ↓reduceIte, o_bind, and_true, true_and, and_false, false_and, or_true, true_or, or_false, false_or, not_true, not_false_eq_true, not_false_iff, ne_eq, Nat.reduceAdd, Nat.reduceMul, Nat.reduceSub, Nat.reduceDiv, Nat.reduceMod, Nat.reduceLT, Nat.reduceLeDiff, Nat.reduceEqDiff, Nat.not_lt, Nat.not_le, q_lit, ↓q_m1, q_om, q_on, q_add, q_mul, q_sub, q_div, q_md, q_ltT, q_ltF, q_leT, q_leF, q_eqT, q_eqF, q_inT, q_inF, q_nn, q_mlt, q_ltm, q_mle, q_lem, q_nem, q_mne]
def heldS (A : aS) (f : Nat → Nat) : aS := (A.1, f, A.2.2)
theorem JJ_held {p y : Nat} (hp : p < 36) (hy : y ≤ 99) (hv : p / 6 < U.1 ∧ p % 6 < U.1 ∧ p / 6 ≠ p % 6) (h : JJ n K N G V R M u b f0 cnt acts x pl U A hi) : JJ n K N G (z_uI V 7 p (qi y)) (z_uI R 21 p (qi y)) M u b f0 cnt acts x pl U (heldS A (nu A.2.1 p y)) hi := by
  obtain ⟨⟨g1, g2, g3, g4⟩, ⟨hU, hA⟩, -⟩ := id h.2.1
  have hs := h.2.2.2.2.2.2.2.1
  refine JJ_state h ?_ ?_ ?_ (fun w hw => z_neP (by omega)) (RFr_z (by omega)) rfl (by rw [z_neP (by omega)]; exact hs)
  · obtain ⟨day, held, sent, got, m, mp, ml, kn, kc⟩ := A
    obtain ⟨⟨a0, a4, a7⟩, s1, s2, s3, s4, s5, s6⟩ := g2
    refine ⟨⟨?_, ?_, ?_⟩, ?_, ?_, ?_, ?_, ?_, ?_⟩
    · rw [z_neP (by omega)]; exact a0
    · rw [z_neP (by omega)]; exact a4
    · rw [z_neP (by omega)]; exact a7
    · intro k hk
      show z_uI V 7 p (qi y) 7 k = qi (nu held p y k)
      rw [z_if]
      unfold nu
      split
      · rfl
      · exact s1 k hk
    · intro k hk; rw [z_neP (by omega)]; exact s2 k hk
    · intro k hk; rw [z_neP (by omega)]; exact s3 k hk
    · intro k hk; rw [z_neP (by omega)]; exact s4 k hk
    · intro k hk; rw [z_neP (by omega)]; exact s5 k hk
    · intro k hk; rw [z_neP (by omega)]; exact s6 k hk
  · obtain ⟨day, held, sent, got, m, mp, ml, kn, kc⟩ := A
    obtain ⟨⟨a0, a4, a7⟩, s1, s2, s3, s4, s5, s6, s7, s8, s9, s10⟩ := g4
    refine ⟨⟨?_, ?_, ?_⟩, ?_, ?_, ?_, ?_, ?_, ?_, ?_, ?_, ?_, ?_⟩
    · rw [z_neP (by omega)]; exact a0
    · rw [z_neP (by omega)]; exact a4
    · rw [z_neP (by omega)]; exact a7
    · intro k hk
      have h1 := s1 k hk
      rw [Nat.mul_zero, Nat.zero_add] at h1 ⊢
      show z_uI R 21 p (qi y) 21 k = qi (nu held p y k)
      rw [z_if]
      unfold nu
      split
      · rfl
      · exact h1
    · intro k hk; rw [z_neP (by omega)]; exact s2 k hk
    · intro k hk; rw [z_neP (by omega)]; exact s3 k hk
    · intro k hk; rw [z_neP (by omega)]; exact s4 k hk
    · intro k hk; rw [z_neP (by omega)]; exact s5 k hk
    · intro k hk; rw [z_neP (by omega)]; exact s6 k hk
    · intro k hk; rw [z_neP (by omega)]; exact s7 k hk
    · intro k hk; rw [z_neP (by omega)]; exact s8 k hk
    · intro k hk; rw [z_neP (by omega)]; exact s9 k hk
    · intro k hk; rw [z_neP (by omega)]; exact s10 k hk
  · obtain ⟨day, held, sent, got, m, mp, ml, kn, kc⟩ := A
    obtain ⟨tw, ct, way, encl, lost, rul, nam⟩ := U
    obtain ⟨h1, h2, h3, h4, h5⟩ := hA
    refine ⟨h1, fun k hk => ?_, fun k hk hn => ?_, h4, h5⟩
    · refine ⟨?_, (h2 k hk).2⟩
      show nu held p y k ≤ 99
      unfold nu
      split
      · exact hy
      · exact (h2 k hk).1
    · refine ⟨?_, (h3 k hk hn).2⟩
      show nu held p y k = 0
      unfold nu
      split
      · rename_i e; subst e; exact absurd hv hn
      · exact (h3 k hk hn).1
theorem JJ_at {p : Nat} (hp : p < 36) (h : JJ n K N G V R M u b f0 cnt acts x pl U A hi) : V 7 p = qi (A.2.1 p) ∧ R 21 p = qi (A.2.1 p) ∧ A.2.1 p ≤ 99 := by
  obtain ⟨⟨g1, g2, g3, g4⟩, ⟨hU, hA⟩, -⟩ := id h.2.1
  refine ⟨g2.2.1 p hp, ?_, SB_held hA hp⟩
  have := g4.2.1 p hp
  rw [Nat.mul_zero, Nat.zero_add] at this
  exact this
theorem x_ref3 (h : JJ n K N G V R M u b f0 cnt acts x pl U A hi) : zX ((f_X10_refuse N G 0 (qi 3) V L).bind fun r1 => some (qi 0, n, 0, 0, K, N, G, r1.2.1, r1.2.2)) ((f_refuses (qi 3) R M).bind fun r1 => if r1.1 < qi 0 then some (qi 0, r1.2.1, r1.2.2) else some (qi 1, r1.2.1, r1.2.2)) (fun (r : Int32 × zS) r' => r.1 = r'.1 ∧ JQ r.2 r'.2.1 r'.2.2) := by
  refine zX_call (x_refuse (k := 3) (by omega) h) ?_
  rintro ⟨y, V1, L1⟩ ⟨y', R1, M1⟩ ⟨p1, p2, p3⟩
  dsimp only at p1 p2 p3 ⊢
  subst p2
  rw [if_pos (q_mlt (by omega))]
  refine zX_some ?_
  dsimp only
  exact ⟨rfl, JQ_mk (by omega) (by omega) ⟨u, b, f0, cnt, acts, x, pl, U, A, hi, p3⟩⟩
theorem x_ref3' (h : JJ n K N G V R M u b f0 cnt acts x pl U A hi) : zX ((f_X10_refuse N G 0 (qi 3) V L).bind fun r1 => some (r1.1, n, 0, 0, K, N, G, r1.2.1, r1.2.2)) ((f_refuses (qi 3) R M).bind fun r1 => some (r1.1, r1.2.1, r1.2.2)) (fun (r : Int32 × zS) r' => r.1 = r'.1 ∧ JQ r.2 r'.2.1 r'.2.2) := by
  refine zX_call (x_refuse (k := 3) (by omega) h) ?_
  rintro ⟨y, V1, L1⟩ ⟨y', R1, M1⟩ ⟨p1, p2, p3⟩
  refine zX_some ?_
  dsimp only at p1 p2 p3 ⊢
  exact ⟨p1.trans p2.symm, JQ_mk (by omega) (by omega) ⟨u, b, f0, cnt, acts, x, pl, U, A, hi, p3⟩⟩
theorem m_find {a1 a2 : Int32} (h : JP n K N G V R M) : zX (f_X10_find 0 a1 a2 n K N G V L) (f_find a1 a2 R M) (fun r r' => r.1 = r'.1 ∧ JQ r.2 r'.2.1 r'.2.2) := by
  obtain ⟨u, b, f0, cnt, acts, x, pl, U, A, hi, h⟩ := h
  obtain ⟨⟨a1', a2', hx, g2', a5, a6, a7⟩, -⟩ := id h.1
  obtain ⟨⟨g1, g2, g3, g4⟩, ⟨hU, hA⟩, -⟩ := id h.2.1
  have htw := UB_tw hU
  have G5 : G 0 5 = some 6 := hx.1.2.1
  unfold f_X10_find g_X10_find f_find
  rw [g2', G5]
  simp only [o_bind]
  rcases x_isPair (L := L) g1 g3 hU a1 a2 with ⟨e1, e2⟩ | ⟨a, c, rfl, rfl, ha, hc, hac, e1, e2⟩
  · simp (disch := omega) only [e1, e2, f_X10_find_26, f_find_26, ↓reduceIte, o_bind, and_true, true_and, and_false, false_and, or_true, true_or, or_false, false_or, not_true, not_false_eq_true, not_false_iff, ne_eq, Nat.reduceAdd, Nat.reduceMul, Nat.reduceSub, Nat.reduceDiv, Nat.reduceMod, Nat.reduceLT, Nat.reduceLeDiff, Nat.reduceEqDiff, Nat.not_lt, Nat.not_le, q_lit, ↓q_m1, q_om, q_on, q_add, q_mul, q_sub, q_div, q_md, q_ltT, q_ltF, q_leT, q_leF, q_eqT, q_eqF, q_inT, q_inF, q_nn, q_mlt, q_ltm, q_mle, q_lem, q_nem, q_mne]
    exact x_ref3 h
  have hk : 6 * a + c < 36 := by omega
  have ei : a * 6 + c = 6 * a + c := by omega
  obtain ⟨d1, d2, d3⟩ := JJ_at hk h
  have hh := cs_held (L := L) hx g2 (a := a) (c := c) (by omega) (by omega)
  by_cases h99 : A.2.1 (6 * a + c) = 99
  · simp (disch := omega) only [e1, e2, hh, f_at, d2, h99, f_X10_find_26, f_find_26, ↓reduceIte, o_bind, and_true, true_and, and_false, false_and, or_true, true_or, or_false, false_or, not_true, not_false_eq_true, not_false_iff, ne_eq, Nat.reduceAdd, Nat.reduceMul, Nat.reduceSub, Nat.reduceDiv, Nat.reduceMod, Nat.reduceLT, Nat.reduceLeDiff, Nat.reduceEqDiff, Nat.not_lt, Nat.not_le, Nat.add_zero, Nat.zero_add, Nat.mul_zero, Nat.zero_mul, q_lit, ↓q_m1, q_om, q_on, q_add, q_mul, q_sub, q_div, q_md, q_ltT, q_ltF, q_leT, q_leF, q_eqT, q_eqF, q_inT, q_inF, q_nn, q_mlt, q_ltm, q_mle, q_lem, q_nem, q_mne]
    exact x_ref3 h
  · simp (disch := omega) only [e1, e2, hh, f_at, d2, ↓reduceIte, o_bind, and_true, true_and, and_false, false_and, or_true, true_or, or_false, false_or, not_true, not_false_eq_true, not_false_iff, ne_eq, Nat.reduceAdd, Nat.reduceMul, Nat.reduceSub, Nat.reduceDiv, Nat.reduceMod, Nat.reduceLT, Nat.reduceLeDiff, Nat.reduceEqDiff, Nat.not_lt, Nat.not_le, Nat.add_zero, Nat.zero_add, Nat.mul_zero, Nat.zero_mul, q_lit, ↓q_m1, q_om, q_on, q_add, q_mul, q_sub, q_div, q_md, q_ltT, q_ltF, q_leT, q_leF, q_eqT, q_eqF, q_inT, q_inF, q_nn, q_mlt, q_ltm, q_mle, q_lem, q_nem, q_mne]
    refine zX_call (x_remember h) ?_
    rintro ⟨n1, cc, qq, K1, N1, G1, V1, L1⟩ ⟨R1, M1⟩ ⟨⟨hcc, hqq⟩, f1, cnt1, acts1, pl1, hi1, h1⟩
    dsimp only at hcc hqq h1 ⊢
    obtain ⟨⟨-, -, hx2, -⟩, -⟩ := id h1.1
    have G5' : G1 0 5 = some 6 := hx2.1.2.1
    have G61 : G1 6 1 = some 7 := hx2.2.1.1.1
    have n7 : N1 7 = 36 := hx2.2.1.2.1
    obtain ⟨q1, q2, -⟩ := JJ_at hk h1
    unfold f_X10_find_38
    rw [G5', o_bind, G61, o_bind]
    simp (disch := omega) only [ei, n7, q1, f_at, q2, ↓reduceIte, o_bind, and_true, true_and, and_false, false_and, or_true, true_or, or_false, false_or, not_true, not_false_eq_true, not_false_iff, ne_eq, Nat.reduceAdd, Nat.reduceMul, Nat.reduceSub, Nat.reduceDiv, Nat.reduceMod, Nat.reduceLT, Nat.reduceLeDiff, Nat.reduceEqDiff, Nat.not_lt, Nat.not_le, Nat.add_zero, Nat.zero_add, Nat.mul_zero, Nat.zero_mul, q_lit, ↓q_m1, q_om, q_on, q_add, q_mul, q_sub, q_div, q_md, q_ltT, q_ltF, q_leT, q_leF, q_eqT, q_eqF, q_inT, q_inF, q_nn, q_mlt, q_ltm, q_mle, q_lem, q_nem, q_mne]
    refine zX_some ?_
    dsimp only
    exact ⟨rfl, JQ_mk (by omega) (by omega) ⟨u, b, f1, cnt1, acts1, x, pl1, U, _, hi1, JJ_held hk (by omega) (by omega) h1⟩⟩
theorem m_burn {a1 a2 : Int32} (h : JP n K N G V R M) : zX (f_X10_burn 0 a1 a2 n K N G V L) (f_burn a1 a2 R M) (fun r r' => r.1 = r'.1 ∧ JQ r.2 r'.2.1 r'.2.2) := by
  obtain ⟨u, b, f0, cnt, acts, x, pl, U, A, hi, h⟩ := h
  obtain ⟨⟨a1', a2', hx, g2', a5, a6, a7⟩, -⟩ := id h.1
  obtain ⟨⟨g1, g2, g3, g4⟩, ⟨hU, hA⟩, -⟩ := id h.2.1
  have htw := UB_tw hU
  have G5 : G 0 5 = some 6 := hx.1.2.1
  unfold f_X10_burn g_X10_burn f_burn
  rw [g2', G5]
  simp only [o_bind]
  rcases x_isPair (L := L) g1 g3 hU a1 a2 with ⟨e1, e2⟩ | ⟨a, c, rfl, rfl, ha, hc, hac, e1, e2⟩
  · simp (disch := omega) only [e1, e2, f_X10_burn_24, f_burn_24, ↓reduceIte, o_bind, and_true, true_and, and_false, false_and, or_true, true_or, or_false, false_or, not_true, not_false_eq_true, not_false_iff, ne_eq, Nat.reduceAdd, Nat.reduceMul, Nat.reduceSub, Nat.reduceDiv, Nat.reduceMod, Nat.reduceLT, Nat.reduceLeDiff, Nat.reduceEqDiff, Nat.not_lt, Nat.not_le, q_lit, ↓q_m1, q_om, q_on, q_add, q_mul, q_sub, q_div, q_md, q_ltT, q_ltF, q_leT, q_leF, q_eqT, q_eqF, q_inT, q_inF, q_nn, q_mlt, q_ltm, q_mle, q_lem, q_nem, q_mne]
    exact x_ref3' h
  have hk : 6 * a + c < 36 := by omega
  have ei : a * 6 + c = 6 * a + c := by omega
  obtain ⟨d1, d2, d3⟩ := JJ_at hk h
  have hh := cs_held (L := L) hx g2 (a := a) (c := c) (by omega) (by omega)
  by_cases h99 : A.2.1 (6 * a + c) = 0
  · simp (disch := omega) only [e1, e2, hh, f_at, d2, h99, f_X10_burn_24, f_burn_24, ↓reduceIte, o_bind, and_true, true_and, and_false, false_and, or_true, true_or, or_false, false_or, not_true, not_false_eq_true, not_false_iff, ne_eq, Nat.reduceAdd, Nat.reduceMul, Nat.reduceSub, Nat.reduceDiv, Nat.reduceMod, Nat.reduceLT, Nat.reduceLeDiff, Nat.reduceEqDiff, Nat.not_lt, Nat.not_le, Nat.add_zero, Nat.zero_add, Nat.mul_zero, Nat.zero_mul, q_lit, ↓q_m1, q_om, q_on, q_add, q_mul, q_sub, q_div, q_md, q_ltT, q_ltF, q_leT, q_leF, q_eqT, q_eqF, q_inT, q_inF, q_nn, q_mlt, q_ltm, q_mle, q_lem, q_nem, q_mne]
    exact x_ref3' h
  · simp (disch := omega) only [e1, e2, hh, f_at, d2, ↓reduceIte, o_bind, and_true, true_and, and_false, false_and, or_true, true_or, or_false, false_or, not_true, not_false_eq_true, not_false_iff, ne_eq, Nat.reduceAdd, Nat.reduceMul, Nat.reduceSub, Nat.reduceDiv, Nat.reduceMod, Nat.reduceLT, Nat.reduceLeDiff, Nat.reduceEqDiff, Nat.not_lt, Nat.not_le, Nat.add_zero, Nat.zero_add, Nat.mul_zero, Nat.zero_mul, q_lit, ↓q_m1, q_om, q_on, q_add, q_mul, q_sub, q_div, q_md, q_ltT, q_ltF, q_leT, q_leF, q_eqT, q_eqF, q_inT, q_inF, q_nn, q_mlt, q_ltm, q_mle, q_lem, q_nem, q_mne]
    refine zX_call (x_remember h) ?_
    rintro ⟨n1, cc, qq, K1, N1, G1, V1, L1⟩ ⟨R1, M1⟩ ⟨⟨hcc, hqq⟩, f1, cnt1, acts1, pl1, hi1, h1⟩
    dsimp only at hcc hqq h1 ⊢
    obtain ⟨⟨-, -, hx2, -⟩, -⟩ := id h1.1
    have G5' : G1 0 5 = some 6 := hx2.1.2.1
    have G61 : G1 6 1 = some 7 := hx2.2.1.1.1
    have n7 : N1 7 = 36 := hx2.2.1.2.1
    obtain ⟨q1, q2, -⟩ := JJ_at hk h1
    have hh1 := cs_held (L := L1) hx2 h1.2.1.1.2.1 (a := a) (c := c) (by omega) (by omega)
    unfold f_X10_burn_34
    rw [G5', o_bind, hh1, o_bind, o_bind, G61, o_bind]
    simp (disch := omega) only [ei, n7, q1, f_at, q2, ↓reduceIte, o_bind, and_true, true_and, and_false, false_and, or_true, true_or, or_false, false_or, not_true, not_false_eq_true, not_false_iff, ne_eq, Nat.reduceAdd, Nat.reduceMul, Nat.reduceSub, Nat.reduceDiv, Nat.reduceMod, Nat.reduceLT, Nat.reduceLeDiff, Nat.reduceEqDiff, Nat.not_lt, Nat.not_le, Nat.add_zero, Nat.zero_add, Nat.mul_zero, Nat.zero_mul, q_lit, ↓q_m1, q_om, q_on, q_add, q_mul, q_sub, q_div, q_md, q_ltT, q_ltF, q_leT, q_leF, q_eqT, q_eqF, q_inT, q_inF, q_nn, q_mlt, q_ltm, q_mle, q_lem, q_nem, q_mne]
    refine zX_some ?_
    dsimp only
    exact ⟨rfl, JQ_mk (by omega) (by omega) ⟨u, b, f1, cnt1, acts1, x, pl1, U, _, hi1, JJ_held hk (by omega) (by omega) h1⟩⟩
theorem m_give {a1 a2 a3 : Int32} (h : JP n K N G V R M) : zX (f_X10_give 0 a1 a2 a3 n K N G V L) (f_give a1 a2 a3 R M) (fun r r' => r.1 = r'.1 ∧ JQ r.2 r'.2.1 r'.2.2) := by
  obtain ⟨u, b, f0, cnt, acts, x, pl, U, A, hi, h⟩ := h
  obtain ⟨⟨a1', a2', hx, g2', a5, a6, a7⟩, -⟩ := id h.1
  obtain ⟨⟨g1, g2, g3, g4⟩, ⟨hU, hA⟩, -⟩ := id h.2.1
  have htw := UB_tw hU
  have G5 : G 0 5 = some 6 := hx.1.2.1
  unfold f_X10_give g_X10_give f_give
  rw [g2']
  simp only [o_bind]
  rcases x_isPair (L := L) g1 g3 hU a1 a2 with ⟨e1, e2⟩ | ⟨a, c, rfl, rfl, ha, hc, hac, e1, e2⟩
  · simp (disch := omega) only [e1, e2, f_X10_give_34, f_give_55, ↓reduceIte, o_bind, and_true, true_and, and_false, false_and, or_true, true_or, or_false, false_or, not_true, not_false_eq_true, not_false_iff, ne_eq, Nat.reduceAdd, Nat.reduceMul, Nat.reduceSub, Nat.reduceDiv, Nat.reduceMod, Nat.reduceLT, Nat.reduceLeDiff, Nat.reduceEqDiff, Nat.not_lt, Nat.not_le, q_lit, ↓q_m1, q_om, q_on, q_add, q_mul, q_sub, q_div, q_md, q_ltT, q_ltF, q_leT, q_leF, q_eqT, q_eqF, q_inT, q_inF, q_nn, q_mlt, q_ltm, q_mle, q_lem, q_nem, q_mne]
    exact x_ref3 h
  rcases x_isPair (L := L) g1 g3 hU (qi a) a3 with ⟨e3, e4⟩ | ⟨a', d, ea, rfl, ha', hd, had, e3, e4⟩
  · simp (disch := omega) only [e1, e2, e3, e4, f_X10_give_34, f_give_55, ↓reduceIte, o_bind, and_true, true_and, and_false, false_and, or_true, true_or, or_false, false_or, not_true, not_false_eq_true, not_false_iff, ne_eq, Nat.reduceAdd, Nat.reduceMul, Nat.reduceSub, Nat.reduceDiv, Nat.reduceMod, Nat.reduceLT, Nat.reduceLeDiff, Nat.reduceEqDiff, Nat.not_lt, Nat.not_le, q_lit, ↓q_m1, q_om, q_on, q_add, q_mul, q_sub, q_div, q_md, q_ltT, q_ltF, q_leT, q_leF, q_eqT, q_eqF, q_inT, q_inF, q_nn, q_mlt, q_ltm, q_mle, q_lem, q_nem, q_mne]
    exact x_ref3 h
  obtain rfl : a = a' := (q_eq (by omega) (by omega)).mp ea
  have hk : 6 * a + c < 36 := by omega
  have hk2 : 6 * d + c < 36 := by omega
  have ei : a * 6 + c = 6 * a + c := by omega
  have ej : d * 6 + c = 6 * d + c := by omega
  obtain ⟨d1, d2, d3⟩ := JJ_at hk h
  obtain ⟨d4, d5, d6⟩ := JJ_at hk2 h
  have hh := cs_held (L := L) hx g2 (a := a) (c := c) (by omega) (by omega)
  have hh2 := cs_held (L := L) hx g2 (a := d) (c := c) (by omega) (by omega)
  have go : ∀ (ok : d = c ∨ A.2.1 (6 * d + c) < 99), 0 < A.2.1 (6 * a + c) → zX ((f_X10_remember 0 n K N G V L).bind fun r6 => f_X10_give_46 0 (qi a) (qi c) (qi d) r6.1 (0 + r6.2.1) (0 + r6.2.2.1) r6.2.2.2.1 r6.2.2.2.2.1 r6.2.2.2.2.2.1 r6.2.2.2.2.2.2.1 r6.2.2.2.2.2.2.2) (f_give_69 (qi a) (qi c) (qi d) R M) (fun r r' => r.1 = r'.1 ∧ JQ r.2 r'.2.1 r'.2.2) := by
    intro ok hpos
    unfold f_give_69
    refine zX_call (x_remember h) ?_
    rintro ⟨n1, cc, qq, K1, N1, G1, V1, L1⟩ ⟨R1, M1⟩ ⟨⟨hcc, hqq⟩, f1, cnt1, acts1, pl1, hi1, h1⟩
    dsimp only at hcc hqq h1 ⊢
    obtain ⟨⟨-, -, hx2, -⟩, -⟩ := id h1.1
    have G5' : G1 0 5 = some 6 := hx2.1.2.1
    have G61 : G1 6 1 = some 7 := hx2.2.1.1.1
    have n7 : N1 7 = 36 := hx2.2.1.2.1
    obtain ⟨q1, q2, -⟩ := JJ_at hk h1
    have h2 := JJ_held hk (y := A.2.1 (6 * a + c) - 1) (by omega) (by omega) h1
    unfold f_X10_give_46
    rw [G5', o_bind, G61, o_bind]
    by_cases hdc : d = c
    · simp (disch := omega) only [ei, n7, q1, f_at, q2, hdc, ↓reduceIte, o_bind, and_true, true_and, and_false, false_and, or_true, true_or, or_false, false_or, not_true, not_false_eq_true, not_false_iff, ne_eq, Nat.reduceAdd, Nat.reduceMul, Nat.reduceSub, Nat.reduceDiv, Nat.reduceMod, Nat.reduceLT, Nat.reduceLeDiff, Nat.reduceEqDiff, Nat.not_lt, Nat.not_le, Nat.add_zero, Nat.zero_add, Nat.mul_zero, Nat.zero_mul, q_lit, ↓q_m1, q_om, q_on, q_add, q_mul, q_sub, q_div, q_md, q_ltT, q_ltF, q_leT, q_leF, q_eqT, q_eqF, q_inT, q_inF, q_nn, q_mlt, q_ltm, q_mle, q_lem, q_nem, q_mne]
      refine zX_some ?_
      dsimp only
      exact ⟨rfl, JQ_mk (by omega) (by omega) ⟨u, b, f1, cnt1, acts1, x, pl1, U, _, hi1, h2⟩⟩
    · have h3 := JJ_held hk2 (y := A.2.1 (6 * d + c) + 1) (by omega) (by omega) h2
      obtain ⟨q3, q4, -⟩ := JJ_at hk2 h2
      have en : (heldS A (nu A.2.1 (6 * a + c) (A.2.1 (6 * a + c) - 1))).2.1 (6 * d + c) = A.2.1 (6 * d + c) := by
        show nu _ _ _ _ = _
        unfold nu
        rw [if_neg (by omega)]
      rw [en] at q3 q4
      simp (disch := omega) only [ei, ej, n7, q1, f_at, q2, hdc, q3, q4, G5', G61, o_bind, ↓reduceIte, o_bind, and_true, true_and, and_false, false_and, or_true, true_or, or_false, false_or, not_true, not_false_eq_true, not_false_iff, ne_eq, Nat.reduceAdd, Nat.reduceMul, Nat.reduceSub, Nat.reduceDiv, Nat.reduceMod, Nat.reduceLT, Nat.reduceLeDiff, Nat.reduceEqDiff, Nat.not_lt, Nat.not_le, Nat.add_zero, Nat.zero_add, Nat.mul_zero, Nat.zero_mul, q_lit, ↓q_m1, q_om, q_on, q_add, q_mul, q_sub, q_div, q_md, q_ltT, q_ltF, q_leT, q_leF, q_eqT, q_eqF, q_inT, q_inF, q_nn, q_mlt, q_ltm, q_mle, q_lem, q_nem, q_mne]
      refine zX_some ?_
      dsimp only
      exact ⟨rfl, JQ_mk (by omega) (by omega) ⟨u, b, f1, cnt1, acts1, x, pl1, U, _, hi1, h3⟩⟩
  have ec : f_X10_canGive N G 0 (qi a) (qi c) (qi d) V L = some (if 0 < A.2.1 (6 * a + c) ∧ (d = c ∨ A.2.1 (6 * d + c) < 99) then qi 1 else qi 0) := by
    unfold f_X10_canGive g_X10_canGive
    rw [G5, o_bind, hh, o_bind]
    by_cases h0 : 0 < A.2.1 (6 * a + c)
    · by_cases hdc : d = c
      · simp (disch := omega) only [h0, hdc, ↓reduceIte, o_bind, and_true, true_and, and_false, false_and, or_true, true_or, or_false, false_or, not_true, not_false_eq_true, not_false_iff, ne_eq, Nat.reduceAdd, Nat.reduceMul, Nat.reduceSub, Nat.reduceDiv, Nat.reduceMod, Nat.reduceLT, Nat.reduceLeDiff, Nat.reduceEqDiff, Nat.not_lt, Nat.not_le, q_lit, ↓q_m1, q_om, q_on, q_add, q_mul, q_sub, q_div, q_md, q_ltT, q_ltF, q_leT, q_leF, q_eqT, q_eqF, q_inT, q_inF, q_nn, q_mlt, q_ltm, q_mle, q_lem, q_nem, q_mne]
      · by_cases h9 : A.2.1 (6 * d + c) < 99
        · simp (disch := omega) only [h0, hdc, h9, hh2, ↓reduceIte, o_bind, and_true, true_and, and_false, false_and, or_true, true_or, or_false, false_or, not_true, not_false_eq_true, not_false_iff, ne_eq, Nat.reduceAdd, Nat.reduceMul, Nat.reduceSub, Nat.reduceDiv, Nat.reduceMod, Nat.reduceLT, Nat.reduceLeDiff, Nat.reduceEqDiff, Nat.not_lt, Nat.not_le, q_lit, ↓q_m1, q_om, q_on, q_add, q_mul, q_sub, q_div, q_md, q_ltT, q_ltF, q_leT, q_leF, q_eqT, q_eqF, q_inT, q_inF, q_nn, q_mlt, q_ltm, q_mle, q_lem, q_nem, q_mne]
        · simp (disch := omega) only [h0, hdc, h9, hh2, ↓reduceIte, o_bind, and_true, true_and, and_false, false_and, or_true, true_or, or_false, false_or, not_true, not_false_eq_true, not_false_iff, ne_eq, Nat.reduceAdd, Nat.reduceMul, Nat.reduceSub, Nat.reduceDiv, Nat.reduceMod, Nat.reduceLT, Nat.reduceLeDiff, Nat.reduceEqDiff, Nat.not_lt, Nat.not_le, q_lit, ↓q_m1, q_om, q_on, q_add, q_mul, q_sub, q_div, q_md, q_ltT, q_ltF, q_leT, q_leF, q_eqT, q_eqF, q_inT, q_inF, q_nn, q_mlt, q_ltm, q_mle, q_lem, q_nem, q_mne]
    · simp (disch := omega) only [h0, ↓reduceIte, o_bind, and_true, true_and, and_false, false_and, or_true, true_or, or_false, false_or, not_true, not_false_eq_true, not_false_iff, ne_eq, Nat.reduceAdd, Nat.reduceMul, Nat.reduceSub, Nat.reduceDiv, Nat.reduceMod, Nat.reduceLT, Nat.reduceLeDiff, Nat.reduceEqDiff, Nat.not_lt, Nat.not_le, q_lit, ↓q_m1, q_om, q_on, q_add, q_mul, q_sub, q_div, q_md, q_ltT, q_ltF, q_leT, q_leF, q_eqT, q_eqF, q_inT, q_inF, q_nn, q_mlt, q_ltm, q_mle, q_lem, q_nem, q_mne]
  by_cases h0 : 0 < A.2.1 (6 * a + c)
  · by_cases hdc : d = c
    · have g := go (Or.inl hdc) h0
      have hc1 : 0 < A.2.1 (6 * a + c) ∧ (d = c ∨ A.2.1 (6 * d + c) < 99) := ⟨h0, Or.inl hdc⟩
      simp (disch := omega) only [e1, e2, e3, e4, ec, hc1, f_at, d2, ↓reduceIte, o_bind, and_true, true_and, and_false, false_and, or_true, true_or, or_false, false_or, not_true, not_false_eq_true, not_false_iff, ne_eq, Nat.reduceAdd, Nat.reduceMul, Nat.reduceSub, Nat.reduceDiv, Nat.reduceMod, Nat.reduceLT, Nat.reduceLeDiff, Nat.reduceEqDiff, Nat.not_lt, Nat.not_le, Nat.add_zero, Nat.zero_add, Nat.mul_zero, Nat.zero_mul, q_lit, ↓q_m1, q_om, q_on, q_add, q_mul, q_sub, q_div, q_md, q_ltT, q_ltF, q_leT, q_leF, q_eqT, q_eqF, q_inT, q_inF, q_nn, q_mlt, q_ltm, q_mle, q_lem, q_nem, q_mne]
      simp only [↓reduceIte, o_bind, and_true, true_and, and_false, false_and, or_true, true_or, or_false, false_or, not_true, not_false_eq_true, not_false_iff, ne_eq, Nat.reduceAdd, Nat.reduceMul, Nat.reduceSub, Nat.reduceDiv, Nat.reduceMod, Nat.reduceLT, Nat.reduceLeDiff, Nat.reduceEqDiff, Nat.not_lt, Nat.not_le, Nat.add_zero, Nat.zero_add, Nat.mul_zero, Nat.zero_mul] at g
      exact g
    · by_cases h9 : A.2.1 (6 * d + c) < 99
      · have g := go (Or.inr h9) h0
        have hc1 : 0 < A.2.1 (6 * a + c) ∧ (d = c ∨ A.2.1 (6 * d + c) < 99) := ⟨h0, Or.inr h9⟩
        simp (disch := omega) only [e1, e2, e3, e4, ec, hc1, f_at, d2, d5, ↓reduceIte, o_bind, and_true, true_and, and_false, false_and, or_true, true_or, or_false, false_or, not_true, not_false_eq_true, not_false_iff, ne_eq, Nat.reduceAdd, Nat.reduceMul, Nat.reduceSub, Nat.reduceDiv, Nat.reduceMod, Nat.reduceLT, Nat.reduceLeDiff, Nat.reduceEqDiff, Nat.not_lt, Nat.not_le, Nat.add_zero, Nat.zero_add, Nat.mul_zero, Nat.zero_mul, q_lit, ↓q_m1, q_om, q_on, q_add, q_mul, q_sub, q_div, q_md, q_ltT, q_ltF, q_leT, q_leF, q_eqT, q_eqF, q_inT, q_inF, q_nn, q_mlt, q_ltm, q_mle, q_lem, q_nem, q_mne]
        simp only [↓reduceIte, o_bind, and_true, true_and, and_false, false_and, or_true, true_or, or_false, false_or, not_true, not_false_eq_true, not_false_iff, ne_eq, Nat.reduceAdd, Nat.reduceMul, Nat.reduceSub, Nat.reduceDiv, Nat.reduceMod, Nat.reduceLT, Nat.reduceLeDiff, Nat.reduceEqDiff, Nat.not_lt, Nat.not_le, Nat.add_zero, Nat.zero_add, Nat.mul_zero, Nat.zero_mul] at g
        exact g
      · have hc1 : ¬ (0 < A.2.1 (6 * a + c) ∧ (d = c ∨ A.2.1 (6 * d + c) < 99)) := by omega
        simp (disch := omega) only [e1, e2, e3, e4, ec, hc1, f_at, d2, d5, f_X10_give_34, f_give_55, ↓reduceIte, o_bind, and_true, true_and, and_false, false_and, or_true, true_or, or_false, false_or, not_true, not_false_eq_true, not_false_iff, ne_eq, Nat.reduceAdd, Nat.reduceMul, Nat.reduceSub, Nat.reduceDiv, Nat.reduceMod, Nat.reduceLT, Nat.reduceLeDiff, Nat.reduceEqDiff, Nat.not_lt, Nat.not_le, Nat.add_zero, Nat.zero_add, Nat.mul_zero, Nat.zero_mul, q_lit, ↓q_m1, q_om, q_on, q_add, q_mul, q_sub, q_div, q_md, q_ltT, q_ltF, q_leT, q_leF, q_eqT, q_eqF, q_inT, q_inF, q_nn, q_mlt, q_ltm, q_mle, q_lem, q_nem, q_mne]
        exact x_ref3 h
  · have hc1 : ¬ (0 < A.2.1 (6 * a + c) ∧ (d = c ∨ A.2.1 (6 * d + c) < 99)) := by omega
    simp (disch := omega) only [e1, e2, e3, e4, ec, hc1, f_at, d2, f_X10_give_34, f_give_55, ↓reduceIte, o_bind, and_true, true_and, and_false, false_and, or_true, true_or, or_false, false_or, not_true, not_false_eq_true, not_false_iff, ne_eq, Nat.reduceAdd, Nat.reduceMul, Nat.reduceSub, Nat.reduceDiv, Nat.reduceMod, Nat.reduceLT, Nat.reduceLeDiff, Nat.reduceEqDiff, Nat.not_lt, Nat.not_le, Nat.add_zero, Nat.zero_add, Nat.mul_zero, Nat.zero_mul, q_lit, ↓q_m1, q_om, q_on, q_add, q_mul, q_sub, q_div, q_md, q_ltT, q_ltF, q_leT, q_leF, q_eqT, q_eqF, q_inT, q_inF, q_nn, q_mlt, q_ltm, q_mle, q_lem, q_nem, q_mne]
    exact x_ref3 h
end
