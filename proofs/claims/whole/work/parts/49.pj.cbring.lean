section
set_option maxHeartbeats 4000000 in
theorem c_bring_n {N : Nat → Nat} {G : zG} {V : zI} {L : zL} {u s x : Nat} {U : aU} {A : aS} (hu : unS N G u) (hs : stS N G s) (hs2 : 6 ≤ s ∧ s + 7 ≤ 20) (hC : UC N G V u U) (hS : SC V s A) (hU : UB U) (hA : SB U A) (hx : x < 2147483648) : zW (f_X4_bring_n N G 20 u s  V L) (fun r => SC r.1 s (mS (brF U.2.2.2.1 U.2.2.2.2.1 false (A, 0, x, 0, 0, 0) A.2.2.2.2.1).1 (brF U.2.2.2.1 U.2.2.2.2.1 false (A, 0, x, 0, 0, 0) A.2.2.2.2.1).2.1) ∧ r.1 s 10 = qi (brF U.2.2.2.1 U.2.2.2.2.1 false (A, 0, x, 0, 0, 0) A.2.2.2.2.1).2.2.2.1 ∧ r.1 s 11 = qi (brF U.2.2.2.1 U.2.2.2.2.1 false (A, 0, x, 0, 0, 0) A.2.2.2.2.1).2.2.2.2.1 ∧ r.2 s 9 = (brF U.2.2.2.1 U.2.2.2.2.1 false (A, 0, x, 0, 0, 0) A.2.2.2.2.1).2.2.2.2.2 ∧ (∀ w, (w < s ∨ s + 7 ≤ w) → w ≠ 22 → r.1 w = V w) ∧ (∀ w, w ≠ s → r.2 w = L w) ∧ r.1 22 = V 22) := by
  have hm := SB_m hA
  obtain ⟨⟨g1, g2, g3, g5, g6, g8⟩, n1, n2, n3, n4, n5, n6⟩ := id hs
  have hu1 := hu.1
  have he : U.2.2.2.1 ≤ 3 := hU.1.2.2.1
  have hlo : U.2.2.2.2.1 ≤ 100 := hU.1.2.2.2
  unfold f_X4_bring_n g_X4_bring_n
  simp only [g5, g6, o_bind]
  refine zW_lp (I := fun r q => ∃ (i : Nat) (V1 : zI) (L1 : zL) (X : aX), i ≤ A.2.2.2.2.1 ∧ r = A.2.2.2.2.1 - i ∧ X = brF U.2.2.2.1 U.2.2.2.2.1 false (A, 0, x, 0, 0, 0) i ∧ q = (qi X.2.1, qi i, V1, L1) ∧ SC V1 s X.1 ∧ V1 s 10 = qi X.2.2.2.1 ∧ V1 s 11 = qi X.2.2.2.2.1 ∧ L1 s 9 = X.2.2.2.2.2 ∧ (∀ w, (w < s ∨ s + 7 ≤ w) → w ≠ 22 → V1 w = V w) ∧ (∀ w, w ≠ s → L1 w = L w) ∧ V1 22 = V 22) ?_ FU A.2.2.2.2.1 _ ⟨0, _, _, _, by omega, by omega, rfl, rfl, SC_z (SC_z hS (by omega) (by omega) (by omega)) (by omega) (by omega) (by omega), ?_, ?_, ?_, ?_, ?_, ?_⟩ (FU_big (by omega))
  rotate_left
  · simp (disch := omega) only [z_same, z_neP, z_neK, zL_same, zL_neP, zL_neK, zr_same, zr_ne]; rfl
  · simp (disch := omega) only [z_same, z_neP, z_neK, zL_same, zL_neP, zL_neK, zr_same, zr_ne]; rfl
  · simp (disch := omega) only [z_same, z_neP, z_neK, zL_same, zL_neP, zL_neK, zr_same, zr_ne]; rfl
  · intro w h1 h2; simp (disch := omega) only [z_same, z_neP, z_neK, zL_same, zL_neP, zL_neK, zr_same, zr_ne]
  · intro w h1; simp (disch := omega) only [z_same, z_neP, z_neK, zL_same, zL_neP, zL_neK, zr_same, zr_ne]
  · simp (disch := omega) only [z_same, z_neP, z_neK, zL_same, zL_neP, zL_neK, zr_same, zr_ne]
  rintro k r q ⟨i, V1, L1, X, hi, rfl, hX, rfl, hS1, h10, h11, h9, hw, hl, hsd⟩ ih
  obtain ⟨b1, b2, b3, b4, b5, b6, b7, b8⟩ := br_inv (e := U.2.2.2.1) (lo := U.2.2.2.2.1) (dr := false) hU hA hx i hi X hX
  have hnext := fun hi1 : i + 1 ≤ A.2.2.2.2.1 => fun V2 L2 a1 a2 a3 a4 a5 a6 a7 => ih (A.2.2.2.2.1 - (i + 1)) (qi (brS U.2.2.2.1 U.2.2.2.2.1 false i X).2.1, qi (i + 1), V2, L2) (by omega) ⟨i + 1, V2, L2, brS U.2.2.2.1 U.2.2.2.2.1 false i X, hi1, rfl, by rw [hX]; rfl, rfl, a1, a2, a3, a4, a5, a6, a7⟩
  by_cases hend : i = A.2.2.2.2.1
  · subst hend
    rw [← hX]
    obtain ⟨B, st, y, cm, ls, bt⟩ := X
    obtain ⟨day, held, sent, got, m, mp, ml, kn, kc⟩ := B
    dsimp only at b1 b2 b3 b4 b5 b6 b7 b8 hS1 h10 h11 h9 hsd ⊢
    have e4 : V1 s 4 = qi m := hS1.1.2.1
    have : b_X4_bring_n_21 N G 20 u s  (s + 4) (s + 5) k (qi st, qi A.2.2.2.2.1, V1, L1) = some (z_uI V1 s 4 (qi st), L1) := by
      simp (disch := omega) only [b_X4_bring_n_21, e4, ↓reduceIte, o_bind, and_true, true_and, and_false, false_and, or_true, true_or, or_false, false_or, not_true, not_false_eq_true, not_false_iff, ne_eq, Nat.reduceAdd, Nat.reduceMul, Nat.reduceSub, Nat.reduceDiv, Nat.reduceMod, Nat.reduceLT, Nat.reduceLeDiff, Nat.reduceEqDiff, Nat.not_lt, Nat.not_le, q_lit, ↓q_m1, q_om, q_on, q_add, q_mul, q_sub, q_div, q_md, q_ltT, q_ltF, q_leT, q_leF, q_eqT, q_eqF, q_inT, q_inF, q_nn, q_mlt, q_ltm, q_mle, q_lem, q_nem, q_mne, z_same, z_neP, z_neK, zL_same, zL_neP, zL_neK, zr_same, zr_ne]
    refine zW_eq this ⟨?_, ?_, ?_, h9, ?_, hl, ?_⟩
    · obtain ⟨⟨a0, a4, a7⟩, s1, s2, s3, s4, s5, s6⟩ := hS1
      refine ⟨⟨?_, ?_, ?_⟩, ?_, ?_, ?_, ?_, ?_, ?_⟩
      · simp (disch := omega) only [z_same, z_neP, z_neK, zL_same, zL_neP, zL_neK, zr_same, zr_ne]; exact a0
      · simp (disch := omega) only [z_same, z_neP, z_neK, zL_same, zL_neP, zL_neK, zr_same, zr_ne]
      · simp (disch := omega) only [z_same, z_neP, z_neK, zL_same, zL_neP, zL_neK, zr_same, zr_ne]; exact a7
      · intro k hk; simp (disch := omega) only [z_same, z_neP, z_neK, zL_same, zL_neP, zL_neK, zr_same, zr_ne]; exact s1 k hk
      · intro k hk; simp (disch := omega) only [z_same, z_neP, z_neK, zL_same, zL_neP, zL_neK, zr_same, zr_ne]; exact s2 k hk
      · intro k hk; simp (disch := omega) only [z_same, z_neP, z_neK, zL_same, zL_neP, zL_neK, zr_same, zr_ne]; exact s3 k hk
      · intro k hk; simp (disch := omega) only [z_same, z_neP, z_neK, zL_same, zL_neP, zL_neK, zr_same, zr_ne]; exact s4 k (by omega)
      · intro k hk; simp (disch := omega) only [z_same, z_neP, z_neK, zL_same, zL_neP, zL_neK, zr_same, zr_ne]; exact s5 k (by omega)
      · intro k hk; simp (disch := omega) only [z_same, z_neP, z_neK, zL_same, zL_neP, zL_neK, zr_same, zr_ne]; exact s6 k hk
    · simp (disch := omega) only [z_same, z_neP, z_neK, zL_same, zL_neP, zL_neK, zr_same, zr_ne]; exact h10
    · simp (disch := omega) only [z_same, z_neP, z_neK, zL_same, zL_neP, zL_neK, zr_same, zr_ne]; exact h11
    · intro w h1 h2; simp (disch := omega) only [z_same, z_neP, z_neK, zL_same, zL_neP, zL_neK, zr_same, zr_ne]; exact hw w h1 h2
    · simp (disch := omega) only [z_same, z_neP, z_neK, zL_same, zL_neP, zL_neK, zr_same, zr_ne]; exact hsd
  · replace hnext := hnext (by omega)
    obtain ⟨B, st, y, cm, ls, bt⟩ := X
    obtain ⟨day, held, sent, got, m, mp, ml, kn, kc⟩ := B
    dsimp only at b1 b2 b3 b4 b5 b6 b7 b8 hS1 h10 h11 h9 hsd hnext ⊢
    have hS1' := hS1
    obtain ⟨⟨a0, a4, a7⟩, s1, s2, s3, s4, s5, s6⟩ := hS1
    have him : i < m := by omega
    have hm60 : m ≤ 60 := by omega
    have hii := b1.2.2.2.1 i him (Or.inr (Nat.le_refl _))
    have hwi := (hU.2.1 (mp i) hii.1).1
    have d4 := s4 i him
    have d5 := s5 i him
    have hli : ml i ≤ 45 := by have := hii.2.2.2; omega
    have hli1 : 1 ≤ ml i := hii.2.2.1
    have ue : V1 u 3 = qi U.2.2.2.1 := by rw [hw u (by omega) (by omega)]; exact hC.1.2.2.1
    have ul : V1 u 4 = qi U.2.2.2.2.1 := by rw [hw u (by omega) (by omega)]; exact hC.1.2.2.2
    by_cases hl1 : 1 < ml i
    · simp only [brS, hl1, ↓reduceIte] at hnext
      simp (disch := omega) only [b_X4_bring_n_21, a4, n4, n5, d4, d5, ↓reduceIte, o_bind, and_true, true_and, and_false, false_and, or_true, true_or, or_false, false_or, not_true, not_false_eq_true, not_false_iff, ne_eq, Nat.reduceAdd, Nat.reduceMul, Nat.reduceSub, Nat.reduceDiv, Nat.reduceMod, Nat.reduceLT, Nat.reduceLeDiff, Nat.reduceEqDiff, Nat.not_lt, Nat.not_le, q_lit, ↓q_m1, q_om, q_on, q_add, q_mul, q_sub, q_div, q_md, q_ltT, q_ltF, q_leT, q_leF, q_eqT, q_eqF, q_inT, q_inF, q_nn, q_mlt, q_ltm, q_mle, q_lem, q_nem, q_mne, z_same, z_neP, z_neK, zL_same, zL_neP, zL_neK, zr_same, zr_ne]
      refine hnext _ _ ⟨⟨?_, ?_, ?_⟩, ?_, ?_, ?_, ?_, ?_, ?_⟩ ?_ ?_ h9 ?_ hl ?_
      · simp (disch := omega) only [z_same, z_neP, z_neK, zL_same, zL_neP, zL_neK, zr_same, zr_ne]; exact a0
      · simp (disch := omega) only [z_same, z_neP, z_neK, zL_same, zL_neP, zL_neK, zr_same, zr_ne]; exact a4
      · simp (disch := omega) only [z_same, z_neP, z_neK, zL_same, zL_neP, zL_neK, zr_same, zr_ne]; exact a7
      · intro k hk; simp (disch := omega) only [z_same, z_neP, z_neK, zL_same, zL_neP, zL_neK, zr_same, zr_ne]; exact s1 k hk
      · intro k hk; simp (disch := omega) only [z_same, z_neP, z_neK, zL_same, zL_neP, zL_neK, zr_same, zr_ne]; exact s2 k hk
      · intro k hk; simp (disch := omega) only [z_same, z_neP, z_neK, zL_same, zL_neP, zL_neK, zr_same, zr_ne]; exact s3 k hk
      · intro k hk
        simp (disch := omega) only [z_neP, z_if, nu]
        split
        · rfl
        · exact s4 k hk
      · intro k hk
        simp (disch := omega) only [z_neP, z_if, nu]
        split
        · rfl
        · exact s5 k hk
      · intro k hk; simp (disch := omega) only [z_same, z_neP, z_neK, zL_same, zL_neP, zL_neK, zr_same, zr_ne]; exact s6 k hk
      · simp (disch := omega) only [z_same, z_neP, z_neK, zL_same, zL_neP, zL_neK, zr_same, zr_ne]; exact h10
      · simp (disch := omega) only [z_same, z_neP, z_neK, zL_same, zL_neP, zL_neK, zr_same, zr_ne]; exact h11
      · intro w h1 h2; simp (disch := omega) only [z_same, z_neP, z_neK, zL_same, zL_neP, zL_neK, zr_same, zr_ne]; exact hw w h1 h2
      · simp (disch := omega) only [z_same, z_neP, z_neK, zL_same, zL_neP, zL_neK, zr_same, zr_ne]; exact hsd
    · simp only [brS, hl1, ↓reduceIte] at hnext
      have hdv := c_deliver (L := L1) (p := mp i) (e := U.2.2.2.1) (l := 0) hs hS1' b1.1.1 b1.1.2.2 (fun k hk => (b1.2.1 k hk).1) (fun k hk => (b1.2.1 k hk).2.2) hii.1 he (by omega) h10 h11
      simp (disch := omega) only [b_X4_bring_n_21, f_X4_bring_n_107, f_X4_bring_n_108, a4, n4, n5, d4, d5, ue, ↓reduceIte, o_bind, and_true, true_and, and_false, false_and, or_true, true_or, or_false, false_or, not_true, not_false_eq_true, not_false_iff, ne_eq, Nat.reduceAdd, Nat.reduceMul, Nat.reduceSub, Nat.reduceDiv, Nat.reduceMod, Nat.reduceLT, Nat.reduceLeDiff, Nat.reduceEqDiff, Nat.not_lt, Nat.not_le, q_lit, ↓q_m1, q_om, q_on, q_add, q_mul, q_sub, q_div, q_md, q_ltT, q_ltF, q_leT, q_leF, q_eqT, q_eqF, q_inT, q_inF, q_nn, q_mlt, q_ltm, q_mle, q_lem, q_nem, q_mne, z_same, z_neP, z_neK, zL_same, zL_neP, zL_neK, zr_same, zr_ne]
      refine zW_call hdv ?_
      rintro ⟨V2, L2⟩ ⟨q1, q2, q3, q4, q5, q6⟩
      dsimp only at q1 q2 q3 q4 q5 q6 ⊢
      have hz : drL U.2.2.2.2.1 false y = 0 := by simp [drL]
      have hzx : drX false y = y := by simp [drX]
      simp only [hz, hzx, show ¬ (0 : Nat) = 1 by omega, ↓reduceIte] at hnext q2 q3 q4
      exact hnext V2 L2 q1 q2 q3 (by rw [q4, h9]) (fun w h1 h2 => by rw [q5 w h1]; exact hw w h1 h2) (fun w h1 => by rw [q6 w h1]; exact hl w h1) (by rw [q5 22 (by omega)]; exact hsd)
set_option maxHeartbeats 4000000 in
theorem c_bring_s {N : Nat → Nat} {G : zG} {V : zI} {L : zL} {u s x : Nat} {U : aU} {A : aS} (hu : unS N G u) (hs : stS N G s) (hs2 : 6 ≤ s ∧ s + 7 ≤ 20) (hC : UC N G V u U) (hS : SC V s A) (hU : UB U) (hA : SB U A) (hx : x < 2147483648) (hx0 : V 22 0 = qi x) : zW (f_X4_bring_s N G 20 u s 22 V L) (fun r => SC r.1 s (mS (brF U.2.2.2.1 U.2.2.2.2.1 true (A, 0, x, 0, 0, 0) A.2.2.2.2.1).1 (brF U.2.2.2.1 U.2.2.2.2.1 true (A, 0, x, 0, 0, 0) A.2.2.2.2.1).2.1) ∧ r.1 s 10 = qi (brF U.2.2.2.1 U.2.2.2.2.1 true (A, 0, x, 0, 0, 0) A.2.2.2.2.1).2.2.2.1 ∧ r.1 s 11 = qi (brF U.2.2.2.1 U.2.2.2.2.1 true (A, 0, x, 0, 0, 0) A.2.2.2.2.1).2.2.2.2.1 ∧ r.2 s 9 = (brF U.2.2.2.1 U.2.2.2.2.1 true (A, 0, x, 0, 0, 0) A.2.2.2.2.1).2.2.2.2.2 ∧ (∀ w, (w < s ∨ s + 7 ≤ w) → w ≠ 22 → r.1 w = V w) ∧ (∀ w, w ≠ s → r.2 w = L w) ∧ r.1 22 0 = qi (brF U.2.2.2.1 U.2.2.2.2.1 true (A, 0, x, 0, 0, 0) A.2.2.2.2.1).2.2.1) := by
  have hm := SB_m hA
  obtain ⟨⟨g1, g2, g3, g5, g6, g8⟩, n1, n2, n3, n4, n5, n6⟩ := id hs
  have hu1 := hu.1
  have he : U.2.2.2.1 ≤ 3 := hU.1.2.2.1
  have hlo : U.2.2.2.2.1 ≤ 100 := hU.1.2.2.2
  unfold f_X4_bring_s g_X4_bring_s
  simp only [g5, g6, o_bind]
  refine zW_lp (I := fun r q => ∃ (i : Nat) (V1 : zI) (L1 : zL) (X : aX), i ≤ A.2.2.2.2.1 ∧ r = A.2.2.2.2.1 - i ∧ X = brF U.2.2.2.1 U.2.2.2.2.1 true (A, 0, x, 0, 0, 0) i ∧ q = (qi X.2.1, qi i, V1, L1) ∧ SC V1 s X.1 ∧ V1 s 10 = qi X.2.2.2.1 ∧ V1 s 11 = qi X.2.2.2.2.1 ∧ L1 s 9 = X.2.2.2.2.2 ∧ (∀ w, (w < s ∨ s + 7 ≤ w) → w ≠ 22 → V1 w = V w) ∧ (∀ w, w ≠ s → L1 w = L w) ∧ V1 22 0 = qi X.2.2.1) ?_ FU A.2.2.2.2.1 _ ⟨0, _, _, _, by omega, by omega, rfl, rfl, SC_z (SC_z hS (by omega) (by omega) (by omega)) (by omega) (by omega) (by omega), ?_, ?_, ?_, ?_, ?_, ?_⟩ (FU_big (by omega))
  rotate_left
  · simp (disch := omega) only [z_same, z_neP, z_neK, zL_same, zL_neP, zL_neK, zr_same, zr_ne]; rfl
  · simp (disch := omega) only [z_same, z_neP, z_neK, zL_same, zL_neP, zL_neK, zr_same, zr_ne]; rfl
  · simp (disch := omega) only [z_same, z_neP, z_neK, zL_same, zL_neP, zL_neK, zr_same, zr_ne]; rfl
  · intro w h1 h2; simp (disch := omega) only [z_same, z_neP, z_neK, zL_same, zL_neP, zL_neK, zr_same, zr_ne]
  · intro w h1; simp (disch := omega) only [z_same, z_neP, z_neK, zL_same, zL_neP, zL_neK, zr_same, zr_ne]
  · simp (disch := omega) only [z_same, z_neP, z_neK, zL_same, zL_neP, zL_neK, zr_same, zr_ne]; exact hx0
  rintro k r q ⟨i, V1, L1, X, hi, rfl, hX, rfl, hS1, h10, h11, h9, hw, hl, hsd⟩ ih
  obtain ⟨b1, b2, b3, b4, b5, b6, b7, b8⟩ := br_inv (e := U.2.2.2.1) (lo := U.2.2.2.2.1) (dr := true) hU hA hx i hi X hX
  have hnext := fun hi1 : i + 1 ≤ A.2.2.2.2.1 => fun V2 L2 a1 a2 a3 a4 a5 a6 a7 => ih (A.2.2.2.2.1 - (i + 1)) (qi (brS U.2.2.2.1 U.2.2.2.2.1 true i X).2.1, qi (i + 1), V2, L2) (by omega) ⟨i + 1, V2, L2, brS U.2.2.2.1 U.2.2.2.2.1 true i X, hi1, rfl, by rw [hX]; rfl, rfl, a1, a2, a3, a4, a5, a6, a7⟩
  by_cases hend : i = A.2.2.2.2.1
  · subst hend
    rw [← hX]
    obtain ⟨B, st, y, cm, ls, bt⟩ := X
    obtain ⟨day, held, sent, got, m, mp, ml, kn, kc⟩ := B
    dsimp only at b1 b2 b3 b4 b5 b6 b7 b8 hS1 h10 h11 h9 hsd ⊢
    have e4 : V1 s 4 = qi m := hS1.1.2.1
    have : b_X4_bring_s_21 N G 20 u s 22 (s + 4) (s + 5) k (qi st, qi A.2.2.2.2.1, V1, L1) = some (z_uI V1 s 4 (qi st), L1) := by
      simp (disch := omega) only [b_X4_bring_s_21, e4, ↓reduceIte, o_bind, and_true, true_and, and_false, false_and, or_true, true_or, or_false, false_or, not_true, not_false_eq_true, not_false_iff, ne_eq, Nat.reduceAdd, Nat.reduceMul, Nat.reduceSub, Nat.reduceDiv, Nat.reduceMod, Nat.reduceLT, Nat.reduceLeDiff, Nat.reduceEqDiff, Nat.not_lt, Nat.not_le, q_lit, ↓q_m1, q_om, q_on, q_add, q_mul, q_sub, q_div, q_md, q_ltT, q_ltF, q_leT, q_leF, q_eqT, q_eqF, q_inT, q_inF, q_nn, q_mlt, q_ltm, q_mle, q_lem, q_nem, q_mne, z_same, z_neP, z_neK, zL_same, zL_neP, zL_neK, zr_same, zr_ne]
    refine zW_eq this ⟨?_, ?_, ?_, h9, ?_, hl, ?_⟩
    · obtain ⟨⟨a0, a4, a7⟩, s1, s2, s3, s4, s5, s6⟩ := hS1
      refine ⟨⟨?_, ?_, ?_⟩, ?_, ?_, ?_, ?_, ?_, ?_⟩
      · simp (disch := omega) only [z_same, z_neP, z_neK, zL_same, zL_neP, zL_neK, zr_same, zr_ne]; exact a0
      · simp (disch := omega) only [z_same, z_neP, z_neK, zL_same, zL_neP, zL_neK, zr_same, zr_ne]
      · simp (disch := omega) only [z_same, z_neP, z_neK, zL_same, zL_neP, zL_neK, zr_same, zr_ne]; exact a7
      · intro k hk; simp (disch := omega) only [z_same, z_neP, z_neK, zL_same, zL_neP, zL_neK, zr_same, zr_ne]; exact s1 k hk
      · intro k hk; simp (disch := omega) only [z_same, z_neP, z_neK, zL_same, zL_neP, zL_neK, zr_same, zr_ne]; exact s2 k hk
      · intro k hk; simp (disch := omega) only [z_same, z_neP, z_neK, zL_same, zL_neP, zL_neK, zr_same, zr_ne]; exact s3 k hk
      · intro k hk; simp (disch := omega) only [z_same, z_neP, z_neK, zL_same, zL_neP, zL_neK, zr_same, zr_ne]; exact s4 k (by omega)
      · intro k hk; simp (disch := omega) only [z_same, z_neP, z_neK, zL_same, zL_neP, zL_neK, zr_same, zr_ne]; exact s5 k (by omega)
      · intro k hk; simp (disch := omega) only [z_same, z_neP, z_neK, zL_same, zL_neP, zL_neK, zr_same, zr_ne]; exact s6 k hk
    · simp (disch := omega) only [z_same, z_neP, z_neK, zL_same, zL_neP, zL_neK, zr_same, zr_ne]; exact h10
    · simp (disch := omega) only [z_same, z_neP, z_neK, zL_same, zL_neP, zL_neK, zr_same, zr_ne]; exact h11
    · intro w h1 h2; simp (disch := omega) only [z_same, z_neP, z_neK, zL_same, zL_neP, zL_neK, zr_same, zr_ne]; exact hw w h1 h2
    · simp (disch := omega) only [z_same, z_neP, z_neK, zL_same, zL_neP, zL_neK, zr_same, zr_ne]; exact hsd
  · replace hnext := hnext (by omega)
    obtain ⟨B, st, y, cm, ls, bt⟩ := X
    obtain ⟨day, held, sent, got, m, mp, ml, kn, kc⟩ := B
    dsimp only at b1 b2 b3 b4 b5 b6 b7 b8 hS1 h10 h11 h9 hsd hnext ⊢
    have hS1' := hS1
    obtain ⟨⟨a0, a4, a7⟩, s1, s2, s3, s4, s5, s6⟩ := hS1
    have him : i < m := by omega
    have hm60 : m ≤ 60 := by omega
    have hii := b1.2.2.2.1 i him (Or.inr (Nat.le_refl _))
    have hwi := (hU.2.1 (mp i) hii.1).1
    have d4 := s4 i him
    have d5 := s5 i him
    have hli : ml i ≤ 45 := by have := hii.2.2.2; omega
    have hli1 : 1 ≤ ml i := hii.2.2.1
    have ue : V1 u 3 = qi U.2.2.2.1 := by rw [hw u (by omega) (by omega)]; exact hC.1.2.2.1
    have ul : V1 u 4 = qi U.2.2.2.2.1 := by rw [hw u (by omega) (by omega)]; exact hC.1.2.2.2
    by_cases hl1 : 1 < ml i
    · simp only [brS, hl1, ↓reduceIte] at hnext
      simp (disch := omega) only [b_X4_bring_s_21, a4, n4, n5, d4, d5, ↓reduceIte, o_bind, and_true, true_and, and_false, false_and, or_true, true_or, or_false, false_or, not_true, not_false_eq_true, not_false_iff, ne_eq, Nat.reduceAdd, Nat.reduceMul, Nat.reduceSub, Nat.reduceDiv, Nat.reduceMod, Nat.reduceLT, Nat.reduceLeDiff, Nat.reduceEqDiff, Nat.not_lt, Nat.not_le, q_lit, ↓q_m1, q_om, q_on, q_add, q_mul, q_sub, q_div, q_md, q_ltT, q_ltF, q_leT, q_leF, q_eqT, q_eqF, q_inT, q_inF, q_nn, q_mlt, q_ltm, q_mle, q_lem, q_nem, q_mne, z_same, z_neP, z_neK, zL_same, zL_neP, zL_neK, zr_same, zr_ne]
      refine hnext _ _ ⟨⟨?_, ?_, ?_⟩, ?_, ?_, ?_, ?_, ?_, ?_⟩ ?_ ?_ h9 ?_ hl ?_
      · simp (disch := omega) only [z_same, z_neP, z_neK, zL_same, zL_neP, zL_neK, zr_same, zr_ne]; exact a0
      · simp (disch := omega) only [z_same, z_neP, z_neK, zL_same, zL_neP, zL_neK, zr_same, zr_ne]; exact a4
      · simp (disch := omega) only [z_same, z_neP, z_neK, zL_same, zL_neP, zL_neK, zr_same, zr_ne]; exact a7
      · intro k hk; simp (disch := omega) only [z_same, z_neP, z_neK, zL_same, zL_neP, zL_neK, zr_same, zr_ne]; exact s1 k hk
      · intro k hk; simp (disch := omega) only [z_same, z_neP, z_neK, zL_same, zL_neP, zL_neK, zr_same, zr_ne]; exact s2 k hk
      · intro k hk; simp (disch := omega) only [z_same, z_neP, z_neK, zL_same, zL_neP, zL_neK, zr_same, zr_ne]; exact s3 k hk
      · intro k hk
        simp (disch := omega) only [z_neP, z_if, nu]
        split
        · rfl
        · exact s4 k hk
      · intro k hk
        simp (disch := omega) only [z_neP, z_if, nu]
        split
        · rfl
        · exact s5 k hk
      · intro k hk; simp (disch := omega) only [z_same, z_neP, z_neK, zL_same, zL_neP, zL_neK, zr_same, zr_ne]; exact s6 k hk
      · simp (disch := omega) only [z_same, z_neP, z_neK, zL_same, zL_neP, zL_neK, zr_same, zr_ne]; exact h10
      · simp (disch := omega) only [z_same, z_neP, z_neK, zL_same, zL_neP, zL_neK, zr_same, zr_ne]; exact h11
      · intro w h1 h2; simp (disch := omega) only [z_same, z_neP, z_neK, zL_same, zL_neP, zL_neK, zr_same, zr_ne]; exact hw w h1 h2
      · simp (disch := omega) only [z_same, z_neP, z_neK, zL_same, zL_neP, zL_neK, zr_same, zr_ne]; exact hsd
    · simp only [brS, hl1, ↓reduceIte] at hnext
      have hlb := lcg_b y
      have hdd := cc_draw (N := N) (G := G) (L := L1) (p := 22) hsd
      have hSd : SC (z_uI V1 22 0 (qi (lcg y))) s (day, held, sent, got, m, mp, ml, kn, kc) := SC_fr hS1' (fun w h1 h2 => by rw [z_neP]; omega)
      have e10 : z_uI V1 22 0 (qi (lcg y)) s 10 = qi cm := by rw [z_neP (by omega)]; exact h10
      have e11 : z_uI V1 22 0 (qi (lcg y)) s 11 = qi ls := by rw [z_neP (by omega)]; exact h11
      have hdv := fun l hl => c_deliver (L := L1) (p := mp i) (e := U.2.2.2.1) (l := l) hs hSd b1.1.1 b1.1.2.2 (fun k hk => (b1.2.1 k hk).1) (fun k hk => (b1.2.1 k hk).2.2) hii.1 he hl e10 e11
      have ul2 : z_uI V1 22 0 (qi (lcg y)) u 4 = qi U.2.2.2.2.1 := by rw [z_neP (by omega)]; exact ul
      have ue2 : z_uI V1 22 0 (qi (lcg y)) u 3 = qi U.2.2.2.1 := by rw [z_neP (by omega)]; exact ue
      have hzx : drX true y = lcg y := by simp [drX]
      by_cases hlost : lcg y / 64 % 100 < U.2.2.2.2.1
      · have hz : drL U.2.2.2.2.1 true y = 1 := by simp [drL, hlost]
        simp (disch := omega) only [b_X4_bring_s_21, f_X4_bring_s_107, f_X4_bring_s_108, a4, n4, n5, d4, d5, hdd, ul2, ue2, ↓reduceIte, o_bind, and_true, true_and, and_false, false_and, or_true, true_or, or_false, false_or, not_true, not_false_eq_true, not_false_iff, ne_eq, Nat.reduceAdd, Nat.reduceMul, Nat.reduceSub, Nat.reduceDiv, Nat.reduceMod, Nat.reduceLT, Nat.reduceLeDiff, Nat.reduceEqDiff, Nat.not_lt, Nat.not_le, q_lit, ↓q_m1, q_om, q_on, q_add, q_mul, q_sub, q_div, q_md, q_ltT, q_ltF, q_leT, q_leF, q_eqT, q_eqF, q_inT, q_inF, q_nn, q_mlt, q_ltm, q_mle, q_lem, q_nem, q_mne]
        refine zW_call (hdv 1 (by omega)) ?_
        rintro ⟨V2, L2⟩ ⟨q1, q2, q3, q4, q5, q6⟩
        dsimp only at q1 q2 q3 q4 q5 q6 ⊢
        simp only [hz, hzx, ↓reduceIte] at hnext q2 q3 q4
        exact hnext V2 L2 q1 q2 q3 (by rw [q4, h9]) (fun w h1 h2 => by rw [q5 w h1, z_neP h2]; exact hw w h1 h2) (fun w h1 => by rw [q6 w h1]; exact hl w h1) (by rw [q5 22 (by omega), z_same])
      · have hz : drL U.2.2.2.2.1 true y = 0 := by simp [drL, hlost]
        simp (disch := omega) only [b_X4_bring_s_21, f_X4_bring_s_107, f_X4_bring_s_108, a4, n4, n5, d4, d5, hdd, ul2, ue2, ↓reduceIte, o_bind, and_true, true_and, and_false, false_and, or_true, true_or, or_false, false_or, not_true, not_false_eq_true, not_false_iff, ne_eq, Nat.reduceAdd, Nat.reduceMul, Nat.reduceSub, Nat.reduceDiv, Nat.reduceMod, Nat.reduceLT, Nat.reduceLeDiff, Nat.reduceEqDiff, Nat.not_lt, Nat.not_le, q_lit, ↓q_m1, q_om, q_on, q_add, q_mul, q_sub, q_div, q_md, q_ltT, q_ltF, q_leT, q_leF, q_eqT, q_eqF, q_inT, q_inF, q_nn, q_mlt, q_ltm, q_mle, q_lem, q_nem, q_mne]
        refine zW_call (hdv 0 (by omega)) ?_
        rintro ⟨V2, L2⟩ ⟨q1, q2, q3, q4, q5, q6⟩
        dsimp only at q1 q2 q3 q4 q5 q6 ⊢
        simp only [hz, hzx, show ¬ (0 : Nat) = 1 by omega, ↓reduceIte] at hnext q2 q3 q4
        exact hnext V2 L2 q1 q2 q3 (by rw [q4, h9]) (fun w h1 h2 => by rw [q5 w h1, z_neP h2]; exact hw w h1 h2) (fun w h1 => by rw [q6 w h1]; exact hl w h1) (by rw [q5 22 (by omega), z_same])
end
