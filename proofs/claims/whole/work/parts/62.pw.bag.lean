section
variable {n : Nat} {K N : Nat → Nat} {G : zG} {V R : zI} {L M : zL} {u b f0 cnt acts x : Nat} {pl : Nat → Nat} {U : aU} {A : aS} {hi : Nat → aS}
def bagP (tw : Nat) (t : Nat → Nat) (tl : Nat) : Prop := 2 ≤ tl ∧ tl ≤ 32 ∧ tl % 2 = 0 ∧ ∀ k, 2 * k < tl → t (2 * k) < tw
theorem cs_isBag {tl : Nat} {t : Nat → Nat} (hx : fxS N G) (g2 : G 0 2 = some u) (hC : UC N G V u U) (hU : UB U) (htl : tl ≤ 1600) (ht : ∀ k, k < tl → t k < 256 ∧ V 1 k &&& qi 255 = qi (t k)) : zW (f_X10_isBag N G 0 (qi tl) V L) (fun r => (r = qi 1 ∧ bagP U.1 t tl) ∨ (r = qi 0 ∧ ¬ bagP U.1 t tl)) := by
  have n1 : N 1 = 1600 := hx.2.2.2.1
  unfold f_X10_isBag g_X10_isBag
  rw [hx.1.1, g2]
  simp only [o_bind]
  by_cases h1 : tl < 2
  · simp (disch := omega) only [↓reduceIte, o_bind, and_true, true_and, and_false, false_and, or_true, true_or, or_false, false_or, not_true, not_false_eq_true, not_false_iff, ne_eq, Nat.reduceAdd, Nat.reduceMul, Nat.reduceSub, Nat.reduceDiv, Nat.reduceMod, Nat.reduceLT, Nat.reduceLeDiff, Nat.reduceEqDiff, Nat.not_lt, Nat.not_le, q_lit, ↓q_m1, q_om, q_on, q_add, q_mul, q_sub, q_div, q_md, q_ltT, q_ltF, q_leT, q_leF, q_eqT, q_eqF, q_inT, q_inF, q_nn, q_mlt, q_ltm, q_mle, q_lem, q_nem, q_mne]
    exact zW_some (Or.inr ⟨rfl, fun h => by have := h.1; omega⟩)
  by_cases h2 : 32 < tl
  · simp (disch := omega) only [↓reduceIte, o_bind, and_true, true_and, and_false, false_and, or_true, true_or, or_false, false_or, not_true, not_false_eq_true, not_false_iff, ne_eq, Nat.reduceAdd, Nat.reduceMul, Nat.reduceSub, Nat.reduceDiv, Nat.reduceMod, Nat.reduceLT, Nat.reduceLeDiff, Nat.reduceEqDiff, Nat.not_lt, Nat.not_le, q_lit, ↓q_m1, q_om, q_on, q_add, q_mul, q_sub, q_div, q_md, q_ltT, q_ltF, q_leT, q_leF, q_eqT, q_eqF, q_inT, q_inF, q_nn, q_mlt, q_ltm, q_mle, q_lem, q_nem, q_mne]
    exact zW_some (Or.inr ⟨rfl, fun h => by have := h.2.1; omega⟩)
  by_cases h3 : tl % 2 = 0
  · simp (disch := omega) only [h3, ↓reduceIte, o_bind, and_true, true_and, and_false, false_and, or_true, true_or, or_false, false_or, not_true, not_false_eq_true, not_false_iff, ne_eq, Nat.reduceAdd, Nat.reduceMul, Nat.reduceSub, Nat.reduceDiv, Nat.reduceMod, Nat.reduceLT, Nat.reduceLeDiff, Nat.reduceEqDiff, Nat.not_lt, Nat.not_le, q_lit, ↓q_m1, q_om, q_on, q_add, q_mul, q_sub, q_div, q_md, q_ltT, q_ltF, q_leT, q_leF, q_eqT, q_eqF, q_inT, q_inF, q_nn, q_mlt, q_ltm, q_mle, q_lem, q_nem, q_mne]
    refine zW_lp (I := fun r q => ∃ i : Nat, 2 * i ≤ tl ∧ r = tl - 2 * i ∧ q = (qi tl, qi (2 * i)) ∧ ∀ k, k < i → t (2 * k) < U.1) ?_ FU tl _ ⟨0, by omega, by omega, rfl, fun k hk => absurd hk (by omega)⟩ (FU_big (by omega))
    rintro k r q ⟨i, hi, rfl, rfl, hk⟩ ih
    by_cases hend : 2 * i = tl
    · simp (disch := omega) only [b_X10_isBag_21, hend, Nat.le_refl, ↓reduceIte, o_bind, and_true, true_and, and_false, false_and, or_true, true_or, or_false, false_or, not_true, not_false_eq_true, not_false_iff, ne_eq, Nat.reduceAdd, Nat.reduceMul, Nat.reduceSub, Nat.reduceDiv, Nat.reduceMod, Nat.reduceLT, Nat.reduceLeDiff, Nat.reduceEqDiff, Nat.not_lt, Nat.not_le, q_lit, ↓q_m1, q_om, q_on, q_add, q_mul, q_sub, q_div, q_md, q_ltT, q_ltF, q_leT, q_leF, q_eqT, q_eqF, q_inT, q_inF, q_nn, q_mlt, q_ltm, q_mle, q_lem, q_nem, q_mne]
      exact zW_some (Or.inl ⟨rfl, by omega, by omega, h3, fun k hk' => hk k (by omega)⟩)
    · obtain ⟨q1, q2⟩ := ht (2 * i) (by omega)
      have hit := f_X9_isTown_e (L := L) hC hU (x := t (2 * i)) (by omega)
      by_cases hc : t (2 * i) < U.1
      · simp (disch := omega) only [b_X10_isBag_21, n1, q2, hit, hc, ↓reduceIte, o_bind, and_true, true_and, and_false, false_and, or_true, true_or, or_false, false_or, not_true, not_false_eq_true, not_false_iff, ne_eq, Nat.reduceAdd, Nat.reduceMul, Nat.reduceSub, Nat.reduceDiv, Nat.reduceMod, Nat.reduceLT, Nat.reduceLeDiff, Nat.reduceEqDiff, Nat.not_lt, Nat.not_le, q_lit, ↓q_m1, q_om, q_on, q_add, q_mul, q_sub, q_div, q_md, q_ltT, q_ltF, q_leT, q_leF, q_eqT, q_eqF, q_inT, q_inF, q_nn, q_mlt, q_ltm, q_mle, q_lem, q_nem, q_mne]
        refine ih (tl - 2 * (i + 1)) _ (by omega) ⟨i + 1, by omega, rfl, rfl, fun k hk' => ?_⟩
        by_cases hki : k = i
        · subst hki; exact hc
        · exact hk k (by omega)
      · simp (disch := omega) only [b_X10_isBag_21, n1, q2, hit, hc, ↓reduceIte, o_bind, and_true, true_and, and_false, false_and, or_true, true_or, or_false, false_or, not_true, not_false_eq_true, not_false_iff, ne_eq, Nat.reduceAdd, Nat.reduceMul, Nat.reduceSub, Nat.reduceDiv, Nat.reduceMod, Nat.reduceLT, Nat.reduceLeDiff, Nat.reduceEqDiff, Nat.not_lt, Nat.not_le, q_lit, ↓q_m1, q_om, q_on, q_add, q_mul, q_sub, q_div, q_md, q_ltT, q_ltF, q_leT, q_leF, q_eqT, q_eqF, q_inT, q_inF, q_nn, q_mlt, q_ltm, q_mle, q_lem, q_nem, q_mne]
        exact zW_some (Or.inr ⟨rfl, fun h => hc (h.2.2.2 i (by omega))⟩)
  · simp (disch := omega) only [h3, ↓reduceIte, o_bind, and_true, true_and, and_false, false_and, or_true, true_or, or_false, false_or, not_true, not_false_eq_true, not_false_iff, ne_eq, Nat.reduceAdd, Nat.reduceMul, Nat.reduceSub, Nat.reduceDiv, Nat.reduceMod, Nat.reduceLT, Nat.reduceLeDiff, Nat.reduceEqDiff, Nat.not_lt, Nat.not_le, q_lit, ↓q_m1, q_om, q_on, q_add, q_mul, q_sub, q_div, q_md, q_ltT, q_ltF, q_leT, q_leF, q_eqT, q_eqF, q_inT, q_inF, q_nn, q_mlt, q_ltm, q_mle, q_lem, q_nem, q_mne]
    exact zW_some (Or.inr ⟨rfl, fun h => h3 h.2.2.1⟩)
theorem r_bagK {tl : Nat} {t : Nat → Nat} {P : Int32 × zI × zL → Prop} (hR : UR R M b U) (hU : UB U) (e1 : R 0 1 = qi tl) (htl : tl ≤ 1600) (ht : ∀ k, k < tl → t k < 256 ∧ R 1 k = qi (t k)) (hno : ¬ bagP U.1 t tl → zW ((f_refuses (qi 5) (z_uI R 0 1 (qi 0)) M).bind fun r1 => some (r1.1, r1.2.1, r1.2.2)) P) (hyes : bagP U.1 t tl → zW (zfix b_bag_79 FU (qi 0, z_uI (z_uI R 0 1 (qi 0)) 0 60 (qi (tl / 2)), M)) P) : zW (f_bag R M) P := by
  have hR1 : UR (z_uI R 0 1 (qi 0)) M b U := UR_fr hR (z_neK (by omega)) (fun w w1 w2 w3 w4 => z_neP (by omega)) rfl
  have n30 : ¬ bagP U.1 t tl → zW (f_bag_30 (qi tl) (z_uI R 0 1 (qi 0)) M) P := by
    intro hn
    have h := hno hn
    unfold f_bag_30 f_bag_31
    rw [show FU = 9999999 + 1 from rfl, z_fix1]
    by_cases h0 : tl = 0
    · simp (disch := omega) only [b_bag_34, f_bag_60, h0, Nat.le_refl, ↓reduceIte, o_bind, and_true, true_and, and_false, false_and, or_true, true_or, or_false, false_or, not_true, not_false_eq_true, not_false_iff, ne_eq, Nat.reduceAdd, Nat.reduceMul, Nat.reduceSub, Nat.reduceDiv, Nat.reduceMod, Nat.reduceLT, Nat.reduceLeDiff, Nat.reduceEqDiff, Nat.not_lt, Nat.not_le, q_lit, ↓q_m1, q_om, q_on, q_add, q_mul, q_sub, q_div, q_md, q_ltT, q_ltF, q_leT, q_leF, q_eqT, q_eqF, q_inT, q_inF, q_nn, q_mlt, q_ltm, q_mle, q_lem, q_nem, q_mne]
      exact h
    · simp (disch := omega) only [b_bag_34, f_bag_60, ↓reduceIte, o_bind, and_true, true_and, and_false, false_and, or_true, true_or, or_false, false_or, not_true, not_false_eq_true, not_false_iff, ne_eq, Nat.reduceAdd, Nat.reduceMul, Nat.reduceSub, Nat.reduceDiv, Nat.reduceMod, Nat.reduceLT, Nat.reduceLeDiff, Nat.reduceEqDiff, Nat.not_lt, Nat.not_le, q_lit, ↓q_m1, q_om, q_on, q_add, q_mul, q_sub, q_div, q_md, q_ltT, q_ltF, q_leT, q_leF, q_eqT, q_eqF, q_inT, q_inF, q_nn, q_mlt, q_ltm, q_mle, q_lem, q_nem, q_mne]
      exact h
  unfold f_bag
  by_cases h0 : tl = 0
  · have hn : ¬ bagP U.1 t tl := fun h => by have := h.1; omega
    have g := n30 hn
    simp (disch := omega) only [e1, h0, Nat.le_refl, ↓reduceIte, o_bind, and_true, true_and, and_false, false_and, or_true, true_or, or_false, false_or, not_true, not_false_eq_true, not_false_iff, ne_eq, Nat.reduceAdd, Nat.reduceMul, Nat.reduceSub, Nat.reduceDiv, Nat.reduceMod, Nat.reduceLT, Nat.reduceLeDiff, Nat.reduceEqDiff, Nat.not_lt, Nat.not_le, q_lit, ↓q_m1, q_om, q_on, q_add, q_mul, q_sub, q_div, q_md, q_ltT, q_ltF, q_leT, q_leF, q_eqT, q_eqF, q_inT, q_inF, q_nn, q_mlt, q_ltm, q_mle, q_lem, q_nem, q_mne] at g ⊢
    exact g
  by_cases h2 : tl % 2 = 0
  · by_cases h3 : 32 < tl
    · have g := n30 (fun h => by have := h.2.1; omega)
      simp (disch := omega) only [e1, h2, ↓reduceIte, o_bind, and_true, true_and, and_false, false_and, or_true, true_or, or_false, false_or, not_true, not_false_eq_true, not_false_iff, ne_eq, Nat.reduceAdd, Nat.reduceMul, Nat.reduceSub, Nat.reduceDiv, Nat.reduceMod, Nat.reduceLT, Nat.reduceLeDiff, Nat.reduceEqDiff, Nat.not_lt, Nat.not_le, q_lit, ↓q_m1, q_om, q_on, q_add, q_mul, q_sub, q_div, q_md, q_ltT, q_ltF, q_leT, q_leF, q_eqT, q_eqF, q_inT, q_inF, q_nn, q_mlt, q_ltm, q_mle, q_lem, q_nem, q_mne]
      exact g
    · simp (disch := omega) only [e1, h2, f_bag_31, ↓reduceIte, o_bind, and_true, true_and, and_false, false_and, or_true, true_or, or_false, false_or, not_true, not_false_eq_true, not_false_iff, ne_eq, Nat.reduceAdd, Nat.reduceMul, Nat.reduceSub, Nat.reduceDiv, Nat.reduceMod, Nat.reduceLT, Nat.reduceLeDiff, Nat.reduceEqDiff, Nat.not_lt, Nat.not_le, q_lit, ↓q_m1, q_om, q_on, q_add, q_mul, q_sub, q_div, q_md, q_ltT, q_ltF, q_leT, q_leF, q_eqT, q_eqF, q_inT, q_inF, q_nn, q_mlt, q_ltm, q_mle, q_lem, q_nem, q_mne]
      refine zW_lp (I := fun r q => ∃ (i c : Nat), 2 * i ≤ tl ∧ r = tl - 2 * i ∧ c < 2 ∧ q = (qi tl, qi c, qi (2 * i), z_uI R 0 1 (qi 0), M) ∧ (c = 1 → ∀ k, k < i → t (2 * k) < U.1) ∧ (c = 0 → ¬ bagP U.1 t tl)) ?_ FU tl _ ⟨0, 1, by omega, by omega, by omega, rfl, fun _ k hk => absurd hk (by omega), fun h => absurd h (by omega)⟩ (FU_big (by omega))
      rintro k r q ⟨i, c, hi, rfl, hc2, rfl, hk1, hk0⟩ ih
      have end0 : c = 0 → zW (f_bag_60 (qi tl) (qi c) (z_uI R 0 1 (qi 0)) M) P := by
        intro hc0
        have g := hno (hk0 hc0)
        simp (disch := omega) only [f_bag_60, hc0, ↓reduceIte, o_bind, and_true, true_and, and_false, false_and, or_true, true_or, or_false, false_or, not_true, not_false_eq_true, not_false_iff, ne_eq, Nat.reduceAdd, Nat.reduceMul, Nat.reduceSub, Nat.reduceDiv, Nat.reduceMod, Nat.reduceLT, Nat.reduceLeDiff, Nat.reduceEqDiff, Nat.not_lt, Nat.not_le, q_lit, ↓q_m1, q_om, q_on, q_add, q_mul, q_sub, q_div, q_md, q_ltT, q_ltF, q_leT, q_leF, q_eqT, q_eqF, q_inT, q_inF, q_nn, q_mlt, q_ltm, q_mle, q_lem, q_nem, q_mne]
        exact g
      by_cases hend : 2 * i = tl
      · by_cases hc0 : c = 0
        · have g := end0 hc0
          simp (disch := omega) only [b_bag_34, hend, Nat.le_refl, ↓reduceIte, o_bind, and_true, true_and, and_false, false_and, or_true, true_or, or_false, false_or, not_true, not_false_eq_true, not_false_iff, ne_eq, Nat.reduceAdd, Nat.reduceMul, Nat.reduceSub, Nat.reduceDiv, Nat.reduceMod, Nat.reduceLT, Nat.reduceLeDiff, Nat.reduceEqDiff, Nat.not_lt, Nat.not_le, q_lit, ↓q_m1, q_om, q_on, q_add, q_mul, q_sub, q_div, q_md, q_ltT, q_ltF, q_leT, q_leF, q_eqT, q_eqF, q_inT, q_inF, q_nn, q_mlt, q_ltm, q_mle, q_lem, q_nem, q_mne]
          exact g
        · obtain rfl : c = 1 := by omega
          have g := hyes ⟨by omega, by omega, h2, fun k hk' => hk1 rfl k (by omega)⟩
          simp (disch := omega) only [b_bag_34, f_bag_60, hend, Nat.le_refl, ↓reduceIte, o_bind, and_true, true_and, and_false, false_and, or_true, true_or, or_false, false_or, not_true, not_false_eq_true, not_false_iff, ne_eq, Nat.reduceAdd, Nat.reduceMul, Nat.reduceSub, Nat.reduceDiv, Nat.reduceMod, Nat.reduceLT, Nat.reduceLeDiff, Nat.reduceEqDiff, Nat.not_lt, Nat.not_le, q_lit, ↓q_m1, q_om, q_on, q_add, q_mul, q_sub, q_div, q_md, q_ltT, q_ltF, q_leT, q_leF, q_eqT, q_eqF, q_inT, q_inF, q_nn, q_mlt, q_ltm, q_mle, q_lem, q_nem, q_mne]
          exact g
      · by_cases hc0 : c = 0
        · have g := end0 hc0
          subst hc0
          simp (disch := omega) only [b_bag_34, ↓reduceIte, o_bind, and_true, true_and, and_false, false_and, or_true, true_or, or_false, false_or, not_true, not_false_eq_true, not_false_iff, ne_eq, Nat.reduceAdd, Nat.reduceMul, Nat.reduceSub, Nat.reduceDiv, Nat.reduceMod, Nat.reduceLT, Nat.reduceLeDiff, Nat.reduceEqDiff, Nat.not_lt, Nat.not_le, q_lit, ↓q_m1, q_om, q_on, q_add, q_mul, q_sub, q_div, q_md, q_ltT, q_ltF, q_leT, q_leF, q_eqT, q_eqF, q_inT, q_inF, q_nn, q_mlt, q_ltm, q_mle, q_lem, q_nem, q_mne]
          exact g
        · obtain rfl : c = 1 := by omega
          obtain ⟨q1, q2⟩ := ht (2 * i) (by omega)
          have hit := f_isTown_e hR1 hU (x := t (2 * i)) (by omega)
          have q3 : z_uI R 0 1 (qi 0) 1 (2 * i) = qi (t (2 * i)) := by rw [z_neP (by omega)]; exact q2
          by_cases hc : t (2 * i) < U.1
          · simp (disch := omega) only [b_bag_34, q3, hit, hc, ↓reduceIte, o_bind, and_true, true_and, and_false, false_and, or_true, true_or, or_false, false_or, not_true, not_false_eq_true, not_false_iff, ne_eq, Nat.reduceAdd, Nat.reduceMul, Nat.reduceSub, Nat.reduceDiv, Nat.reduceMod, Nat.reduceLT, Nat.reduceLeDiff, Nat.reduceEqDiff, Nat.not_lt, Nat.not_le, q_lit, ↓q_m1, q_om, q_on, q_add, q_mul, q_sub, q_div, q_md, q_ltT, q_ltF, q_leT, q_leF, q_eqT, q_eqF, q_inT, q_inF, q_nn, q_mlt, q_ltm, q_mle, q_lem, q_nem, q_mne]
            refine ih (tl - 2 * (i + 1)) _ (by omega) ⟨i + 1, 1, by omega, rfl, by omega, rfl, fun _ k hk' => ?_, fun h => absurd h (by omega)⟩
            by_cases hki : k = i
            · subst hki; exact hc
            · exact hk1 rfl k (by omega)
          · simp (disch := omega) only [b_bag_34, q3, hit, hc, ↓reduceIte, o_bind, and_true, true_and, and_false, false_and, or_true, true_or, or_false, false_or, not_true, not_false_eq_true, not_false_iff, ne_eq, Nat.reduceAdd, Nat.reduceMul, Nat.reduceSub, Nat.reduceDiv, Nat.reduceMod, Nat.reduceLT, Nat.reduceLeDiff, Nat.reduceEqDiff, Nat.not_lt, Nat.not_le, q_lit, ↓q_m1, q_om, q_on, q_add, q_mul, q_sub, q_div, q_md, q_ltT, q_ltF, q_leT, q_leF, q_eqT, q_eqF, q_inT, q_inF, q_nn, q_mlt, q_ltm, q_mle, q_lem, q_nem, q_mne]
            exact ih (tl - 2 * (i + 1)) _ (by omega) ⟨i + 1, 0, by omega, rfl, by omega, rfl, fun h => absurd h (by omega), fun _ h => hc (h.2.2.2 i (by omega))⟩
  · have g := n30 (fun h => h2 h.2.2.1)
    simp (disch := omega) only [e1, h2, ↓reduceIte, o_bind, and_true, true_and, and_false, false_and, or_true, true_or, or_false, false_or, not_true, not_false_eq_true, not_false_iff, ne_eq, Nat.reduceAdd, Nat.reduceMul, Nat.reduceSub, Nat.reduceDiv, Nat.reduceMod, Nat.reduceLT, Nat.reduceLeDiff, Nat.reduceEqDiff, Nat.not_lt, Nat.not_le, q_lit, ↓q_m1, q_om, q_on, q_add, q_mul, q_sub, q_div, q_md, q_ltT, q_ltF, q_leT, q_leF, q_eqT, q_eqF, q_inT, q_inF, q_nn, q_mlt, q_ltm, q_mle, q_lem, q_nem, q_mne]
    exact g
theorem c_bagL {br : Nat} {t : Nat → Nat} (hx : fxS N G) (hbr : br ≤ 16) (e13 : V 0 13 = qi br) (ht : ∀ k, k < 2 * br → t k < 256 ∧ V 1 k &&& qi 255 = qi (t k)) : zW (zfix (b_X10_bag_33 N G 0 1 24 25) FU (qi 0, V, L)) (fun r => r.1 = qi br ∧ (∀ k, k < br → r.2.1 24 k = qi (t (2 * k)) ∧ r.2.1 25 k = qi (t (2 * k + 1))) ∧ ∀ w, w ≠ 24 → w ≠ 25 → r.2.1 w = V w) := by
  have n1 : N 1 = 1600 := hx.2.2.2.1
  have n24 : N 24 = 16 := hx.2.2.2.2.2.2.1
  have n25 : N 25 = 16 := hx.2.2.2.2.2.2.2.1
  refine zW_lp (I := fun r q => ∃ (i : Nat) (V1 : zI), i ≤ br ∧ r = br - i ∧ q = (qi i, V1, L) ∧ (∀ k, k < i → V1 24 k = qi (t (2 * k)) ∧ V1 25 k = qi (t (2 * k + 1))) ∧ ∀ w, w ≠ 24 → w ≠ 25 → V1 w = V w) ?_ FU br _ ⟨0, V, by omega, by omega, rfl, fun k hk => absurd hk (by omega), fun _ _ _ => rfl⟩ (FU_big (by omega))
  rintro k r q ⟨i, V1, hi, rfl, rfl, hk, hw⟩ ih
  have e13' : V1 0 13 = qi br := by rw [hw 0 (by omega) (by omega)]; exact e13
  by_cases hend : i = br
  · subst hend
    simp (disch := omega) only [b_X10_bag_33, e13', Nat.le_refl, ↓reduceIte, o_bind, and_true, true_and, and_false, false_and, or_true, true_or, or_false, false_or, not_true, not_false_eq_true, not_false_iff, ne_eq, Nat.reduceAdd, Nat.reduceMul, Nat.reduceSub, Nat.reduceDiv, Nat.reduceMod, Nat.reduceLT, Nat.reduceLeDiff, Nat.reduceEqDiff, Nat.not_lt, Nat.not_le, q_lit, ↓q_m1, q_om, q_on, q_add, q_mul, q_sub, q_div, q_md, q_ltT, q_ltF, q_leT, q_leF, q_eqT, q_eqF, q_inT, q_inF, q_nn, q_mlt, q_ltm, q_mle, q_lem, q_nem, q_mne]
    exact zW_some ⟨rfl, hk, hw⟩
  · have d1 : V1 1 (2 * i) &&& qi 255 = qi (t (2 * i)) := by rw [hw 1 (by omega) (by omega)]; exact (ht (2 * i) (by omega)).2
    have d2 : V1 1 (2 * i + 1) &&& qi 255 = qi (t (2 * i + 1)) := by rw [hw 1 (by omega) (by omega)]; exact (ht (2 * i + 1) (by omega)).2
    simp (disch := omega) only [b_X10_bag_33, e13', n1, n24, n25, d1, d2, ↓reduceIte, o_bind, and_true, true_and, and_false, false_and, or_true, true_or, or_false, false_or, not_true, not_false_eq_true, not_false_iff, ne_eq, Nat.reduceAdd, Nat.reduceMul, Nat.reduceSub, Nat.reduceDiv, Nat.reduceMod, Nat.reduceLT, Nat.reduceLeDiff, Nat.reduceEqDiff, Nat.not_lt, Nat.not_le, q_lit, ↓q_m1, q_om, q_on, q_add, q_mul, q_sub, q_div, q_md, q_ltT, q_ltF, q_leT, q_leF, q_eqT, q_eqF, q_inT, q_inF, q_nn, q_mlt, q_ltm, q_mle, q_lem, q_nem, q_mne, z_same, z_neP, z_neK, zL_same, zL_neP, zL_neK, zr_same, zr_ne]
    refine ih (br - (i + 1)) _ (by omega) ⟨i + 1, _, by omega, rfl, rfl, fun k hk' => ?_, fun w w1 w2 => by rw [z_neP w2, z_neP w1]; exact hw w w1 w2⟩
    by_cases hki : k = i
    · subst hki
      exact ⟨by rw [z_neP (by omega), z_same], z_same⟩
    · rw [z_neP (by omega), z_neK hki, z_neK hki, z_neP (by omega)]
      exact hk k (by omega)
theorem r_bagL {br : Nat} {t : Nat → Nat} (hbr : br ≤ 16) (e60 : R 0 60 = qi br) (ht : ∀ k, k < 2 * br → t k < 256 ∧ R 1 k = qi (t k)) : zW (zfix b_bag_79 FU (qi 0, R, M)) (fun r => r.1 = qi br ∧ (∀ k, k < br → r.2.1 33 k = qi (t (2 * k)) ∧ r.2.1 34 k = qi (t (2 * k + 1))) ∧ (∀ w, w ≠ 33 → w ≠ 34 → r.2.1 w = R w) ∧ r.2.2 = M) := by
  refine zW_lp (I := fun r q => ∃ (i : Nat) (V1 : zI), i ≤ br ∧ r = br - i ∧ q = (qi i, V1, M) ∧ (∀ k, k < i → V1 33 k = qi (t (2 * k)) ∧ V1 34 k = qi (t (2 * k + 1))) ∧ ∀ w, w ≠ 33 → w ≠ 34 → V1 w = R w) ?_ FU br _ ⟨0, R, by omega, by omega, rfl, fun k hk => absurd hk (by omega), fun _ _ _ => rfl⟩ (FU_big (by omega))
  rintro k r q ⟨i, V1, hi, rfl, rfl, hk, hw⟩ ih
  have e60' : V1 0 60 = qi br := by rw [hw 0 (by omega) (by omega)]; exact e60
  by_cases hend : i = br
  · subst hend
    simp (disch := omega) only [b_bag_79, e60', Nat.le_refl, ↓reduceIte, o_bind, and_true, true_and, and_false, false_and, or_true, true_or, or_false, false_or, not_true, not_false_eq_true, not_false_iff, ne_eq, Nat.reduceAdd, Nat.reduceMul, Nat.reduceSub, Nat.reduceDiv, Nat.reduceMod, Nat.reduceLT, Nat.reduceLeDiff, Nat.reduceEqDiff, Nat.not_lt, Nat.not_le, q_lit, ↓q_m1, q_om, q_on, q_add, q_mul, q_sub, q_div, q_md, q_ltT, q_ltF, q_leT, q_leF, q_eqT, q_eqF, q_inT, q_inF, q_nn, q_mlt, q_ltm, q_mle, q_lem, q_nem, q_mne]
    exact zW_some ⟨rfl, hk, hw, rfl⟩
  · have d1 : V1 1 (2 * i) = qi (t (2 * i)) := by rw [hw 1 (by omega) (by omega)]; exact (ht (2 * i) (by omega)).2
    have d2 : V1 1 (2 * i + 1) = qi (t (2 * i + 1)) := by rw [hw 1 (by omega) (by omega)]; exact (ht (2 * i + 1) (by omega)).2
    simp (disch := omega) only [b_bag_79, e60', d1, d2, ↓reduceIte, o_bind, and_true, true_and, and_false, false_and, or_true, true_or, or_false, false_or, not_true, not_false_eq_true, not_false_iff, ne_eq, Nat.reduceAdd, Nat.reduceMul, Nat.reduceSub, Nat.reduceDiv, Nat.reduceMod, Nat.reduceLT, Nat.reduceLeDiff, Nat.reduceEqDiff, Nat.not_lt, Nat.not_le, q_lit, ↓q_m1, q_om, q_on, q_add, q_mul, q_sub, q_div, q_md, q_ltT, q_ltF, q_leT, q_leF, q_eqT, q_eqF, q_inT, q_inF, q_nn, q_mlt, q_ltm, q_mle, q_lem, q_nem, q_mne, z_same, z_neP, z_neK, zL_same, zL_neP, zL_neK, zr_same, zr_ne]
    refine ih (br - (i + 1)) _ (by omega) ⟨i + 1, _, by omega, rfl, rfl, fun k hk' => ?_, fun w w1 w2 => by rw [z_neP w2, z_neP w1]; exact hw w w1 w2⟩
    by_cases hki : k = i
    · subst hki
      exact ⟨by rw [z_neP (by omega), z_same], z_same⟩
    · rw [z_neP (by omega), z_neK hki, z_neK hki, z_neP (by omega)]
      exact hk k (by omega)
theorem Jt_t {a : Int32} {ca rb : Nat → Int32} {c : Int32} (h : Jt a ca c rb) : ∃ (tl : Nat) (t : Nat → Nat), tl ≤ 1600 ∧ a = qi tl ∧ c = qi tl ∧ ∀ k, k < tl → t k < 256 ∧ ca k &&& qi 255 = qi (t k) ∧ rb k = qi (t k) := by
  obtain ⟨tl, h1, h2, h3, h4⟩ := h
  refine ⟨tl, fun k => (rb k).toNatClampNeg, h1, h2, h3, fun k hk => ?_⟩
  obtain ⟨g1, v, g2, g3⟩ := h4 k hk
  have e : (rb k).toNatClampNeg = v := by rw [g3, q_nn (by omega)]
  dsimp only
  rw [e]
  exact ⟨g2, by rw [← g3]; exact g1, g3⟩
theorem JJ_tp0 (h : JJ n K N G V R M u b f0 cnt acts x pl U A hi) : JJ n K N G (z_uI V 0 1 (qi 0)) (z_uI R 0 1 (qi 0)) M u b f0 cnt acts x pl U A hi := by
  refine JJ_tape h ?_ (fun w w1 _ => ⟨z_neP w1, z_neP w1⟩) (fun j j1 => ⟨z_neK j1, z_neK j1⟩)
  rw [z_same, z_same]
  exact ⟨0, by omega, rfl, rfl, fun k hk => absurd hk (by omega)⟩
theorem m_bag (h : JP n K N G V R M) : zX (f_X10_bag N G 0 V L) (f_bag R M) (fun r r' => r.1 = r'.1 ∧ JP n K N G r.2.1 r'.2.1 r'.2.2) := by
  obtain ⟨u, b, f0, cnt, acts, x, pl, U, A, hi, h⟩ := h
  obtain ⟨⟨hn, -, hx, g2, hu, -⟩, -⟩ := id h.1
  obtain ⟨⟨g1, gs, gr, gt⟩, ⟨hU, hA⟩, -⟩ := id h.2.1
  obtain ⟨tl, t, t1, t2, t3, t4⟩ := Jt_t h.2.2.1
  have h0 := JJ_tp0 h
  have G11 : G 0 11 = some 24 := hx.1.2.2.2.2.2.2.1
  have G12 : G 0 12 = some 25 := hx.1.2.2.2.2.2.2.2.1
  unfold f_X10_bag g_X10_bag
  rw [hx.1.1, G11, G12, t2]
  simp only [o_bind, q_lit]
  refine zX_callL (cs_isBag (L := L) (t := t) hx g2 h0.2.1.1.1 hU t1 (fun k hk => ⟨(t4 k hk).1, by rw [z_neP (by omega)]; exact (t4 k hk).2.1⟩)) ?_
  intro y hy
  refine zX_W ?_
  rcases hy with ⟨rfl, hb⟩ | ⟨rfl, hb⟩
  · have hbr : tl / 2 ≤ 16 := by have := hb.2.1; omega
    have hev : 2 * (tl / 2) = tl := by have := hb.2.2.1; omega
    simp (disch := omega) only [↓reduceIte, o_bind, and_true, true_and, and_false, false_and, or_true, true_or, or_false, false_or, not_true, not_false_eq_true, not_false_iff, ne_eq, Nat.reduceAdd, Nat.reduceMul, Nat.reduceSub, Nat.reduceDiv, Nat.reduceMod, Nat.reduceLT, Nat.reduceLeDiff, Nat.reduceEqDiff, Nat.not_lt, Nat.not_le, q_lit, ↓q_m1, q_om, q_on, q_add, q_mul, q_sub, q_div, q_md, q_ltT, q_ltF, q_leT, q_leF, q_eqT, q_eqF, q_inT, q_inF, q_nn, q_mlt, q_ltm, q_mle, q_lem, q_nem, q_mne]
    refine zW_mono (c_bagL (L := L) (t := t) hx hbr z_same (fun k hk => ⟨(t4 k (by omega)).1, by rw [z_neP (by omega), z_neP (by omega)]; exact (t4 k (by omega)).2.1⟩)) ?_
    rintro ⟨y, V1, L1⟩ ⟨p1, p2, p3⟩
    refine r_bagK (t := t) gr hU t3 t1 (fun k hk => ⟨(t4 k hk).1, (t4 k hk).2.2⟩) (fun hn => absurd hb hn) (fun _ => ?_)
    refine zW_mono (r_bagL (M := M) (t := t) hbr z_same (fun k hk => ⟨(t4 k (by omega)).1, by rw [z_neP (by omega), z_neP (by omega)]; exact (t4 k (by omega)).2.2⟩)) ?_
    rintro ⟨y', R1, M1⟩ ⟨q1, q2, q3, q4⟩
    dsimp only at p1 p2 p3 q1 q2 q3 q4 ⊢
    subst q4
    refine ⟨p1.trans q1.symm, u, b, f0, cnt, acts, x, pl, U, A, hi, ?_⟩
    obtain ⟨h1, h2, h3, h4, h5, h6, h7, h8, h9⟩ := h0
    have pv : ∀ w, w ≠ 0 → w ≠ 24 → w ≠ 25 → V1 w = z_uI V 0 1 (qi 0) w := fun w w0 w1 w2 => by rw [p3 w w1 w2, z_neP w0]
    have pj : ∀ j, j ≠ 13 → V1 0 j = z_uI V 0 1 (qi 0) 0 j := fun j j1 => by rw [p3 0 (by omega) (by omega), z_neK j1]
    have qv : ∀ w, w ≠ 0 → w ≠ 33 → w ≠ 34 → R1 w = z_uI R 0 1 (qi 0) w := fun w w0 w1 w2 => by rw [q3 w w1 w2, z_neP w0]
    have qj : ∀ j, j ≠ 60 → R1 0 j = z_uI R 0 1 (qi 0) 0 j := fun j j1 => by rw [q3 0 (by omega) (by omega), z_neK j1]
    refine ⟨h1, JB_fr h1 h9.1 h2 (fun w w1 => pv w (by omega) (by omega) (by omega)) (fun w w1 => qv w (by omega) (by omega) (by omega)) (qj 13 (by omega)) rfl, ?_, ?_, ?_, ?_, ?_, ?_, ?_⟩
    · rw [pj 1 (by omega), pv 1 (by omega) (by omega) (by omega), qj 1 (by omega), qv 1 (by omega) (by omega) (by omega)]; exact h3
    · rw [pj 3 (by omega), pj 4 (by omega), qj 10 (by omega), qj 11 (by omega)]; exact h4
    · rw [pv 27 (by omega) (by omega) (by omega), qv 19 (by omega) (by omega) (by omega)]; exact h5
    · rw [p3 0 (by omega) (by omega), z_same, q3 0 (by omega) (by omega), z_same]
      exact ⟨tl / 2, hbr, rfl, rfl, fun k hk => ⟨⟨t (2 * k), hb.2.2.2 k (by omega), (p2 k hk).1, (q2 k hk).1⟩, t (2 * k + 1), (t4 (2 * k + 1) (by omega)).1, (p2 k hk).2, (q2 k hk).2⟩⟩
    · rw [pj 15 (by omega), pv 26 (by omega) (by omega) (by omega), qj 64 (by omega), qv 35 (by omega) (by omega) (by omega)]; exact h7
    · rw [pv 22 (by omega) (by omega) (by omega)]; exact h8
    · rw [pj 10 (by omega), qj 48 (by omega), qj 47 (by omega)]; exact h9
  · simp (disch := omega) only [↓reduceIte, o_bind, and_true, true_and, and_false, false_and, or_true, true_or, or_false, false_or, not_true, not_false_eq_true, not_false_iff, ne_eq, Nat.reduceAdd, Nat.reduceMul, Nat.reduceSub, Nat.reduceDiv, Nat.reduceMod, Nat.reduceLT, Nat.reduceLeDiff, Nat.reduceEqDiff, Nat.not_lt, Nat.not_le, q_lit, ↓q_m1, q_om, q_on, q_add, q_mul, q_sub, q_div, q_md, q_ltT, q_ltF, q_leT, q_leF, q_eqT, q_eqF, q_inT, q_inF, q_nn, q_mlt, q_ltm, q_mle, q_lem, q_nem, q_mne]
    refine zW_eq (by rw [c_refuse hx (by omega)]; rfl) ?_
    refine r_bagK (t := t) gr hU t3 t1 (fun k hk => ⟨(t4 k hk).1, (t4 k hk).2.2⟩) (fun _ => ?_) (fun hy => absurd hy hb)
    rw [r_refuse (by omega)]
    refine zW_some ?_
    dsimp only
    exact ⟨rfl, u, b, f0, cnt, acts, x, pl, U, A, hi, JJ_ref (by omega) h0⟩
end
