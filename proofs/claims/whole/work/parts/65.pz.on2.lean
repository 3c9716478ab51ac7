section
variable {n : Nat} {K N : Nat → Nat} {G : zG} {V R : zI} {L M : zL} {u b f0 cnt acts x : Nat} {pl : Nat → Nat} {U : aU} {A : aS} {hi : Nat → aS} {t : Nat → Nat} {tl : Nat}
theorem q_tri3 {tw : Nat} (h : tw ≤ 6) : qi (3 * tw) * (qi tw - qi 1) = qi (3 * (tw * (tw - 1))) := by
  rcases (by omega : tw = 0 ∨ tw = 1 ∨ tw = 2 ∨ tw = 3 ∨ tw = 4 ∨ tw = 5 ∨ tw = 6) with rfl | rfl | rfl | rfl | rfl | rfl | rfl <;> rfl
def byR (R : zI) (t : Nat → Nat) (tl : Nat) : Prop := ∀ k, k < tl → t k < 256 ∧ R 1 k = qi (t k)
set_option maxHeartbeats 4000000 in
theorem r_pairOn {a c fr : Nat} (hp : 6 * a + c < 36) (hfr : fr + 3 ≤ tl) (htl : tl ≤ 1600) (ht : byR R t tl) : f_pairOn (qi a) (qi c) (qi fr) R M = some (if t fr ≤ 99 ∧ t (fr + 1) ≤ 99 ∧ t (fr + 2) ≤ 99 then (qi 1, z_uI (z_uI (z_uI R 21 (36 + (6 * a + c)) (qi (t fr))) 22 (36 + (6 * a + c)) (qi (t (fr + 1)))) 23 (36 + (6 * a + c)) (qi (t (fr + 2))), M) else (qi 0, R, M)) := by
  obtain ⟨a1, a2⟩ := ht fr (by omega)
  obtain ⟨b1, b2⟩ := ht (fr + 1) (by omega)
  obtain ⟨c1, c2⟩ := ht (fr + 2) (by omega)
  have ei : 36 + 6 * a + c = 36 + (6 * a + c) := by omega
  unfold f_pairOn
  rw [show FU = 9999999 + 1 from rfl, z_fix1]
  by_cases h1 : t fr ≤ 99
  rotate_left
  · rw [if_neg (fun h => h1 h.1)]
    simp (disch := omega) only [b_pairOn_3, a2, ↓reduceIte, o_bind, and_true, true_and, and_false, false_and, or_true, true_or, or_false, false_or, not_true, not_false_eq_true, not_false_iff, ne_eq, Nat.reduceAdd, Nat.reduceMul, Nat.reduceSub, Nat.reduceDiv, Nat.reduceMod, Nat.reduceLT, Nat.reduceLeDiff, Nat.reduceEqDiff, Nat.not_lt, Nat.not_le, Nat.add_zero, Nat.zero_add, Nat.mul_zero, Nat.zero_mul, q_lit, ↓q_m1, q_om, q_on, q_add, q_mul, q_sub, q_div, q_md, q_ltT, q_ltF, q_leT, q_leF, q_eqT, q_eqF, q_inT, q_inF, q_nn, q_mlt, q_ltm, q_mle, q_lem, q_nem, q_mne]
  simp (disch := omega) only [b_pairOn_3, a2, ↓reduceIte, o_bind, and_true, true_and, and_false, false_and, or_true, true_or, or_false, false_or, not_true, not_false_eq_true, not_false_iff, ne_eq, Nat.reduceAdd, Nat.reduceMul, Nat.reduceSub, Nat.reduceDiv, Nat.reduceMod, Nat.reduceLT, Nat.reduceLeDiff, Nat.reduceEqDiff, Nat.not_lt, Nat.not_le, Nat.add_zero, Nat.zero_add, Nat.mul_zero, Nat.zero_mul, q_lit, ↓q_m1, q_om, q_on, q_add, q_mul, q_sub, q_div, q_md, q_ltT, q_ltF, q_leT, q_leF, q_eqT, q_eqF, q_inT, q_inF, q_nn, q_mlt, q_ltm, q_mle, q_lem, q_nem, q_mne]
  rw [show (9999999 : Nat) = 9999998 + 1 from rfl, z_fix1]
  by_cases h2 : t (fr + 1) ≤ 99
  rotate_left
  · rw [if_neg (fun h => h2 h.2.1)]
    simp (disch := omega) only [b_pairOn_3, b2, ↓reduceIte, o_bind, and_true, true_and, and_false, false_and, or_true, true_or, or_false, false_or, not_true, not_false_eq_true, not_false_iff, ne_eq, Nat.reduceAdd, Nat.reduceMul, Nat.reduceSub, Nat.reduceDiv, Nat.reduceMod, Nat.reduceLT, Nat.reduceLeDiff, Nat.reduceEqDiff, Nat.not_lt, Nat.not_le, Nat.add_zero, Nat.zero_add, Nat.mul_zero, Nat.zero_mul, q_lit, ↓q_m1, q_om, q_on, q_add, q_mul, q_sub, q_div, q_md, q_ltT, q_ltF, q_leT, q_leF, q_eqT, q_eqF, q_inT, q_inF, q_nn, q_mlt, q_ltm, q_mle, q_lem, q_nem, q_mne]
  simp (disch := omega) only [b_pairOn_3, b2, ↓reduceIte, o_bind, and_true, true_and, and_false, false_and, or_true, true_or, or_false, false_or, not_true, not_false_eq_true, not_false_iff, ne_eq, Nat.reduceAdd, Nat.reduceMul, Nat.reduceSub, Nat.reduceDiv, Nat.reduceMod, Nat.reduceLT, Nat.reduceLeDiff, Nat.reduceEqDiff, Nat.not_lt, Nat.not_le, Nat.add_zero, Nat.zero_add, Nat.mul_zero, Nat.zero_mul, q_lit, ↓q_m1, q_om, q_on, q_add, q_mul, q_sub, q_div, q_md, q_ltT, q_ltF, q_leT, q_leF, q_eqT, q_eqF, q_inT, q_inF, q_nn, q_mlt, q_ltm, q_mle, q_lem, q_nem, q_mne]
  rw [show (9999998 : Nat) = 9999997 + 1 from rfl, z_fix1]
  by_cases h3 : t (fr + 2) ≤ 99
  rotate_left
  · rw [if_neg (fun h => h3 h.2.2)]
    simp (disch := omega) only [b_pairOn_3, c2, ↓reduceIte, o_bind, and_true, true_and, and_false, false_and, or_true, true_or, or_false, false_or, not_true, not_false_eq_true, not_false_iff, ne_eq, Nat.reduceAdd, Nat.reduceMul, Nat.reduceSub, Nat.reduceDiv, Nat.reduceMod, Nat.reduceLT, Nat.reduceLeDiff, Nat.reduceEqDiff, Nat.not_lt, Nat.not_le, Nat.add_zero, Nat.zero_add, Nat.mul_zero, Nat.zero_mul, q_lit, ↓q_m1, q_om, q_on, q_add, q_mul, q_sub, q_div, q_md, q_ltT, q_ltF, q_leT, q_leF, q_eqT, q_eqF, q_inT, q_inF, q_nn, q_mlt, q_ltm, q_mle, q_lem, q_nem, q_mne]
  rw [if_pos ⟨h1, h2, h3⟩]
  simp (disch := omega) only [b_pairOn_3, c2, ↓reduceIte, o_bind, and_true, true_and, and_false, false_and, or_true, true_or, or_false, false_or, not_true, not_false_eq_true, not_false_iff, ne_eq, Nat.reduceAdd, Nat.reduceMul, Nat.reduceSub, Nat.reduceDiv, Nat.reduceMod, Nat.reduceLT, Nat.reduceLeDiff, Nat.reduceEqDiff, Nat.not_lt, Nat.not_le, Nat.add_zero, Nat.zero_add, Nat.mul_zero, Nat.zero_mul, q_lit, ↓q_m1, q_om, q_on, q_add, q_mul, q_sub, q_div, q_md, q_ltT, q_ltF, q_leT, q_leF, q_eqT, q_eqF, q_inT, q_inF, q_nn, q_mlt, q_ltm, q_mle, q_lem, q_nem, q_mne]
  rw [show (9999997 : Nat) = 9999996 + 1 from rfl, z_fix1]
  simp (disch := omega) only [b_pairOn_3, f_at, ei, a2, b2, c2, ↓reduceIte, o_bind, and_true, true_and, and_false, false_and, or_true, true_or, or_false, false_or, not_true, not_false_eq_true, not_false_iff, ne_eq, Nat.reduceAdd, Nat.reduceMul, Nat.reduceSub, Nat.reduceDiv, Nat.reduceMod, Nat.reduceLT, Nat.reduceLeDiff, Nat.reduceEqDiff, Nat.not_lt, Nat.not_le, Nat.add_zero, Nat.zero_add, Nat.mul_zero, Nat.zero_mul, q_lit, ↓q_m1, q_om, q_on, q_add, q_mul, q_sub, q_div, q_md, q_ltT, q_ltF, q_leT, q_leF, q_eqT, q_eqF, q_inT, q_inF, q_nn, q_mlt, q_ltm, q_mle, q_lem, q_nem, q_mne, z_same, z_neP, z_neK, zL_same, zL_neP, zL_neK, zr_same, zr_ne]
set_option maxHeartbeats 4000000 in
theorem r_mailOn {k at' : Nat} (hR : UR R M b U) (hU : UB U) (hk : k < 60) (hat : at' + 3 * k + 3 ≤ tl) (htl : tl ≤ 1600) (ht : byR R t tl) : zW (f_mailOn (qi k) (qi (at' + 3 * k)) R M) (fun r => ((r.1 = qi 1 ∧ ltP U t at' k ∧ r.2.1 = z_uI (z_uI (z_uI R 25 (180 + 3 * k) (qi (t (at' + 3 * k)))) 25 (180 + 3 * k + 1) (qi (t (at' + 3 * k + 1)))) 25 (180 + 3 * k + 2) (qi (t (at' + 3 * k + 2)))) ∨ (r.1 = qi 0 ∧ ¬ ltP U t at' k ∧ r.2.1 = R)) ∧ r.2.2 = M) := by
  have htw := UB_tw hU
  obtain ⟨a1, a2⟩ := ht (at' + 3 * k) (by omega)
  obtain ⟨b1, b2⟩ := ht (at' + 3 * k + 1) (by omega)
  obtain ⟨c1, c2⟩ := ht (at' + 3 * k + 2) (by omega)
  have hip := f_isPair_e hR hU (x := t (at' + 3 * k)) (y := t (at' + 3 * k + 1)) (by omega) (by omega)
  unfold f_mailOn
  by_cases hc : t (at' + 3 * k) < U.1 ∧ t (at' + 3 * k + 1) < U.1 ∧ t (at' + 3 * k) ≠ t (at' + 3 * k + 1)
  rotate_left
  · simp (disch := omega) only [a2, b2, hip, hc, ↓reduceIte, o_bind, and_true, true_and, and_false, false_and, or_true, true_or, or_false, false_or, not_true, not_false_eq_true, not_false_iff, ne_eq, Nat.reduceAdd, Nat.reduceMul, Nat.reduceSub, Nat.reduceDiv, Nat.reduceMod, Nat.reduceLT, Nat.reduceLeDiff, Nat.reduceEqDiff, Nat.not_lt, Nat.not_le, q_lit, ↓q_m1, q_om, q_on, q_add, q_mul, q_sub, q_div, q_md, q_ltT, q_ltF, q_leT, q_leF, q_eqT, q_eqF, q_inT, q_inF, q_nn, q_mlt, q_ltm, q_mle, q_lem, q_nem, q_mne]
    exact zW_some ⟨Or.inr ⟨rfl, fun h => hc h.1, rfl⟩, rfl⟩
  have hiw := f_isWay_e (L := M) hR hU (x := t (at' + 3 * k)) (y := t (at' + 3 * k + 1)) (by omega) (by omega) (by omega)
  have hwb : U.2.2.1 (6 * t (at' + 3 * k) + t (at' + 3 * k + 1)) ≤ 45 := (hU.2.1 _ (by omega)).1
  by_cases hw0 : 0 < U.2.2.1 (6 * t (at' + 3 * k) + t (at' + 3 * k + 1))
  rotate_left
  · simp (disch := omega) only [a2, b2, hip, hc, and_self, hiw, hw0, ↓reduceIte, o_bind, and_true, true_and, and_false, false_and, or_true, true_or, or_false, false_or, not_true, not_false_eq_true, not_false_iff, ne_eq, Nat.reduceAdd, Nat.reduceMul, Nat.reduceSub, Nat.reduceDiv, Nat.reduceMod, Nat.reduceLT, Nat.reduceLeDiff, Nat.reduceEqDiff, Nat.not_lt, Nat.not_le, q_lit, ↓q_m1, q_om, q_on, q_add, q_mul, q_sub, q_div, q_md, q_ltT, q_ltF, q_leT, q_leF, q_eqT, q_eqF, q_inT, q_inF, q_nn, q_mlt, q_ltm, q_mle, q_lem, q_nem, q_mne]
    exact zW_some ⟨Or.inr ⟨rfl, fun h => by have := h.2; omega, rfl⟩, rfl⟩
  have hwy := f_wayBy_e (L := M) hR hU (x := t (at' + 3 * k)) (y := t (at' + 3 * k + 1)) (by omega) (by omega) hw0
  by_cases hl1 : 1 ≤ t (at' + 3 * k + 2)
  rotate_left
  · simp (disch := omega) only [a2, b2, c2, hip, hc, and_self, hiw, hw0, hwy, f_is, ↓reduceIte, o_bind, and_true, true_and, and_false, false_and, or_true, true_or, or_false, false_or, not_true, not_false_eq_true, not_false_iff, ne_eq, Nat.reduceAdd, Nat.reduceMul, Nat.reduceSub, Nat.reduceDiv, Nat.reduceMod, Nat.reduceLT, Nat.reduceLeDiff, Nat.reduceEqDiff, Nat.not_lt, Nat.not_le, q_lit, ↓q_m1, q_om, q_on, q_add, q_mul, q_sub, q_div, q_md, q_ltT, q_ltF, q_leT, q_leF, q_eqT, q_eqF, q_inT, q_inF, q_nn, q_mlt, q_ltm, q_mle, q_lem, q_nem, q_mne]
    exact zW_some ⟨Or.inr ⟨rfl, fun h => hl1 h.2.1, rfl⟩, rfl⟩
  by_cases hl2 : t (at' + 3 * k + 2) ≤ U.2.2.1 (6 * t (at' + 3 * k) + t (at' + 3 * k + 1))
  rotate_left
  · simp (disch := omega) only [a2, b2, c2, hip, hc, and_self, hiw, hw0, hwy, f_is, ↓reduceIte, o_bind, and_true, true_and, and_false, false_and, or_true, true_or, or_false, false_or, not_true, not_false_eq_true, not_false_iff, ne_eq, Nat.reduceAdd, Nat.reduceMul, Nat.reduceSub, Nat.reduceDiv, Nat.reduceMod, Nat.reduceLT, Nat.reduceLeDiff, Nat.reduceEqDiff, Nat.not_lt, Nat.not_le, q_lit, ↓q_m1, q_om, q_on, q_add, q_mul, q_sub, q_div, q_md, q_ltT, q_ltF, q_leT, q_leF, q_eqT, q_eqF, q_inT, q_inF, q_nn, q_mlt, q_ltm, q_mle, q_lem, q_nem, q_mne]
    exact zW_some ⟨Or.inr ⟨rfl, fun h => hl2 h.2.2, rfl⟩, rfl⟩
  have e3 : 3 * (60 + k) = 180 + 3 * k := by omega
  simp (disch := omega) only [a2, b2, c2, hip, hc, and_self, hiw, hw0, hwy, f_is, ↓reduceIte, o_bind, and_true, true_and, and_false, false_and, or_true, true_or, or_false, false_or, not_true, not_false_eq_true, not_false_iff, ne_eq, Nat.reduceAdd, Nat.reduceMul, Nat.reduceSub, Nat.reduceDiv, Nat.reduceMod, Nat.reduceLT, Nat.reduceLeDiff, Nat.reduceEqDiff, Nat.not_lt, Nat.not_le, q_lit, ↓q_m1, q_om, q_on, q_add, q_mul, q_sub, q_div, q_md, q_ltT, q_ltF, q_leT, q_leF, q_eqT, q_eqF, q_inT, q_inF, q_nn, q_mlt, q_ltm, q_mle, q_lem, q_nem, q_mne]
  rw [show FU = 9999999 + 1 from rfl, z_fix1]
  simp (disch := omega) only [b_mailOn_79, e3, a2, ↓reduceIte, o_bind, and_true, true_and, and_false, false_and, or_true, true_or, or_false, false_or, not_true, not_false_eq_true, not_false_iff, ne_eq, Nat.reduceAdd, Nat.reduceMul, Nat.reduceSub, Nat.reduceDiv, Nat.reduceMod, Nat.reduceLT, Nat.reduceLeDiff, Nat.reduceEqDiff, Nat.not_lt, Nat.not_le, Nat.add_zero, Nat.zero_add, Nat.mul_zero, Nat.zero_mul, q_lit, ↓q_m1, q_om, q_on, q_add, q_mul, q_sub, q_div, q_md, q_ltT, q_ltF, q_leT, q_leF, q_eqT, q_eqF, q_inT, q_inF, q_nn, q_mlt, q_ltm, q_mle, q_lem, q_nem, q_mne]
  rw [show (9999999 : Nat) = 9999998 + 1 from rfl, z_fix1]
  simp (disch := omega) only [b_mailOn_79, e3, b2, ↓reduceIte, o_bind, and_true, true_and, and_false, false_and, or_true, true_or, or_false, false_or, not_true, not_false_eq_true, not_false_iff, ne_eq, Nat.reduceAdd, Nat.reduceMul, Nat.reduceSub, Nat.reduceDiv, Nat.reduceMod, Nat.reduceLT, Nat.reduceLeDiff, Nat.reduceEqDiff, Nat.not_lt, Nat.not_le, Nat.add_zero, Nat.zero_add, Nat.mul_zero, Nat.zero_mul, q_lit, ↓q_m1, q_om, q_on, q_add, q_mul, q_sub, q_div, q_md, q_ltT, q_ltF, q_leT, q_leF, q_eqT, q_eqF, q_inT, q_inF, q_nn, q_mlt, q_ltm, q_mle, q_lem, q_nem, q_mne, z_same, z_neP, z_neK, zL_same, zL_neP, zL_neK, zr_same, zr_ne]
  rw [show (9999998 : Nat) = 9999997 + 1 from rfl, z_fix1]
  simp (disch := omega) only [b_mailOn_79, e3, c2, ↓reduceIte, o_bind, and_true, true_and, and_false, false_and, or_true, true_or, or_false, false_or, not_true, not_false_eq_true, not_false_iff, ne_eq, Nat.reduceAdd, Nat.reduceMul, Nat.reduceSub, Nat.reduceDiv, Nat.reduceMod, Nat.reduceLT, Nat.reduceLeDiff, Nat.reduceEqDiff, Nat.not_lt, Nat.not_le, Nat.add_zero, Nat.zero_add, Nat.mul_zero, Nat.zero_mul, q_lit, ↓q_m1, q_om, q_on, q_add, q_mul, q_sub, q_div, q_md, q_ltT, q_ltF, q_leT, q_leF, q_eqT, q_eqF, q_inT, q_inF, q_nn, q_mlt, q_ltm, q_mle, q_lem, q_nem, q_mne, z_same, z_neP, z_neK, zL_same, zL_neP, zL_neK, zr_same, zr_ne]
  rw [show (9999997 : Nat) = 9999996 + 1 from rfl, z_fix1]
  simp (disch := omega) only [b_mailOn_79, ↓reduceIte, o_bind, and_true, true_and, and_false, false_and, or_true, true_or, or_false, false_or, not_true, not_false_eq_true, not_false_iff, ne_eq, Nat.reduceAdd, Nat.reduceMul, Nat.reduceSub, Nat.reduceDiv, Nat.reduceMod, Nat.reduceLT, Nat.reduceLeDiff, Nat.reduceEqDiff, Nat.not_lt, Nat.not_le, Nat.add_zero, Nat.zero_add, Nat.mul_zero, Nat.zero_mul, q_lit, ↓q_m1, q_om, q_on, q_add, q_mul, q_sub, q_div, q_md, q_ltT, q_ltF, q_leT, q_leF, q_eqT, q_eqF, q_inT, q_inF, q_nn, q_mlt, q_ltm, q_mle, q_lem, q_nem, q_mne]
  exact zW_some ⟨Or.inl ⟨rfl, ⟨hc, hl1, hl2⟩, rfl⟩, rfl⟩
/-- the counts told so far, below the pair p -/
def onC (R : zI) (tw : Nat) (t : Nat → Nat) (p : Nat) : Prop := (∀ j, j < p → isQ tw j → cnP tw t j ∧ R 21 (36 + j) = qi (t (2 + 3 * rkP tw j)) ∧ R 22 (36 + j) = qi (t (2 + 3 * rkP tw j + 1)) ∧ R 23 (36 + j) = qi (t (2 + 3 * rkP tw j + 2))) ∧ ∀ j, j < 36 → ¬ isQ tw j → R 21 (36 + j) = qi 0 ∧ R 22 (36 + j) = qi 0 ∧ R 23 (36 + j) = qi 0
theorem onC_sk {tw p q : Nat} (h : onC R tw t p) (hs : ∀ k, p ≤ k → k < q → ¬ isQ tw k) : onC R tw t q := ⟨fun j hj hq => h.1 j (Nat.lt_of_not_le (fun h' => hs j h' hj hq)) hq, h.2⟩
def oF (R R' : zI) : Prop := (∀ w, (w < 20 ∨ 28 ≤ w) → R' w = R w) ∧ RFr 1 R R' ∧ R' 20 1 = R 20 1 ∧ R' 24 1 = R 24 1 ∧ R' 26 1 = R 26 1
theorem oF_rf : oF R R := ⟨fun _ _ => rfl, RFr_rf, rfl, rfl, rfl⟩
theorem oF_tr {R1 R2 : zI} (h : oF R R1) (g : oF R1 R2) : oF R R2 := ⟨fun w hw => (g.1 w hw).trans (h.1 w hw), RFr_tr h.2.1 g.2.1, g.2.2.1.trans h.2.2.1, g.2.2.2.1.trans h.2.2.2.1, g.2.2.2.2.trans h.2.2.2.2⟩
set_option maxHeartbeats 4000000 in
theorem r_on199 {a : Nat} {k190 : Int32 × Int32 × Int32 × Int32 × zI × zL → Option (Int32 × zI × zL)} {P : Int32 × zI × zL → Prop} (htw : U.1 ≤ 6) (ha : a < U.1) (htl : tl ≤ 1600) (hlen : 3 * (U.1 * (U.1 - 1)) + 4 ≤ tl) (ht : byR R t tl) (h : onC R U.1 t (6 * a)) (hbad : ∀ R', oF R R' → (¬ ∀ p, p < 36 → isQ U.1 p → cnP U.1 t p) → zW (some (qi 0, R', M)) P) (hk : ∀ R', oF R R' → onC R' U.1 t (6 * a + U.1) → zW (k190 (qi U.1, qi (3 + 3 * (U.1 * (U.1 - 1))), qi (2 + 3 * rkP U.1 (6 * a + U.1)), qi (a + 1), R', M)) P) : zW (zfix (b_comesOn_199 k190) FU (qi U.1, qi (3 + 3 * (U.1 * (U.1 - 1))), qi (2 + 3 * rkP U.1 (6 * a)), qi a, qi 0, R, M)) P := by
  have h36 := rkP_36 U.1 htw
  have htri := tri_b htw
  refine zW_lp (I := fun r q => ∃ (c : Nat) (R1 : zI), c ≤ U.1 ∧ r = U.1 - c ∧ q = (qi U.1, qi (3 + 3 * (U.1 * (U.1 - 1))), qi (2 + 3 * rkP U.1 (6 * a + c)), qi a, qi c, R1, M) ∧ onC R1 U.1 t (6 * a + c) ∧ oF R R1) ?_ FU U.1 _ ⟨0, R, by omega, by omega, rfl, h, oF_rf⟩ (FU_big (by omega))
  rintro k r q ⟨c, R1, hc, rfl, rfl, h1, hf⟩ ih
  by_cases hend : c = U.1
  · rw [hend] at h1 ⊢
    simp (disch := omega) only [b_comesOn_199, Nat.le_refl, ↓reduceIte, o_bind, and_true, true_and, and_false, false_and, or_true, true_or, or_false, false_or, not_true, not_false_eq_true, not_false_iff, ne_eq, Nat.reduceAdd, Nat.reduceMul, Nat.reduceSub, Nat.reduceDiv, Nat.reduceMod, Nat.reduceLT, Nat.reduceLeDiff, Nat.reduceEqDiff, Nat.not_lt, Nat.not_le, q_lit, ↓q_m1, q_om, q_on, q_add, q_mul, q_sub, q_div, q_md, q_ltT, q_ltF, q_leT, q_leF, q_eqT, q_eqF, q_inT, q_inF, q_nn, q_mlt, q_ltm, q_mle, q_lem, q_nem, q_mne]
    exact hk R1 hf h1
  have hp : 6 * a + c < 36 := by omega
  have hy : (6 * a + c) / 6 = a ∧ (6 * a + c) % 6 = c := by omega
  have hrk := rkP_b (tw := U.1) (6 * a + c) (by omega)
  by_cases hac : a = c
  · have hn : ¬ ((6 * a + c) / 6 < U.1 ∧ (6 * a + c) % 6 < U.1 ∧ (6 * a + c) / 6 ≠ (6 * a + c) % 6) := by omega
    have ers : rkP U.1 (6 * a + (c + 1)) = rkP U.1 (6 * a + c) := by
      rw [show 6 * a + (c + 1) = 6 * a + c + 1 by omega]
      simp only [rkP]
      rw [if_neg hn, Nat.add_zero]
    simp (disch := omega) only [b_comesOn_199, ↓reduceIte, o_bind, and_true, true_and, and_false, false_and, or_true, true_or, or_false, false_or, not_true, not_false_eq_true, not_false_iff, ne_eq, Nat.reduceAdd, Nat.reduceMul, Nat.reduceSub, Nat.reduceDiv, Nat.reduceMod, Nat.reduceLT, Nat.reduceLeDiff, Nat.reduceEqDiff, Nat.not_lt, Nat.not_le, q_lit, ↓q_m1, q_om, q_on, q_add, q_mul, q_sub, q_div, q_md, q_ltT, q_ltF, q_leT, q_leF, q_eqT, q_eqF, q_inT, q_inF, q_nn, q_mlt, q_ltm, q_mle, q_lem, q_nem, q_mne]
    exact ih (U.1 - (c + 1)) _ (by omega) ⟨c + 1, R1, by omega, rfl, by rw [ers], onC_sk h1 (fun k k1 k2 => by rw [show k = 6 * a + c by omega]; exact hn), hf⟩
  · have hcc : (6 * a + c) / 6 < U.1 ∧ (6 * a + c) % 6 < U.1 ∧ (6 * a + c) / 6 ≠ (6 * a + c) % 6 := by omega
    have ers : rkP U.1 (6 * a + (c + 1)) = rkP U.1 (6 * a + c) + 1 := by
      rw [show 6 * a + (c + 1) = 6 * a + c + 1 by omega]
      simp only [rkP]
      rw [if_pos hcc]
    have hmo := rkP_mono (tw := U.1) (p := 6 * a + (c + 1)) 36 (by omega)
    have w1 : R1 1 = R 1 := hf.1 1 (by omega)
    have ht1 : byR R1 t tl := fun k hk => by rw [w1]; exact ht k hk
    have hpo := r_pairOn (M := M) (a := a) (c := c) (fr := 2 + 3 * rkP U.1 (6 * a + c)) hp (by omega) htl ht1
    by_cases hcn : t (2 + 3 * rkP U.1 (6 * a + c)) ≤ 99 ∧ t (2 + 3 * rkP U.1 (6 * a + c) + 1) ≤ 99 ∧ t (2 + 3 * rkP U.1 (6 * a + c) + 2) ≤ 99
    · rw [if_pos hcn] at hpo
      simp (disch := omega) only [b_comesOn_199, hpo, ↓reduceIte, o_bind, and_true, true_and, and_false, false_and, or_true, true_or, or_false, false_or, not_true, not_false_eq_true, not_false_iff, ne_eq, Nat.reduceAdd, Nat.reduceMul, Nat.reduceSub, Nat.reduceDiv, Nat.reduceMod, Nat.reduceLT, Nat.reduceLeDiff, Nat.reduceEqDiff, Nat.not_lt, Nat.not_le, q_lit, ↓q_m1, q_om, q_on, q_add, q_mul, q_sub, q_div, q_md, q_ltT, q_ltF, q_leT, q_leF, q_eqT, q_eqF, q_inT, q_inF, q_nn, q_mlt, q_ltm, q_mle, q_lem, q_nem, q_mne]
      rw [show 2 + 3 * rkP U.1 (6 * a + c) + 3 = 2 + 3 * rkP U.1 (6 * a + (c + 1)) by omega]
      refine ih (U.1 - (c + 1)) _ (by omega) ⟨c + 1, _, by omega, rfl, rfl, ⟨fun j hj hq => ?_, fun j hj hq => ?_⟩, oF_tr hf ⟨fun w hw => ?_, RFr_tr (RFr_tr (RFr_z (by omega)) (RFr_z (by omega))) (RFr_z (by omega)), ?_, ?_, ?_⟩⟩
      · by_cases hjp : j = 6 * a + c
        · subst hjp
          refine ⟨hcn, ?_, ?_, ?_⟩
          · simp (disch := omega) only [z_same, z_neP, z_neK, zL_same, zL_neP, zL_neK, zr_same, zr_ne]
          · simp (disch := omega) only [z_same, z_neP, z_neK, zL_same, zL_neP, zL_neK, zr_same, zr_ne]
          · simp (disch := omega) only [z_same, z_neP, z_neK, zL_same, zL_neP, zL_neK, zr_same, zr_ne]
        · have g := h1.1 j (by omega) hq
          simp (disch := omega) only [z_same, z_neP, z_neK, zL_same, zL_neP, zL_neK, zr_same, zr_ne]
          exact g
      · have hjp : j ≠ 6 * a + c := fun e => hq (by rw [e]; exact hcc)
        simp (disch := omega) only [z_same, z_neP, z_neK, zL_same, zL_neP, zL_neK, zr_same, zr_ne]
        exact h1.2 j hj hq
      · simp (disch := omega) only [z_same, z_neP, z_neK, zL_same, zL_neP, zL_neK, zr_same, zr_ne]
      · simp (disch := omega) only [z_same, z_neP, z_neK, zL_same, zL_neP, zL_neK, zr_same, zr_ne]
      · simp (disch := omega) only [z_same, z_neP, z_neK, zL_same, zL_neP, zL_neK, zr_same, zr_ne]
      · simp (disch := omega) only [z_same, z_neP, z_neK, zL_same, zL_neP, zL_neK, zr_same, zr_ne]
    · rw [if_neg hcn] at hpo
      simp (disch := omega) only [b_comesOn_199, hpo, ↓reduceIte, o_bind, and_true, true_and, and_false, false_and, or_true, true_or, or_false, false_or, not_true, not_false_eq_true, not_false_iff, ne_eq, Nat.reduceAdd, Nat.reduceMul, Nat.reduceSub, Nat.reduceDiv, Nat.reduceMod, Nat.reduceLT, Nat.reduceLeDiff, Nat.reduceEqDiff, Nat.not_lt, Nat.not_le, q_lit, ↓q_m1, q_om, q_on, q_add, q_mul, q_sub, q_div, q_md, q_ltT, q_ltF, q_leT, q_leF, q_eqT, q_eqF, q_inT, q_inF, q_nn, q_mlt, q_ltm, q_mle, q_lem, q_nem, q_mne]
      exact hbad R1 hf (fun h => hcn (h (6 * a + c) hp hcc))
set_option maxHeartbeats 4000000 in
theorem r_on248 {m : Nat} (hR : UR R M b U) (hU : UB U) (htl : tl ≤ 1600) (hm : m ≤ 60) (hlen : tl = 3 * (U.1 * (U.1 - 1)) + 4 + 3 * m) (ht : byR R t tl) (e24 : R 24 1 = qi m) : zW (zfix b_comesOn_248 FU (qi (3 + 3 * (U.1 * (U.1 - 1))), qi 0, R, M)) (fun r => ((r.1 = qi 1 ∧ (∀ k, k < m → ltP U t (3 + 3 * (U.1 * (U.1 - 1))) k) ∧ ∀ k, k < m → r.2.1 25 (180 + 3 * k) = qi (t (3 + 3 * (U.1 * (U.1 - 1)) + 3 * k)) ∧ r.2.1 25 (180 + 3 * k + 1) = qi (t (3 + 3 * (U.1 * (U.1 - 1)) + 3 * k + 1)) ∧ r.2.1 25 (180 + 3 * k + 2) = qi (t (3 + 3 * (U.1 * (U.1 - 1)) + 3 * k + 2))) ∨ (r.1 = qi 0 ∧ ¬ ∀ k, k < m → ltP U t (3 + 3 * (U.1 * (U.1 - 1))) k)) ∧ oF R r.2.1 ∧ (∀ w, w ≠ 25 → r.2.1 w = R w) ∧ r.2.2 = M) := by
  have htri := tri_b (UB_tw hU)
  have z1 : (1 : Int32).toNatClampNeg = 1 := rfl
  have zq1 : (qi 1).toNatClampNeg = 1 := rfl
  refine zW_lp (I := fun r q => ∃ (k : Nat) (R1 : zI), k ≤ m ∧ r = m - k ∧ q = (qi (3 + 3 * (U.1 * (U.1 - 1))), qi k, R1, M) ∧ (∀ j, j < k → ltP U t (3 + 3 * (U.1 * (U.1 - 1))) j ∧ R1 25 (180 + 3 * j) = qi (t (3 + 3 * (U.1 * (U.1 - 1)) + 3 * j)) ∧ R1 25 (180 + 3 * j + 1) = qi (t (3 + 3 * (U.1 * (U.1 - 1)) + 3 * j + 1)) ∧ R1 25 (180 + 3 * j + 2) = qi (t (3 + 3 * (U.1 * (U.1 - 1)) + 3 * j + 2))) ∧ oF R R1 ∧ ∀ w, w ≠ 25 → R1 w = R w) ?_ FU m _ ⟨0, R, by omega, by omega, rfl, fun j hj => absurd hj (by omega), oF_rf, fun _ _ => rfl⟩ (FU_big (by omega))
  rintro kk r q ⟨k, R1, hk, rfl, rfl, h1, hf, hw⟩ ih
  have e241 : R1 24 1 = qi m := by rw [hw 24 (by omega)]; exact e24
  by_cases hend : k = m
  · subst hend
    simp (disch := omega) only [b_comesOn_248, z1, zq1, e241, Nat.le_refl, ↓reduceIte, o_bind, and_true, true_and, and_false, false_and, or_true, true_or, or_false, false_or, not_true, not_false_eq_true, not_false_iff, ne_eq, Nat.reduceAdd, Nat.reduceMul, Nat.reduceSub, Nat.reduceDiv, Nat.reduceMod, Nat.reduceLT, Nat.reduceLeDiff, Nat.reduceEqDiff, Nat.not_lt, Nat.not_le, q_lit, ↓q_m1, q_om, q_on, q_add, q_mul, q_sub, q_div, q_md, q_ltT, q_ltF, q_leT, q_leF, q_eqT, q_eqF, q_inT, q_inF, q_nn, q_mlt, q_ltm, q_mle, q_lem, q_nem, q_mne]
    exact zW_some ⟨Or.inl ⟨rfl, fun j hj => (h1 j hj).1, fun j hj => (h1 j hj).2⟩, hf, hw, rfl⟩
  have hR1 : UR R1 M b U := RFr_UR hf.2.1 rfl hR
  have w1 : R1 1 = R 1 := hw 1 (by omega)
  have ht1 : byR R1 t tl := fun k hk => by rw [w1]; exact ht k hk
  simp (disch := omega) only [b_comesOn_248, z1, zq1, e241, ↓reduceIte, o_bind, and_true, true_and, and_false, false_and, or_true, true_or, or_false, false_or, not_true, not_false_eq_true, not_false_iff, ne_eq, Nat.reduceAdd, Nat.reduceMul, Nat.reduceSub, Nat.reduceDiv, Nat.reduceMod, Nat.reduceLT, Nat.reduceLeDiff, Nat.reduceEqDiff, Nat.not_lt, Nat.not_le, q_lit, ↓q_m1, q_om, q_on, q_add, q_mul, q_sub, q_div, q_md, q_ltT, q_ltF, q_leT, q_leF, q_eqT, q_eqF, q_inT, q_inF, q_nn, q_mlt, q_ltm, q_mle, q_lem, q_nem, q_mne]
  refine zW_call (r_mailOn (M := M) (t := t) (at' := 3 + 3 * (U.1 * (U.1 - 1))) (k := k) hR1 hU (by omega) (by omega) htl ht1) ?_
  rintro ⟨y, R2, M2⟩ ⟨q1, q2⟩
  dsimp only at q1 q2 ⊢
  subst q2
  rcases q1 with ⟨rfl, q3, rfl⟩ | ⟨rfl, q3, rfl⟩
  · simp (disch := omega) only [↓reduceIte, o_bind, and_true, true_and, and_false, false_and, or_true, true_or, or_false, false_or, not_true, not_false_eq_true, not_false_iff, ne_eq, Nat.reduceAdd, Nat.reduceMul, Nat.reduceSub, Nat.reduceDiv, Nat.reduceMod, Nat.reduceLT, Nat.reduceLeDiff, Nat.reduceEqDiff, Nat.not_lt, Nat.not_le, q_lit, ↓q_m1, q_om, q_on, q_add, q_mul, q_sub, q_div, q_md, q_ltT, q_ltF, q_leT, q_leF, q_eqT, q_eqF, q_inT, q_inF, q_nn, q_mlt, q_ltm, q_mle, q_lem, q_nem, q_mne]
    refine ih (m - (k + 1)) _ (by omega) ⟨k + 1, _, by omega, rfl, rfl, fun j hj => ?_, oF_tr hf ⟨fun w hw' => ?_, RFr_tr (RFr_tr (RFr_z (by omega)) (RFr_z (by omega))) (RFr_z (by omega)), ?_, ?_, ?_⟩, fun w hw' => ?_⟩
    · by_cases hjk : j = k
      · subst hjk
        refine ⟨q3, ?_, ?_, ?_⟩
        · simp (disch := omega) only [z_same, z_neP, z_neK, zL_same, zL_neP, zL_neK, zr_same, zr_ne]
        · simp (disch := omega) only [z_same, z_neP, z_neK, zL_same, zL_neP, zL_neK, zr_same, zr_ne]
        · simp (disch := omega) only [z_same, z_neP, z_neK, zL_same, zL_neP, zL_neK, zr_same, zr_ne]
      · have g := h1 j (by omega)
        simp (disch := omega) only [z_same, z_neP, z_neK, zL_same, zL_neP, zL_neK, zr_same, zr_ne]
        exact g
    · simp (disch := omega) only [z_same, z_neP, z_neK, zL_same, zL_neP, zL_neK, zr_same, zr_ne]
    · simp (disch := omega) only [z_same, z_neP, z_neK, zL_same, zL_neP, zL_neK, zr_same, zr_ne]
    · simp (disch := omega) only [z_same, z_neP, z_neK, zL_same, zL_neP, zL_neK, zr_same, zr_ne]
    · simp (disch := omega) only [z_same, z_neP, z_neK, zL_same, zL_neP, zL_neK, zr_same, zr_ne]
    · simp (disch := omega) only [z_same, z_neP, z_neK, zL_same, zL_neP, zL_neK, zr_same, zr_ne]; exact hw w hw'
  · simp (disch := omega) only [↓reduceIte, o_bind, and_true, true_and, and_false, false_and, or_true, true_or, or_false, false_or, not_true, not_false_eq_true, not_false_iff, ne_eq, Nat.reduceAdd, Nat.reduceMul, Nat.reduceSub, Nat.reduceDiv, Nat.reduceMod, Nat.reduceLT, Nat.reduceLeDiff, Nat.reduceEqDiff, Nat.not_lt, Nat.not_le, q_lit, ↓q_m1, q_om, q_on, q_add, q_mul, q_sub, q_div, q_md, q_ltT, q_ltF, q_leT, q_leF, q_eqT, q_eqF, q_inT, q_inF, q_nn, q_mlt, q_ltm, q_mle, q_lem, q_nem, q_mne]
    exact zW_some ⟨Or.inr ⟨rfl, fun h => q3 (h k (by omega))⟩, hf, hw, rfl⟩
set_option maxRecDepth 100000 in
set_option maxHeartbeats 4000000 in
theorem r_comesOn (hR : UR R M b U) (hS : SR R 0 A) (hU : UB U) (hA : SB U A) (htl : tl ≤ 1600) (ht : byR R t tl) : zW (f_comesOn (qi tl) R M) (fun r => ((r.1 = qi 1 ∧ onP U t tl ∧ ∀ B, onA U t B → SR r.2.1 1 B) ∨ (r.1 = qi 0 ∧ ¬ onP U t tl)) ∧ RFr 1 R r.2.1 ∧ r.2.2 = M) := by
  have htw := UB_tw hU
  have htri := tri_b htw
  have h36 := rkP_36 U.1 htw
  have hb : b < 2 := hR.1.1
  have e13 : R 0 13 = qi b := hR.1.2.1
  have e2 : R 2 b = qi U.1 := hR.1.2.2.1
  have eT := q_tri3 htw
  have z0 : (0 : Int32).toNatClampNeg = 0 := rfl
  have z1 : (1 : Int32).toNatClampNeg = 1 := rfl
  have zq0 : (qi 0).toNatClampNeg = 0 := rfl
  have zq1 : (qi 1).toNatClampNeg = 1 := rfl
  have bad : ¬ onP U t tl → zW (some (qi 0, R, M)) (fun r => ((r.1 = qi 1 ∧ onP U t tl ∧ ∀ B, onA U t B → SR r.2.1 1 B) ∨ (r.1 = qi 0 ∧ ¬ onP U t tl)) ∧ RFr 1 R r.2.1 ∧ r.2.2 = M) := fun h => zW_some ⟨Or.inr ⟨rfl, h⟩, RFr_rf, rfl⟩
  unfold f_comesOn
  have em : 3 + 3 * (U.1 * (U.1 - 1)) - 1 = 2 + 3 * (U.1 * (U.1 - 1)) := by omega
  by_cases h1 : tl < 3 + 3 * (U.1 * (U.1 - 1))
  · simp (disch := omega) only [e13, e2, eT, ↓reduceIte, o_bind, and_true, true_and, and_false, false_and, or_true, true_or, or_false, false_or, not_true, not_false_eq_true, not_false_iff, ne_eq, Nat.reduceAdd, Nat.reduceMul, Nat.reduceSub, Nat.reduceDiv, Nat.reduceMod, Nat.reduceLT, Nat.reduceLeDiff, Nat.reduceEqDiff, Nat.not_lt, Nat.not_le, q_lit, ↓q_m1, q_om, q_on, q_add, q_mul, q_sub, q_div, q_md, q_ltT, q_ltF, q_leT, q_leF, q_eqT, q_eqF, q_inT, q_inF, q_nn, q_mlt, q_ltm, q_mle, q_lem, q_nem, q_mne]
    exact bad (fun h => by have := h.1.1; omega)
  obtain ⟨c1, c2⟩ := ht (2 + 3 * (U.1 * (U.1 - 1))) (by omega)
  by_cases h2 : t (2 + 3 * (U.1 * (U.1 - 1))) ≤ 60
  rotate_left
  · simp (disch := omega) only [e13, e2, eT, em, c2, ↓reduceIte, o_bind, and_true, true_and, and_false, false_and, or_true, true_or, or_false, false_or, not_true, not_false_eq_true, not_false_iff, ne_eq, Nat.reduceAdd, Nat.reduceMul, Nat.reduceSub, Nat.reduceDiv, Nat.reduceMod, Nat.reduceLT, Nat.reduceLeDiff, Nat.reduceEqDiff, Nat.not_lt, Nat.not_le, q_lit, ↓q_m1, q_om, q_on, q_add, q_mul, q_sub, q_div, q_md, q_ltT, q_ltF, q_leT, q_leF, q_eqT, q_eqF, q_inT, q_inF, q_nn, q_mlt, q_ltm, q_mle, q_lem, q_nem, q_mne]
    exact bad (fun h => h2 h.1.2.2.1)
  by_cases h3 : tl = 3 + 3 * (U.1 * (U.1 - 1)) + 3 * t (2 + 3 * (U.1 * (U.1 - 1))) + 1
  rotate_left
  · simp (disch := omega) only [e13, e2, eT, em, c2, h3, ↓reduceIte, o_bind, and_true, true_and, and_false, false_and, or_true, true_or, or_false, false_or, not_true, not_false_eq_true, not_false_iff, ne_eq, Nat.reduceAdd, Nat.reduceMul, Nat.reduceSub, Nat.reduceDiv, Nat.reduceMod, Nat.reduceLT, Nat.reduceLeDiff, Nat.reduceEqDiff, Nat.not_lt, Nat.not_le, q_lit, ↓q_m1, q_om, q_on, q_add, q_mul, q_sub, q_div, q_md, q_ltT, q_ltF, q_leT, q_leF, q_eqT, q_eqF, q_inT, q_inF, q_nn, q_mlt, q_ltm, q_mle, q_lem, q_nem, q_mne]
    exact bad (fun h => h3 (by have := h.1.2.2.2.1; omega))
  obtain ⟨a1, a2⟩ := ht 0 (by omega)
  obtain ⟨b1, b2⟩ := ht 1 (by omega)
  have hdy := q_day a1 b1
  by_cases h4 : t 0 * 256 + t 1 ≤ 999
  rotate_left
  · simp (disch := omega) only [e13, e2, eT, em, c2, z0, z1, zq0, zq1, a2, b2, hdy, ↓reduceIte, o_bind, and_true, true_and, and_false, false_and, or_true, true_or, or_false, false_or, not_true, not_false_eq_true, not_false_iff, ne_eq, Nat.reduceAdd, Nat.reduceMul, Nat.reduceSub, Nat.reduceDiv, Nat.reduceMod, Nat.reduceLT, Nat.reduceLeDiff, Nat.reduceEqDiff, Nat.not_lt, Nat.not_le, q_lit, ↓q_m1, q_om, q_on, q_add, q_mul, q_sub, q_div, q_md, q_ltT, q_ltF, q_leT, q_leF, q_eqT, q_eqF, q_inT, q_inF, q_nn, q_mlt, q_ltm, q_mle, q_lem, q_nem, q_mne]
    exact bad (fun h => h4 h.1.2.1)
  simp (disch := omega) only [e13, e2, eT, em, c2, z0, z1, zq0, zq1, a2, b2, hdy, ↓reduceIte, o_bind, and_true, true_and, and_false, false_and, or_true, true_or, or_false, false_or, not_true, not_false_eq_true, not_false_iff, ne_eq, Nat.reduceAdd, Nat.reduceMul, Nat.reduceSub, Nat.reduceDiv, Nat.reduceMod, Nat.reduceLT, Nat.reduceLeDiff, Nat.reduceEqDiff, Nat.not_lt, Nat.not_le, q_lit, ↓q_m1, q_om, q_on, q_add, q_mul, q_sub, q_div, q_md, q_ltT, q_ltF, q_leT, q_leF, q_eqT, q_eqF, q_inT, q_inF, q_nn, q_mlt, q_ltm, q_mle, q_lem, q_nem, q_mne]
  refine zW_lp (I := fun r q => ∃ i : Nat, i ≤ tl - 1 ∧ r = tl - 1 - i ∧ q = (qi tl, qi U.1, qi (3 + 3 * (U.1 * (U.1 - 1))), qi (chT t i), qi i, R, M)) ?_ FU (tl - 1) _ ⟨0, by omega, by omega, rfl⟩ (FU_big (by omega))
  rintro k r q ⟨i, hi, rfl, rfl⟩ ih
  have hcb := chT_b t i
  by_cases hend : i = tl - 1
  rotate_left
  · obtain ⟨d1, d2⟩ := ht i (by omega)
    simp (disch := omega) only [b_comesOn_88, d2, ↓reduceIte, o_bind, and_true, true_and, and_false, false_and, or_true, true_or, or_false, false_or, not_true, not_false_eq_true, not_false_iff, ne_eq, Nat.reduceAdd, Nat.reduceMul, Nat.reduceSub, Nat.reduceDiv, Nat.reduceMod, Nat.reduceLT, Nat.reduceLeDiff, Nat.reduceEqDiff, Nat.not_lt, Nat.not_le, q_lit, ↓q_m1, q_om, q_on, q_add, q_mul, q_sub, q_div, q_md, q_ltT, q_ltF, q_leT, q_leF, q_eqT, q_eqF, q_inT, q_inF, q_nn, q_mlt, q_ltm, q_mle, q_lem, q_nem, q_mne]
    exact ih (tl - 1 - (i + 1)) _ (by omega) ⟨i + 1, by omega, rfl, rfl⟩
  obtain ⟨d1, d2⟩ := ht (tl - 1) (by omega)
  rw [hend] at hcb ⊢
  by_cases h5 : chT t (tl - 1) = t (tl - 1)
  rotate_left
  · simp (disch := omega) only [b_comesOn_88, d2, Nat.le_refl, ↓reduceIte, o_bind, and_true, true_and, and_false, false_and, or_true, true_or, or_false, false_or, not_true, not_false_eq_true, not_false_iff, ne_eq, Nat.reduceAdd, Nat.reduceMul, Nat.reduceSub, Nat.reduceDiv, Nat.reduceMod, Nat.reduceLT, Nat.reduceLeDiff, Nat.reduceEqDiff, Nat.not_lt, Nat.not_le, q_lit, ↓q_m1, q_om, q_on, q_add, q_mul, q_sub, q_div, q_md, q_ltT, q_ltF, q_leT, q_leF, q_eqT, q_eqF, q_inT, q_inF, q_nn, q_mlt, q_ltm, q_mle, q_lem, q_nem, q_mne]
    exact bad (fun h => h5 h.1.2.2.2.2)
  simp (disch := omega) only [b_comesOn_88, d2, h5, Nat.le_refl, ↓reduceIte, o_bind, and_true, true_and, and_false, false_and, or_true, true_or, or_false, false_or, not_true, not_false_eq_true, not_false_iff, ne_eq, Nat.reduceAdd, Nat.reduceMul, Nat.reduceSub, Nat.reduceDiv, Nat.reduceMod, Nat.reduceLT, Nat.reduceLeDiff, Nat.reduceEqDiff, Nat.not_lt, Nat.not_le, q_lit, ↓q_m1, q_om, q_on, q_add, q_mul, q_sub, q_div, q_md, q_ltT, q_ltF, q_leT, q_leF, q_eqT, q_eqF, q_inT, q_inF, q_nn, q_mlt, q_ltm, q_mle, q_lem, q_nem, q_mne]
  refine zW_call (r_copies (L := M) (a := 1) (b := 0) (by omega) (by omega) (by omega) hS (SB_k hA).1 (SB_k hA).2) ?_
  rintro ⟨R1, M1⟩ ⟨p1, p2, p3, p4⟩
  dsimp only at p1 p2 p3 p4 ⊢
  replace p4 := p4.symm
  subst p4
  have w1 : R1 1 = R 1 := p3 1 (by omega)
  have a3 : R1 1 0 = qi (t 0) := by rw [w1]; exact a2
  have b3 : R1 1 1 = qi (t 1) := by rw [w1]; exact b2
  have c3 : R1 1 (2 + 3 * (U.1 * (U.1 - 1))) = qi (t (2 + 3 * (U.1 * (U.1 - 1)))) := by rw [w1]; exact c2
  simp (disch := omega) only [em, z0, z1, zq0, zq1, a3, b3, c3, hdy, ↓reduceIte, o_bind, and_true, true_and, and_false, false_and, or_true, true_or, or_false, false_or, not_true, not_false_eq_true, not_false_iff, ne_eq, Nat.reduceAdd, Nat.reduceMul, Nat.reduceSub, Nat.reduceDiv, Nat.reduceMod, Nat.reduceLT, Nat.reduceLeDiff, Nat.reduceEqDiff, Nat.not_lt, Nat.not_le, q_lit, ↓q_m1, q_om, q_on, q_add, q_mul, q_sub, q_div, q_md, q_ltT, q_ltF, q_leT, q_leF, q_eqT, q_eqF, q_inT, q_inF, q_nn, q_mlt, q_ltm, q_mle, q_lem, q_nem, q_mne, z_same, z_neP, z_neK, zL_same, zL_neP, zL_neK, zr_same, zr_ne]
  have hfr2 : RFr 1 R (z_uI (z_uI (z_uI R1 20 1 (qi (t 0 * 256 + t 1))) 24 1 (qi (t (2 + 3 * (U.1 * (U.1 - 1)))))) 26 1 (qi 0)) := RFr_tr p2 (RFr_tr (RFr_tr (RFr_z (by omega)) (RFr_z (by omega))) (RFr_z (by omega)))
  have o1 : ∀ w, (w < 20 ∨ 28 ≤ w) → z_uI (z_uI (z_uI R1 20 1 (qi (t 0 * 256 + t 1))) 24 1 (qi (t (2 + 3 * (U.1 * (U.1 - 1)))))) 26 1 (qi 0) w = R w := fun w hw => by rw [z_neP (by omega), z_neP (by omega), z_neP (by omega)]; exact p3 w hw
  have f20 : z_uI (z_uI (z_uI R1 20 1 (qi (t 0 * 256 + t 1))) 24 1 (qi (t (2 + 3 * (U.1 * (U.1 - 1)))))) 26 1 (qi 0) 20 1 = qi (t 0 * 256 + t 1) := by rw [z_neP (by omega), z_neP (by omega), z_same]
  have f24 : z_uI (z_uI (z_uI R1 20 1 (qi (t 0 * 256 + t 1))) 24 1 (qi (t (2 + 3 * (U.1 * (U.1 - 1)))))) 26 1 (qi 0) 24 1 = qi (t (2 + 3 * (U.1 * (U.1 - 1)))) := by rw [z_neP (by omega), z_same]
  have f26 : z_uI (z_uI (z_uI R1 20 1 (qi (t 0 * 256 + t 1))) 24 1 (qi (t (2 + 3 * (U.1 * (U.1 - 1)))))) 26 1 (qi 0) 26 1 = qi 0 := z_same
  have o2 : onC (z_uI (z_uI (z_uI R1 20 1 (qi (t 0 * 256 + t 1))) 24 1 (qi (t (2 + 3 * (U.1 * (U.1 - 1)))))) 26 1 (qi 0)) U.1 t 0 := by
    refine ⟨fun j hj => absurd hj (by omega), fun j hj hq => ?_⟩
    rw [z_neP (by omega), z_neP (by omega), z_neP (by omega), z_neP (by omega), z_neP (by omega), z_neP (by omega), z_neP (by omega), z_neP (by omega), z_neP (by omega)]
    obtain ⟨y1, y2, y3⟩ := hA.2.2.1 j hj hq
    have v1 : R1 21 (36 + j) = qi (A.2.1 j) := p1.2.1 j hj
    have v2 : R1 22 (36 + j) = qi (A.2.2.1 j) := p1.2.2.1 j hj
    have v3 : R1 23 (36 + j) = qi (A.2.2.2.1 j) := p1.2.2.2.1 j hj
    rw [v1, v2, v3]
    exact ⟨congrArg qi y1, congrArg qi y2, congrArg qi y3⟩
  generalize z_uI (z_uI (z_uI R1 20 1 (qi (t 0 * 256 + t 1))) 24 1 (qi (t (2 + 3 * (U.1 * (U.1 - 1)))))) 26 1 (qi 0) = R2 at *
  have hR2 : UR R2 M b U := RFr_UR hfr2 rfl hR
  have ht2 : byR R2 t tl := fun k hk => by rw [o1 1 (by omega)]; exact ht k hk
  refine zW_lp (I := fun r q => ∃ (a : Nat) (R3 : zI), a ≤ U.1 ∧ r = U.1 - a ∧ q = (qi U.1, qi (3 + 3 * (U.1 * (U.1 - 1))), qi (2 + 3 * rkP U.1 (6 * a)), qi a, R3, M) ∧ onC R3 U.1 t (6 * a) ∧ oF R2 R3) ?_ FU U.1 _ ⟨0, R2, by omega, by omega, rfl, o2, oF_rf⟩ (FU_big (by omega))
  rintro k' r' q' ⟨a, R3, ha, rfl, rfl, g1, g2⟩ ih2
  have ht3 : byR R3 t tl := fun k hk => by rw [g2.1 1 (by omega)]; exact ht2 k hk
  have hfr3 : RFr 1 R R3 := RFr_tr hfr2 g2.2.1
  have hR3 : UR R3 M b U := RFr_UR hfr3 rfl hR
  by_cases hae : a = U.1
  · have g3 : onC R3 U.1 t 36 := onC_sk g1 (fun k k1 k2 h => by have := h.1; omega)
    simp (disch := omega) only [b_comesOn_190, hae, Nat.le_refl, ↓reduceIte, o_bind, and_true, true_and, and_false, false_and, or_true, true_or, or_false, false_or, not_true, not_false_eq_true, not_false_iff, ne_eq, Nat.reduceAdd, Nat.reduceMul, Nat.reduceSub, Nat.reduceDiv, Nat.reduceMod, Nat.reduceLT, Nat.reduceLeDiff, Nat.reduceEqDiff, Nat.not_lt, Nat.not_le, q_lit, ↓q_m1, q_om, q_on, q_add, q_mul, q_sub, q_div, q_md, q_ltT, q_ltF, q_leT, q_leF, q_eqT, q_eqF, q_inT, q_inF, q_nn, q_mlt, q_ltm, q_mle, q_lem, q_nem, q_mne]
    have e24 : R3 24 1 = qi (t (2 + 3 * (U.1 * (U.1 - 1)))) := by rw [g2.2.2.2.1]; exact f24
    refine zW_mono (r_on248 (M := M) (t := t) (tl := tl) hR3 hU htl h2 (by omega) ht3 e24) ?_
    rintro ⟨y, R4, M4⟩ ⟨s1, s2, s3, s4⟩
    dsimp only at s1 s2 s3 s4 ⊢
    refine ⟨?_, RFr_tr hfr3 s2.2.1, s4⟩
    rcases s1 with ⟨rfl, s5, s6⟩ | ⟨rfl, s5⟩
    · refine Or.inl ⟨rfl, ⟨⟨by omega, h4, h2, by omega, h5⟩, fun p hp hq => (g3.1 p hp hq).1, s5⟩, fun B hB => ?_⟩
      obtain ⟨day, held, sent, got, m, mp, ml, kn, kc⟩ := B
      obtain ⟨⟨x1, x2, x3⟩, x4, x5, x6⟩ := hB
      dsimp only at x1 x2 x3 x4 x5 x6
      have hcase : ∀ p, p < 36 → R4 21 (36 + p) = qi (held p) ∧ R4 22 (36 + p) = qi (sent p) ∧ R4 23 (36 + p) = qi (got p) := by
        intro p hp
        rw [s3 21 (by omega), s3 22 (by omega), s3 23 (by omega)]
        by_cases hq : isQ U.1 p
        · obtain ⟨v1, v2, v3⟩ := x4 p hp hq
          rw [v1, v2, v3]
          exact (g3.1 p hp hq).2
        · obtain ⟨v1, v2, v3⟩ := x5 p hp hq
          rw [v1, v2, v3]
          exact g3.2 p hp hq
      have hml : ∀ k, k < t (2 + 3 * (U.1 * (U.1 - 1))) → t (3 + 3 * (U.1 * (U.1 - 1)) + 3 * k + 1) < 6 := fun k hk => by have := (s5 k hk).1.2.1; omega
      refine ⟨⟨?_, ?_, ?_⟩, fun p hp => (hcase p hp).1, fun p hp => (hcase p hp).2.1, fun p hp => (hcase p hp).2.2, fun k hk => ?_, fun k hk => ?_, fun k hk => ?_, fun k hk => ?_, fun k hk => ?_, fun k hk => ?_, fun k hk => ?_⟩
      · rw [s3 20 (by omega), g2.2.2.1, x1]; exact f20
      · rw [s3 24 (by omega), x2]; exact e24
      · rw [s3 26 (by omega), g2.2.2.2.2, x3]; exact f26
      · rw [x2] at hk
        have h6 := hml k hk
        rw [(x6 k hk).1, show (6 * t (3 + 3 * (U.1 * (U.1 - 1)) + 3 * k) + t (3 + 3 * (U.1 * (U.1 - 1)) + 3 * k + 1)) / 6 = t (3 + 3 * (U.1 * (U.1 - 1)) + 3 * k) by omega]
        exact (s6 k hk).1
      · rw [x2] at hk
        have h6 := hml k hk
        rw [(x6 k hk).1, show (6 * t (3 + 3 * (U.1 * (U.1 - 1)) + 3 * k) + t (3 + 3 * (U.1 * (U.1 - 1)) + 3 * k + 1)) % 6 = t (3 + 3 * (U.1 * (U.1 - 1)) + 3 * k + 1) by omega]
        exact (s6 k hk).2.1
      · rw [x2] at hk
        rw [(x6 k hk).2]
        exact (s6 k hk).2.2
      · omega
      · omega
      · omega
      · omega
    · exact Or.inr ⟨rfl, fun h => s5 h.2.2⟩
  · simp (disch := omega) only [b_comesOn_190, ↓reduceIte, o_bind, and_true, true_and, and_false, false_and, or_true, true_or, or_false, false_or, not_true, not_false_eq_true, not_false_iff, ne_eq, Nat.reduceAdd, Nat.reduceMul, Nat.reduceSub, Nat.reduceDiv, Nat.reduceMod, Nat.reduceLT, Nat.reduceLeDiff, Nat.reduceEqDiff, Nat.not_lt, Nat.not_le, q_lit, ↓q_m1, q_om, q_on, q_add, q_mul, q_sub, q_div, q_md, q_ltT, q_ltF, q_leT, q_leF, q_eqT, q_eqF, q_inT, q_inF, q_nn, q_mlt, q_ltm, q_mle, q_lem, q_nem, q_mne]
    refine r_on199 (U := U) (M := M) htw (show a < U.1 by omega) htl (by omega) ht3 g1 (fun R' hR' hn => ?_) (fun R' hR' hc' => ?_)
    · exact zW_some ⟨Or.inr ⟨rfl, fun h => hn h.2.1⟩, RFr_tr hfr3 hR'.2.1, rfl⟩
    · have ers : rkP U.1 (6 * (a + 1)) = rkP U.1 (6 * a + U.1) := rkP_skip _ (by omega) (fun k k1 k2 => by omega)
      exact ih2 (U.1 - (a + 1)) _ (by omega) ⟨a + 1, R', by omega, rfl, by rw [ers], onC_sk hc' (fun k k1 k2 h => by have := h.1; have := h.2.1; omega), oF_tr g2 hR'⟩
def onB (U : aU) (t : Nat → Nat) : aS := (t 0 * 256 + t 1, fun p => if p / 6 < U.1 ∧ p % 6 < U.1 ∧ p / 6 ≠ p % 6 then t (2 + 3 * rkP U.1 p) else 0, fun p => if p / 6 < U.1 ∧ p % 6 < U.1 ∧ p / 6 ≠ p % 6 then t (2 + 3 * rkP U.1 p + 1) else 0, fun p => if p / 6 < U.1 ∧ p % 6 < U.1 ∧ p / 6 ≠ p % 6 then t (2 + 3 * rkP U.1 p + 2) else 0, t (2 + 3 * (U.1 * (U.1 - 1))), fun k => 6 * t (3 + 3 * (U.1 * (U.1 - 1)) + 3 * k) + t (3 + 3 * (U.1 * (U.1 - 1)) + 3 * k + 1), fun k => t (3 + 3 * (U.1 * (U.1 - 1)) + 3 * k + 2), 0, fun _ => 0)
theorem onB_A : onA U t (onB U t) := by
  refine ⟨⟨rfl, rfl, rfl⟩, fun p _ hq => ⟨if_pos hq, if_pos hq, if_pos hq⟩, fun p _ hq => ⟨if_neg hq, if_neg hq, if_neg hq⟩, fun k _ => ⟨rfl, rfl⟩⟩
theorem onB_SB (hU : UB U) (h : onP U t tl) : SB U (onB U t) := by
  have htw := UB_tw hU
  obtain ⟨⟨h1, h2, h3, h4, h5⟩, h6, h7⟩ := h
  obtain ⟨tw, ct, way, encl, lost, rul, nam⟩ := U
  refine ⟨⟨h2, h3, Nat.zero_le _⟩, fun p hp => ?_, fun p hp hn => ⟨if_neg hn, if_neg hn, if_neg hn⟩, fun k hk => ?_, fun k hk => absurd hk (Nat.not_lt_zero _)⟩
  · by_cases hq : p / 6 < tw ∧ p % 6 < tw ∧ p / 6 ≠ p % 6
    · obtain ⟨c1, c2, c3⟩ := h6 p hp hq
      refine ⟨?_, ?_, ?_⟩
      · show (if _ then _ else _) ≤ 99
        rw [if_pos hq]; exact c1
      · show (if _ then _ else _) ≤ 99
        rw [if_pos hq]; exact c2
      · show (if _ then _ else _) ≤ 99
        rw [if_pos hq]; exact c3
    · refine ⟨?_, ?_, ?_⟩
      · show (if _ then _ else _) ≤ 99
        rw [if_neg hq]; exact Nat.zero_le _
      · show (if _ then _ else _) ≤ 99
        rw [if_neg hq]; exact Nat.zero_le _
      · show (if _ then _ else _) ≤ 99
        rw [if_neg hq]; exact Nat.zero_le _
  · obtain ⟨⟨c1, c2, c3⟩, c4, c5⟩ := h7 k hk
    dsimp only at c1 c2 c3 c4 c5 htw
    show 6 * t (3 + 3 * (tw * (tw - 1)) + 3 * k) + t (3 + 3 * (tw * (tw - 1)) + 3 * k + 1) < 36 ∧ 0 < way (6 * t (3 + 3 * (tw * (tw - 1)) + 3 * k) + t (3 + 3 * (tw * (tw - 1)) + 3 * k + 1)) ∧ 1 ≤ t (3 + 3 * (tw * (tw - 1)) + 3 * k + 2) ∧ t (3 + 3 * (tw * (tw - 1)) + 3 * k + 2) ≤ way (6 * t (3 + 3 * (tw * (tw - 1)) + 3 * k) + t (3 + 3 * (tw * (tw - 1)) + 3 * k + 1))
    exact ⟨by omega, by omega, c4, c5⟩
theorem m_on (h : JP n K N G V R M) : zX (f_X10_on N G 0 V L) (f_on R M) (fun r r' => r.1 = r'.1 ∧ JP n K N G r.2.1 r'.2.1 r'.2.2) := by
  obtain ⟨u, b, f0, cnt, acts, x, pl, U, A, hi, h⟩ := h
  obtain ⟨tl, t, t1, t2, t3, t4⟩ := Jt_t h.2.2.1
  have h0 := JJ_tp0 h
  obtain ⟨⟨hn, -, hx, g2, hu, -⟩, -⟩ := id h0.1
  obtain ⟨⟨g1, gs, gr, gt⟩, ⟨hU, hA⟩, -⟩ := id h0.2.1
  unfold f_X10_on g_X10_on f_on
  rw [hx.1.1, g2, hx.1.2.1, hx.1.2.2.1, t2, t3]
  simp only [o_bind, q_lit]
  refine zX_callL (c_read (L := L) (t := t) hx hu g1 hU t1 (fun k hk => ⟨(t4 k hk).1, by rw [z_neP (by omega)]; exact (t4 k hk).2.1⟩)) ?_
  rintro ⟨y, V1, L1⟩ ⟨p1, p2⟩
  refine zX_callR (r_comesOn (M := M) (t := t) gr gt hU hA t1 (fun k hk => ⟨(t4 k hk).1, by rw [z_neP (by omega)]; exact (t4 k hk).2.2⟩)) ?_
  rintro ⟨y', R1, M1⟩ ⟨q1, q2, q3⟩
  dsimp only at p1 p2 q1 q2 q3 ⊢
  replace q3 := q3.symm
  subst q3
  have h1 := JJ_core h0 (V' := V1) (fun w hw _ => p2 w (by omega)) (cR_RFr q2) (M' := M) ⟨rfl, rfl⟩
  rcases p1 with ⟨rfl, p3, p4⟩ | ⟨rfl, p3⟩
  · rcases q1 with ⟨rfl, -, q5⟩ | ⟨-, q4⟩
    · have hB := onB_SB hU p3
      have hA1 := onB_A (U := U) (t := t)
      simp (disch := omega) only [↓reduceIte, o_bind, and_true, true_and, and_false, false_and, or_true, true_or, or_false, false_or, not_true, not_false_eq_true, not_false_iff, ne_eq, Nat.reduceAdd, Nat.reduceMul, Nat.reduceSub, Nat.reduceDiv, Nat.reduceMod, Nat.reduceLT, Nat.reduceLeDiff, Nat.reduceEqDiff, Nat.not_lt, Nat.not_le, q_lit, ↓q_m1, q_om, q_on, q_add, q_mul, q_sub, q_div, q_md, q_ltT, q_ltF, q_leT, q_leF, q_eqT, q_eqF, q_inT, q_inF, q_nn, q_mlt, q_ltm, q_mle, q_lem, q_nem, q_mne]
      refine zX_callL (cs_copy (L := L1) hx.2.1 hx.2.2.1 (by omega) (p4 _ hA1) (SB_k hB).1 (SB_k hB).2) ?_
      rintro ⟨V2, L2⟩ ⟨s1, s2, s3⟩
      refine zX_callR (r_copies (L := M) (a := 0) (b := 1) (by omega) (by omega) (by omega) (q5 _ hA1) (SB_k hB).1 (SB_k hB).2) ?_
      rintro ⟨R2, M2⟩ ⟨o1, o2, o3, o4⟩
      dsimp only at s1 s2 s3 o1 o2 o3 o4 ⊢
      replace o4 := o4.symm
      subst o4
      have hjs := h1.2.2.2.2.2.2.2.1
      have h2 := JJ_state h1 s1 o1 hB (fun w hw => s2 w (by omega)) o2 rfl (by rw [s2 22 (by omega)]; exact hjs)
      refine zX_some ?_
      dsimp only
      exact ⟨rfl, u, b, f0, cnt, 0, x, pl, U, _, hi, JJ_acts (Nat.zero_le _) h2⟩
    · exact absurd p3 q4
  · rcases q1 with ⟨-, q4, -⟩ | ⟨rfl, -⟩
    · exact absurd q4 p3
    · simp (disch := omega) only [↓reduceIte, o_bind, and_true, true_and, and_false, false_and, or_true, true_or, or_false, false_or, not_true, not_false_eq_true, not_false_iff, ne_eq, Nat.reduceAdd, Nat.reduceMul, Nat.reduceSub, Nat.reduceDiv, Nat.reduceMod, Nat.reduceLT, Nat.reduceLeDiff, Nat.reduceEqDiff, Nat.not_lt, Nat.not_le, q_lit, ↓q_m1, q_om, q_on, q_add, q_mul, q_sub, q_div, q_md, q_ltT, q_ltF, q_leT, q_leF, q_eqT, q_eqF, q_inT, q_inF, q_nn, q_mlt, q_ltm, q_mle, q_lem, q_nem, q_mne]
      refine zX_call (x_refuse (k := 5) (by omega) h1) ?_
      rintro ⟨y, V2, L2⟩ ⟨y', R2, M2⟩ ⟨s1, s2, s3⟩
      dsimp only at s1 s2 s3 ⊢
      subst s2
      simp (disch := omega) only [q_mlt, ↓reduceIte]
      refine zX_some ?_
      dsimp only
      exact ⟨rfl, u, b, f0, cnt, acts, x, pl, U, A, hi, s3⟩
end
