section
variable {n : Nat} {K N : Nat → Nat} {G : zG} {V R : zI} {L M : zL} {w d : Nat → Nat} {y k f t i B u p b : Nat}
def r5 (R R' : zI) (b : Nat) : Prop := (∀ x, x ≠ 5 → R' x = R x) ∧ ∀ j, (j < 36 * b ∨ 36 * b + 36 ≤ j) → R' 5 j = R 5 j
theorem r5_rf : r5 R R b := ⟨fun _ _ => rfl, fun _ _ => rfl⟩
theorem r5_st {R1 : zI} {x : Int32} (h : r5 R R1 b) (hk : k < 36) : r5 R (z_uI R1 5 (36 * b + k) x) b := ⟨fun x hx => by rw [z_neP hx]; exact h.1 x hx, fun j hj => by rw [z_neK (by omega)]; exact h.2 j hj⟩
theorem mR_st {a c : Nat → Nat} {v : Nat} (h : ∀ k, k < 36 → R 5 (36 * b + k) = qi (mdF a c i k)) (hv : v = a i) : ∀ k, k < 36 → z_uI R 5 (36 * b + i) (qi v) 5 (36 * b + k) = qi (mdF a c (i + 1) k) := by
  intro k hk
  unfold mdF
  by_cases e : k = i
  · subst e
    rw [z_same, if_pos (by omega), hv]
  · rw [z_neK (by omega), h k hk]
    unfold mdF
    by_cases e2 : k < i
    · rw [if_pos e2, if_pos (by omega)]
    · rw [if_neg e2, if_neg (by omega)]
theorem mR_no {a c : Nat → Nat} (h : ∀ k, k < 36 → R 5 (36 * b + k) = qi (mdF a c i k)) (hv : a i = c i) : ∀ k, k < 36 → R 5 (36 * b + k) = qi (mdF a c (i + 1) k) := by
  intro k hk
  rw [h k hk]
  unfold mdF
  by_cases e : k = i
  · subst e
    rw [if_neg (by omega), if_pos (by omega), hv]
  · by_cases e2 : k < i
    · rw [if_pos e2, if_pos (by omega)]
    · rw [if_neg e2, if_neg (by omega)]
theorem itM_b (h : ∀ k, k < 36 → d k ≤ 100000000) : ∀ i k, k < 36 → itM d i k ≤ 100000000 := fun i k hk => Nat.le_trans (itM_le i k) (h k hk)
theorem mO_b (h : wI w 9) (hk : k < 36) : mO w k ≤ 100000000 := by
  have := (h k hk).1
  unfold mO
  repeat' split
  all_goals omega
set_option maxHeartbeats 8000000 in
theorem r_meas1 {k101 : Int32 × Int32 × zI × zL → Option (zI × zL)} {k93 : Int32 × zI × zL → Option (zI × zL)} {P : zI × zL → Prop} {R0 : zI} (hb : b < 2) (hy : y < 6) (hf : f < 6) (h26 : R0 0 26 = qi b) (hd0 : d (6 * y + y) = 0) (hdb : ∀ k, k < 36 → d k ≤ 100000000) (hfr : r5 R0 R b) (hR : ∀ k, k < 36 → R 5 (36 * b + k) = qi (mdF (rdM d y) d (6 * f) k)) (hk : ∀ R', (∀ k, k < 36 → R' 5 (36 * b + k) = qi (mdF (rdM d y) d (6 * f + 6) k)) → r5 R0 R' b → zW (k101 (qi y, qi (f + 1), R', M)) P) : zW (zfix (b_measures_109 k93 k101) FU (qi y, qi f, qi 0, R, M)) P := by
  refine zW_lp (I := fun r z => ∃ (t : Nat) (R1 : zI), t ≤ 6 ∧ r = 6 - t ∧ z = (qi y, qi f, qi t, R1, M) ∧ (∀ k, k < 36 → R1 5 (36 * b + k) = qi (mdF (rdM d y) d (6 * f + t) k)) ∧ r5 R0 R1 b) ?_ FU 6 _ ⟨0, R, by omega, by omega, rfl, hR, hfr⟩ (FU_big (by omega))
  rintro kk r z ⟨t, R1, ht, rfl, rfl, h1, hx⟩ ih
  by_cases hend : t = 6
  · subst hend
    have g := hk R1 h1 hx
    simp (disch := omega) only [b_measures_109, ↓reduceIte, o_bind, and_true, true_and, and_false, false_and, or_true, true_or, or_false, false_or, not_true, not_false_eq_true, not_false_iff, ne_eq, Nat.reduceAdd, Nat.reduceMul, Nat.reduceSub, Nat.reduceDiv, Nat.reduceMod, Nat.reduceLT, Nat.reduceLeDiff, Nat.reduceEqDiff, Nat.not_lt, Nat.not_le, q_lit, q_leT, q_add]
    exact g
  have ht6 : t < 6 := by omega
  have e26 : R1 0 26 = qi b := by rw [hx.1 0 (by omega)]; exact h26
  have ea : R1 5 (36 * b + 6 * f + y) = qi (d (6 * f + y)) := by rw [Nat.add_assoc, h1 _ (by omega), mdF_e (rdM_c1 hd0 hy)]
  have eb : R1 5 (36 * b + 6 * y + t) = qi (d (6 * y + t)) := by rw [Nat.add_assoc, h1 _ (by omega), mdF_e (rdM_c2 hd0 ht6)]
  have ec : R1 5 (36 * b + 6 * f + t) = qi (d (6 * f + t)) := by
    rw [Nat.add_assoc, h1 _ (by omega)]
    unfold mdF
    rw [if_neg (by omega)]
  have ba := hdb (6 * f + y) (by omega)
  have bb := hdb (6 * y + t) (by omega)
  have bc := hdb (6 * f + t) (by omega)
  have at1 : ∀ x z : Nat, f_at (R1 0 26) (qi x) (qi z) R1 M = some (qi (36 * b + 6 * x + z), R1, M) := fun x z => by
    show some (qi 36 * R1 0 26 + qi 6 * qi x + qi z, R1, M) = _
    rw [e26, q_mul, q_mul, q_add, q_add]
  unfold b_measures_109
  dsimp only
  rw [if_neg (show ¬ 6 ≤ qi t from fun h => by have := (q_le (a := 6) (b := t) (by omega) (by omega)).mp h; omega)]
  refine zW_is (at1 f y) ?_
  refine zW_if1 (q_inP (by omega) (by omega)) ?_
  refine zW_is (at1 y t) ?_
  refine zW_if1 (q_inP (by omega) (by omega)) ?_
  refine zW_is (at1 f t) ?_
  refine zW_if1 (q_inP (by omega) (by omega)) ?_
  dsimp only
  have ht1 : qi t + 1 = qi (t + 1) := q_add t 1
  have s1 : R1 5 (qi (36 * b + 6 * f + y)).toNatClampNeg = qi (d (6 * f + y)) := by rw [q_nn (by omega)]; exact ea
  have s2 : R1 5 (qi (36 * b + 6 * y + t)).toNatClampNeg = qi (d (6 * y + t)) := by rw [q_nn (by omega)]; exact eb
  have s3 : R1 5 (qi (36 * b + 6 * f + t)).toNatClampNeg = qi (d (6 * f + t)) := by rw [q_nn (by omega)]; exact ec
  by_cases hlt : d (6 * f + y) + d (6 * y + t) < d (6 * f + t)
  · refine zW_if0 (fun h => by
      rw [s1, s2, s3, q_add] at h
      have := (q_le (by omega) (by omega)).mp h
      omega) ?_
    refine zW_is (at1 f t) ?_
    refine zW_if1 (q_inP (by omega) (by omega)) ?_
    dsimp only
    rw [s1, s2, q_add, ht1, q_nn (by omega), Nat.add_assoc (36 * b)]
    exact ih (6 - (t + 1)) _ (by omega) ⟨t + 1, _, by omega, rfl, rfl, mR_st h1 (by rw [rdM_e ht6, if_pos hlt]), r5_st hx (by omega)⟩
  · refine zW_if1 (by
      rw [s1, s2, s3, q_add]
      exact (q_le (by omega) (by omega)).mpr (by omega)) ?_
    rw [ht1]
    exact ih (6 - (t + 1)) _ (by omega) ⟨t + 1, R1, by omega, rfl, rfl, mR_no (i := 6 * f + t) h1 (by rw [rdM_e ht6, if_neg hlt]), hx⟩
set_option maxHeartbeats 4000000 in
theorem r_meas2 {R0 : zI} (hb : b < 2) (h26 : R0 0 26 = qi b) (hd0 : ∀ f, f < 6 → d (6 * f + f) = 0) (hdb : ∀ k, k < 36 → d k ≤ 100000000) (hfr : r5 R0 R b) (hR : ∀ k, k < 36 → R 5 (36 * b + k) = qi (d k)) : zW (zfix b_measures_93 FU (qi 0, R, M)) (fun r => (∀ k, k < 36 → r.1 5 (36 * b + k) = qi (itM d 6 k)) ∧ r5 R0 r.1 b ∧ r.2 = M) := by
  refine zW_lp (I := fun r z => ∃ (y : Nat) (R1 : zI), y ≤ 6 ∧ r = 6 - y ∧ z = (qi y, R1, M) ∧ (∀ k, k < 36 → R1 5 (36 * b + k) = qi (itM d y k)) ∧ r5 R0 R1 b) ?_ FU 6 _ ⟨0, R, by omega, by omega, rfl, hR, hfr⟩ (FU_big (by omega))
  rintro kk r z ⟨y, R1, hy, rfl, rfl, h1, hx⟩ ih
  by_cases hend : y = 6
  · subst hend
    simp (disch := omega) only [b_measures_93, ↓reduceIte, o_bind, and_true, true_and, and_false, false_and, or_true, true_or, or_false, false_or, not_true, not_false_eq_true, not_false_iff, ne_eq, Nat.reduceAdd, Nat.reduceMul, Nat.reduceSub, Nat.reduceDiv, Nat.reduceMod, Nat.reduceLT, Nat.reduceLeDiff, Nat.reduceEqDiff, Nat.not_lt, Nat.not_le, q_lit, q_leT]
    exact zW_some ⟨h1, hx, rfl⟩
  simp (disch := omega) only [b_measures_93, ↓reduceIte, o_bind, and_true, true_and, and_false, false_and, or_true, true_or, or_false, false_or, not_true, not_false_eq_true, not_false_iff, ne_eq, Nat.reduceAdd, Nat.reduceMul, Nat.reduceSub, Nat.reduceDiv, Nat.reduceMod, Nat.reduceLT, Nat.reduceLeDiff, Nat.reduceEqDiff, Nat.not_lt, Nat.not_le, q_lit, q_leF]
  have hdy := (tri_it hd0 y hy).1 y (by omega)
  refine zW_lp (I := fun r z => ∃ (f : Nat) (R2 : zI), f ≤ 6 ∧ r = 6 - f ∧ z = (qi y, qi f, R2, M) ∧ (∀ k, k < 36 → R2 5 (36 * b + k) = qi (mdF (rdM (itM d y) y) (itM d y) (6 * f) k)) ∧ r5 R0 R2 b) ?_ FU 6 _ ⟨0, R1, by omega, by omega, rfl, fun k hk => by rw [h1 k hk]; unfold mdF; rw [if_neg (by omega)], hx⟩ (FU_big (by omega))
  rintro k2 r z ⟨f, R2, hf, rfl, rfl, h2, hx2⟩ ih2
  by_cases hend2 : f = 6
  · subst hend2
    have g := ih (6 - (y + 1)) (qi (y + 1), R2, M) (by omega) ⟨y + 1, R2, by omega, rfl, rfl, fun k hk => by rw [h2 k hk]; unfold mdF; rw [if_pos (by omega)]; rfl, hx2⟩
    simp (disch := omega) only [b_measures_101, ↓reduceIte, o_bind, and_true, true_and, and_false, false_and, or_true, true_or, or_false, false_or, not_true, not_false_eq_true, not_false_iff, ne_eq, Nat.reduceAdd, Nat.reduceMul, Nat.reduceSub, Nat.reduceDiv, Nat.reduceMod, Nat.reduceLT, Nat.reduceLeDiff, Nat.reduceEqDiff, Nat.not_lt, Nat.not_le, q_lit, q_leT, q_add]
    exact g
  simp (disch := omega) only [b_measures_101, ↓reduceIte, o_bind, and_true, true_and, and_false, false_and, or_true, true_or, or_false, false_or, not_true, not_false_eq_true, not_false_iff, ne_eq, Nat.reduceAdd, Nat.reduceMul, Nat.reduceSub, Nat.reduceDiv, Nat.reduceMod, Nat.reduceLT, Nat.reduceLeDiff, Nat.reduceEqDiff, Nat.not_lt, Nat.not_le, q_lit, q_leF]
  exact r_meas1 hb (by omega) (by omega) h26 hdy (itM_b hdb y) hx2 h2 (fun R3 g1 g2 => ih2 (6 - (f + 1)) _ (by omega) ⟨f + 1, R3, by omega, rfl, rfl, g1, g2⟩)
set_option maxHeartbeats 8000000 in
theorem r_meas (hb : b < 2) (h26 : R 0 26 = qi b) (hw : wI w 9) (h4 : ∀ k, k < 36 → R 4 (36 * b + k) = qi (w k)) : zW (f_measures R M) (fun r => (∀ k, k < 36 → r.1 5 (36 * b + k) = qi (mO (itW w 6) k)) ∧ r5 R r.1 b ∧ r.2 = M) := by
  unfold f_measures
  refine zW_lp (I := fun r z => ∃ (f : Nat) (R1 : zI), f ≤ 6 ∧ r = 6 - f ∧ z = (qi f, R1, M) ∧ (∀ k, k < 6 * f → R1 5 (36 * b + k) = qi (mO w k)) ∧ r5 R R1 b) ?_ FU 6 _ ⟨0, R, by omega, by omega, rfl, fun k hk => absurd hk (by omega), r5_rf⟩ (FU_big (by omega))
  rintro kk r z ⟨f, R1, hf, rfl, rfl, h1, hx⟩ ih
  by_cases hend : f = 6
  · subst hend
    simp (disch := omega) only [b_measures_2, ↓reduceIte, o_bind, and_true, true_and, and_false, false_and, or_true, true_or, or_false, false_or, not_true, not_false_eq_true, not_false_iff, ne_eq, Nat.reduceAdd, Nat.reduceMul, Nat.reduceSub, Nat.reduceDiv, Nat.reduceMod, Nat.reduceLT, Nat.reduceLeDiff, Nat.reduceEqDiff, Nat.not_lt, Nat.not_le, q_lit, q_leT]
    refine zW_mono (r_meas2 (d := mO w) hb h26 (fun f hf => by rw [mO_e hf, if_pos rfl]) (fun k hk => mO_b hw hk) hx (fun k hk => h1 k (by omega))) ?_
    rintro ⟨R2, M2⟩ ⟨a1, a2, a3⟩
    exact ⟨fun k hk => by rw [it_eq hw 6 (by omega) k hk]; exact a1 k hk, a2, a3⟩
  simp (disch := omega) only [b_measures_2, ↓reduceIte, o_bind, and_true, true_and, and_false, false_and, or_true, true_or, or_false, false_or, not_true, not_false_eq_true, not_false_iff, ne_eq, Nat.reduceAdd, Nat.reduceMul, Nat.reduceSub, Nat.reduceDiv, Nat.reduceMod, Nat.reduceLT, Nat.reduceLeDiff, Nat.reduceEqDiff, Nat.not_lt, Nat.not_le, q_lit, q_leF]
  refine zW_lp (I := fun r z => ∃ (t : Nat) (R2 : zI), t ≤ 6 ∧ r = 6 - t ∧ z = (qi f, qi t, R2, M) ∧ (∀ k, k < 6 * f + t → R2 5 (36 * b + k) = qi (mO w k)) ∧ r5 R R2 b) ?_ FU 6 _ ⟨0, R1, by omega, by omega, rfl, h1, hx⟩ (FU_big (by omega))
  rintro k2 r z ⟨t, R2, ht, rfl, rfl, h2, hx2⟩ ih2
  by_cases hend2 : t = 6
  · subst hend2
    have g := ih (6 - (f + 1)) (qi (f + 1), R2, M) (by omega) ⟨f + 1, R2, by omega, rfl, rfl, fun k hk => h2 k (by omega), hx2⟩
    simp (disch := omega) only [b_measures_10, ↓reduceIte, o_bind, and_true, true_and, and_false, false_and, or_true, true_or, or_false, false_or, not_true, not_false_eq_true, not_false_iff, ne_eq, Nat.reduceAdd, Nat.reduceMul, Nat.reduceSub, Nat.reduceDiv, Nat.reduceMod, Nat.reduceLT, Nat.reduceLeDiff, Nat.reduceEqDiff, Nat.not_lt, Nat.not_le, q_lit, q_leT, q_add]
    exact g
  have ht6 : t < 6 := by omega
  have e26 : R2 0 26 = qi b := by rw [hx2.1 0 (by omega)]; exact h26
  have e4 : R2 4 (36 * b + 6 * f + t) = qi (w (6 * f + t)) := by rw [hx2.1 4 (by omega), Nat.add_assoc]; exact h4 _ (by omega)
  have b9 := (hw (6 * f + t) (by omega)).1
  have hgo : ∀ v, v = mO w (6 * f + t) → zW (k2 (qi f, qi (t + 1), z_uI R2 5 (36 * b + 6 * f + t) (qi v), M)) (fun r => (∀ k, k < 36 → r.1 5 (36 * b + k) = qi (mO (itW w 6) k)) ∧ r5 R r.1 b ∧ r.2 = M) := by
    intro v hv
    rw [Nat.add_assoc (36 * b)]
    refine ih2 (6 - (t + 1)) _ (by omega) ⟨t + 1, _, by omega, rfl, rfl, fun k hk => ?_, r5_st hx2 (by omega)⟩
    by_cases e : k = 6 * f + t
    · subst e; rw [z_same, hv]
    · rw [z_neK (by omega)]; exact h2 k (by omega)
  by_cases c1 : f = t
  · have g := hgo 0 (by rw [mO_e ht6, if_pos c1])
    simp (disch := omega) only [b_measures_10, f_at, e26, ↓reduceIte, o_bind, and_true, true_and, and_false, false_and, or_true, true_or, or_false, false_or, not_true, not_false_eq_true, not_false_iff, ne_eq, Nat.reduceAdd, Nat.reduceMul, Nat.reduceSub, Nat.reduceDiv, Nat.reduceMod, Nat.reduceLT, Nat.reduceLeDiff, Nat.reduceEqDiff, Nat.not_lt, Nat.not_le, q_lit, ↓q_m1, q_om, q_on, q_add, q_mul, q_sub, q_div, q_md, q_ltT, q_ltF, q_leT, q_leF, q_eqT, q_eqF, q_inT, q_inF, q_nn, q_mlt, q_ltm, q_mle, q_lem, q_nem, q_mne]
    exact g
  by_cases c2 : w (6 * f + t) = 0
  · have g := hgo 100000000 (by rw [mO_e ht6, if_neg c1, if_pos c2])
    simp (disch := omega) only [b_measures_10, f_at, e26, e4, c2, ↓reduceIte, o_bind, and_true, true_and, and_false, false_and, or_true, true_or, or_false, false_or, not_true, not_false_eq_true, not_false_iff, ne_eq, Nat.reduceAdd, Nat.reduceMul, Nat.reduceSub, Nat.reduceDiv, Nat.reduceMod, Nat.reduceLT, Nat.reduceLeDiff, Nat.reduceEqDiff, Nat.not_lt, Nat.not_le, q_lit, ↓q_m1, q_om, q_on, q_add, q_mul, q_sub, q_div, q_md, q_ltT, q_ltF, q_leT, q_leF, q_eqT, q_eqF, q_inT, q_inF, q_nn, q_mlt, q_ltm, q_mle, q_lem, q_nem, q_mne]
    exact g
  · have g := hgo (w (6 * f + t)) (by rw [mO_e ht6, if_neg c1, if_neg c2])
    simp (disch := omega) only [b_measures_10, f_at, e26, e4, ↓reduceIte, o_bind, and_true, true_and, and_false, false_and, or_true, true_or, or_false, false_or, not_true, not_false_eq_true, not_false_iff, ne_eq, Nat.reduceAdd, Nat.reduceMul, Nat.reduceSub, Nat.reduceDiv, Nat.reduceMod, Nat.reduceLT, Nat.reduceLeDiff, Nat.reduceEqDiff, Nat.not_lt, Nat.not_le, q_lit, ↓q_m1, q_om, q_on, q_add, q_mul, q_sub, q_div, q_md, q_ltT, q_ltF, q_leT, q_leF, q_eqT, q_eqF, q_inT, q_inF, q_nn, q_mlt, q_ltm, q_mle, q_lem, q_nem, q_mne]
    exact g
end
