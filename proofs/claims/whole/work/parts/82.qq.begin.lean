section
variable {n : Nat} {K N : Nat → Nat} {G : zG} {V R : zI} {L M : zL} {st w : Nat → Nat} {b u p : Nat} {U : aU}
set_option maxHeartbeats 4000000 in
theorem r_begin (hb : b < 2) (h13 : R 0 13 = qi b) (h6 : ∀ k, k < 36 → R 6 (36 * b + k) = qi (st k)) : zW (f_begin R M) (fun r => (∀ k, k < 36 → r.1 21 k = qi (st k) ∧ r.1 22 k = qi 0 ∧ r.1 23 k = qi 0) ∧ (r.1 20 0 = qi 0 ∧ r.1 24 0 = qi 0 ∧ r.1 26 0 = qi 0 ∧ r.1 0 48 = qi 0 ∧ r.1 0 60 = qi 0) ∧ (∀ j, j ≠ 48 → j ≠ 60 → r.1 0 j = R 0 j) ∧ (∀ w, w ≠ 0 → w ≠ 20 → w ≠ 21 → w ≠ 22 → w ≠ 23 → w ≠ 24 → w ≠ 26 → r.1 w = R w) ∧ r.2 = M) := by
  have s0 : (0 : Int32).toNatClampNeg = 0 := rfl
  unfold f_begin
  rw [s0]
  refine zW_lp (I := fun r z => ∃ (i : Nat) (R1 : zI), i ≤ 36 ∧ r = 36 - i ∧ z = (qi i, R1, M) ∧ (∀ k, k < i → R1 21 k = qi (st k) ∧ R1 22 k = qi 0 ∧ R1 23 k = qi 0) ∧ R1 20 0 = qi 0 ∧ ∀ w, w ≠ 20 → w ≠ 21 → w ≠ 22 → w ≠ 23 → R1 w = R w) ?_ FU 36 _ ⟨0, _, by omega, by omega, rfl, fun k hk => absurd hk (by omega), z_same, fun w w1 _ _ _ => z_neP w1⟩ (FU_big (by omega))
  rintro kk r z ⟨i, R1, hi, rfl, rfl, h1, h2, hw⟩ ih
  by_cases hend : i = 36
  · subst hend
    simp (disch := omega) only [b_begin_9, ↓reduceIte, o_bind, and_true, true_and, and_false, false_and, or_true, true_or, or_false, false_or, not_true, not_false_eq_true, not_false_iff, ne_eq, Nat.reduceAdd, Nat.reduceMul, Nat.reduceSub, Nat.reduceDiv, Nat.reduceMod, Nat.reduceLT, Nat.reduceLeDiff, Nat.reduceEqDiff, Nat.not_lt, Nat.not_le, q_lit, q_leT, q_nn]
    refine zW_some ⟨fun k hk => ?_, ⟨?_, ?_, ?_, ?_, ?_⟩, fun j j1 j2 => ?_, fun w w0 w1 w2 w3 w4 w5 w6 => ?_, rfl⟩
    · simp (disch := omega) only [z_same, z_neP, z_neK, zL_same, zL_neP, zL_neK, zr_same, zr_ne]; exact h1 k hk
    · simp (disch := omega) only [z_same, z_neP, z_neK, zL_same, zL_neP, zL_neK, zr_same, zr_ne]; exact h2
    · simp (disch := omega) only [z_same, z_neP, z_neK, zL_same, zL_neP, zL_neK, zr_same, zr_ne]
    · simp (disch := omega) only [z_same, z_neP, z_neK, zL_same, zL_neP, zL_neK, zr_same, zr_ne]
    · simp (disch := omega) only [z_same, z_neP, z_neK, zL_same, zL_neP, zL_neK, zr_same, zr_ne]
    · simp (disch := omega) only [z_same, z_neP, z_neK, zL_same, zL_neP, zL_neK, zr_same, zr_ne]
    · simp (disch := omega) only [z_same, z_neP, z_neK, zL_same, zL_neP, zL_neK, zr_same, zr_ne]; rw [hw 0 (by omega) (by omega) (by omega) (by omega)]
    · simp (disch := omega) only [z_same, z_neP, z_neK, zL_same, zL_neP, zL_neK, zr_same, zr_ne]; exact hw w w1 w2 w3 w4
  · have e13 : R1 0 13 = qi b := by rw [hw 0 (by omega) (by omega) (by omega) (by omega)]; exact h13
    have e6 : R1 6 (36 * b + i) = qi (st i) := by rw [hw 6 (by omega) (by omega) (by omega) (by omega)]; exact h6 i (by omega)
    simp (disch := omega) only [b_begin_9, e13, e6, ↓reduceIte, o_bind, and_true, true_and, and_false, false_and, or_true, true_or, or_false, false_or, not_true, not_false_eq_true, not_false_iff, ne_eq, Nat.reduceAdd, Nat.reduceMul, Nat.reduceSub, Nat.reduceDiv, Nat.reduceMod, Nat.reduceLT, Nat.reduceLeDiff, Nat.reduceEqDiff, Nat.not_lt, Nat.not_le, q_lit, q_leF, q_nn, q_inT, q_add, q_mul]
    refine ih (36 - (i + 1)) _ (by omega) ⟨i + 1, _, by omega, rfl, rfl, fun k hk => ?_, ?_, fun w w1 w2 w3 w4 => ?_⟩
    · by_cases e : k = i
      · subst e
        simp (disch := omega) only [z_same, z_neP, z_neK, zL_same, zL_neP, zL_neK, zr_same, zr_ne]
        exact ⟨trivial, trivial, trivial⟩
      · simp (disch := omega) only [z_same, z_neP, z_neK, zL_same, zL_neP, zL_neK, zr_same, zr_ne]
        exact h1 k (by omega)
    · simp (disch := omega) only [z_same, z_neP, z_neK, zL_same, zL_neP, zL_neK, zr_same, zr_ne]; exact h2
    · simp (disch := omega) only [z_same, z_neP, z_neK, zL_same, zL_neP, zL_neK, zr_same, zr_ne]; exact hw w w1 w2 w3 w4
/-! a union that has been read, ways not yet measured -/
def upB (w st : Nat → Nat) (U : aU) : Prop := wI w 9 ∧ (∀ k, k < 36 → 0 < w k → k / 6 < U.1 ∧ k % 6 < U.1) ∧ (∀ k, k < 36 → st k ≤ 99) ∧ (∀ k, k < 36 → ¬ (k / 6 < U.1 ∧ k % 6 < U.1 ∧ k / 6 ≠ k % 6) → st k = 0) ∧ U.2.2.1 = itW w 6
theorem up_way (h : upB w st U) : ∀ k, k < 36 → U.2.2.1 k ≤ 45 ∧ (0 < U.2.2.1 k → k / 6 < U.1 ∧ k % 6 < U.1 ∧ k / 6 ≠ k % 6) := by
  obtain ⟨h1, h2, h3, h4, h5⟩ := h
  rw [h5]
  intro k hk
  refine ⟨itW_45 h1 hk, fun h0 => ?_⟩
  have := itW_p (P := fun x => x < U.1) h2 6 (by omega) k hk h0
  refine ⟨this.1, this.2, fun e => ?_⟩
  have := (itW_I h1 6 (by omega) k hk).2 e
  omega
def A0 (st : Nat → Nat) : aS := (0, st, fun _ => 0, fun _ => 0, 0, fun _ => 0, fun _ => 0, 0, fun _ => 0)
theorem up_SB (h : upB w st U) : SB U (A0 st) := by
  obtain ⟨h1, h2, h3, h4, h5⟩ := h
  obtain ⟨tw, ct, way, encl, lost, rul, nam⟩ := U
  exact ⟨⟨Nat.zero_le _, Nat.zero_le _, Nat.zero_le _⟩, fun k hk => ⟨h3 k hk, Nat.zero_le _, Nat.zero_le _⟩, fun k hk hp => ⟨h4 k hk hp, rfl, rfl⟩, fun k hk => absurd hk (Nat.not_lt_zero _), fun k hk => absurd hk (Nat.not_lt_zero _)⟩
theorem up_SC {s : Nat} (h : ∀ k, k < 36 → V (s + 1) k = qi (st k) ∧ V (s + 2) k = qi 0 ∧ V (s + 3) k = qi 0) (g : V s 0 = qi 0 ∧ V s 4 = qi 0 ∧ V s 7 = qi 0) : SC V s (A0 st) := ⟨g, fun k hk => (h k hk).1, fun k hk => (h k hk).2.1, fun k hk => (h k hk).2.2, fun k hk => absurd hk (Nat.not_lt_zero _), fun k hk => absurd hk (Nat.not_lt_zero _), fun k hk => absurd hk (Nat.not_lt_zero _)⟩
theorem up_SR (h : ∀ k, k < 36 → R 21 k = qi (st k) ∧ R 22 k = qi 0 ∧ R 23 k = qi 0) (g : R 20 0 = qi 0 ∧ R 24 0 = qi 0 ∧ R 26 0 = qi 0) : SR R 0 (A0 st) := by
  refine ⟨g, fun k hk => ?_, fun k hk => ?_, fun k hk => ?_, fun k hk => absurd hk (Nat.not_lt_zero _), fun k hk => absurd hk (Nat.not_lt_zero _), fun k hk => absurd hk (Nat.not_lt_zero _), fun k hk => absurd hk (Nat.not_lt_zero _), fun k hk => absurd hk (Nat.not_lt_zero _), fun k hk => absurd hk (Nat.not_lt_zero _), fun k hk => absurd hk (Nat.not_lt_zero _)⟩
  · rw [Nat.mul_zero, Nat.zero_add]; exact (h k hk).1
  · rw [Nat.mul_zero, Nat.zero_add]; exact (h k hk).2.1
  · rw [Nat.mul_zero, Nat.zero_add]; exact (h k hk).2.2
end
