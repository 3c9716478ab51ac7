section
/-! the two constructors -/
def U00 : aU := (0, 0, fun _ => 0, 1, 0, fun _ => none, fun _ => [])
def A00 : aS := (0, fun _ => 0, fun _ => 0, fun _ => 0, 0, fun _ => 0, fun _ => 0, 0, fun _ => 0)
theorem io_2 : (¬ (2 : Int32) < 0 ∧ 2 ≤ 100000) = True := eq_true (by decide)
theorem it_2 : (2 : Int32).toNatClampNeg = 2 := rfl
theorem io_3 : (¬ (3 : Int32) < 0 ∧ 3 ≤ 100000) = True := eq_true (by decide)
theorem it_3 : (3 : Int32).toNatClampNeg = 3 := rfl
theorem io_4 : (¬ (4 : Int32) < 0 ∧ 4 ≤ 100000) = True := eq_true (by decide)
theorem it_4 : (4 : Int32).toNatClampNeg = 4 := rfl
theorem io_6 : (¬ (6 : Int32) < 0 ∧ 6 ≤ 100000) = True := eq_true (by decide)
theorem it_6 : (6 : Int32).toNatClampNeg = 6 := rfl
theorem io_12 : (¬ (12 : Int32) < 0 ∧ 12 ≤ 100000) = True := eq_true (by decide)
theorem it_12 : (12 : Int32).toNatClampNeg = 12 := rfl
theorem io_16 : (¬ (16 : Int32) < 0 ∧ 16 ≤ 100000) = True := eq_true (by decide)
theorem it_16 : (16 : Int32).toNatClampNeg = 16 := rfl
theorem io_20 : (¬ (20 : Int32) < 0 ∧ 20 ≤ 100000) = True := eq_true (by decide)
theorem it_20 : (20 : Int32).toNatClampNeg = 20 := rfl
theorem io_22 : (¬ (22 : Int32) < 0 ∧ 22 ≤ 100000) = True := eq_true (by decide)
theorem it_22 : (22 : Int32).toNatClampNeg = 22 := rfl
theorem io_36 : (¬ (36 : Int32) < 0 ∧ 36 ≤ 100000) = True := eq_true (by decide)
theorem it_36 : (36 : Int32).toNatClampNeg = 36 := rfl
theorem io_50 : (¬ (50 : Int32) < 0 ∧ 50 ≤ 100000) = True := eq_true (by decide)
theorem it_50 : (50 : Int32).toNatClampNeg = 50 := rfl
theorem io_60 : (¬ (60 : Int32) < 0 ∧ 60 ≤ 100000) = True := eq_true (by decide)
theorem it_60 : (60 : Int32).toNatClampNeg = 60 := rfl
theorem io_72 : (¬ (72 : Int32) < 0 ∧ 72 ≤ 100000) = True := eq_true (by decide)
theorem it_72 : (72 : Int32).toNatClampNeg = 72 := rfl
theorem io_128 : (¬ (128 : Int32) < 0 ∧ 128 ≤ 100000) = True := eq_true (by decide)
theorem it_128 : (128 : Int32).toNatClampNeg = 128 := rfl
theorem io_280 : (¬ (280 : Int32) < 0 ∧ 280 ≤ 100000) = True := eq_true (by decide)
theorem it_280 : (280 : Int32).toNatClampNeg = 280 := rfl
theorem io_500 : (¬ (500 : Int32) < 0 ∧ 500 ≤ 100000) = True := eq_true (by decide)
theorem it_500 : (500 : Int32).toNatClampNeg = 500 := rfl
theorem io_512 : (¬ (512 : Int32) < 0 ∧ 512 ≤ 100000) = True := eq_true (by decide)
theorem it_512 : (512 : Int32).toNatClampNeg = 512 := rfl
theorem io_792 : (¬ (792 : Int32) < 0 ∧ 792 ≤ 100000) = True := eq_true (by decide)
theorem it_792 : (792 : Int32).toNatClampNeg = 792 := rfl
theorem io_1600 : (¬ (1600 : Int32) < 0 ∧ 1600 ≤ 100000) = True := eq_true (by decide)
theorem it_1600 : (1600 : Int32).toNatClampNeg = 1600 := rfl
theorem io_1800 : (¬ (1800 : Int32) < 0 ∧ 1800 ≤ 100000) = True := eq_true (by decide)
theorem it_1800 : (1800 : Int32).toNatClampNeg = 1800 := rfl
theorem io_3200 : (¬ (3200 : Int32) < 0 ∧ 3200 ≤ 100000) = True := eq_true (by decide)
theorem it_3200 : (3200 : Int32).toNatClampNeg = 3200 := rfl
theorem io_3960 : (¬ (3960 : Int32) < 0 ∧ 3960 ≤ 100000) = True := eq_true (by decide)
theorem it_3960 : (3960 : Int32).toNatClampNeg = 3960 := rfl
theorem io_4400 : (¬ (4400 : Int32) < 0 ∧ 4400 ≤ 100000) = True := eq_true (by decide)
theorem it_4400 : (4400 : Int32).toNatClampNeg = 4400 := rfl
set_option maxHeartbeats 4000000 in
set_option maxRecDepth 100000 in
theorem init_C : zW (f_X10_init 0 1 (fun _ => 8) (fun _ => 0) (fun _ _ => none) (fun _ _ => 0) (fun _ _ => 0)) (fun r => r.1 = 28 ∧ r.2.1 ≤ 100 ∧ r.2.2.1 ≤ 10000 ∧ Jg 28 r.2.2.2.1 r.2.2.2.2.1 r.2.2.2.2.2.1 2 0 (fun _ => 0) ∧ UC r.2.2.2.2.1 r.2.2.2.2.2.1 r.2.2.2.2.2.2.1 2 U00 ∧ SC r.2.2.2.2.2.2.1 6 A00 ∧ (r.2.2.2.2.2.2.1 0 1 = qi 0 ∧ r.2.2.2.2.2.2.1 0 3 = qi 0 ∧ r.2.2.2.2.2.2.1 0 4 = qm ∧ r.2.2.2.2.2.2.1 0 10 = qi 0 ∧ r.2.2.2.2.2.2.1 0 13 = qi 0 ∧ r.2.2.2.2.2.2.1 0 15 = qi 0 ∧ r.2.2.2.2.2.2.1 22 0 = qi 1) ∧ ∀ k, r.2.2.2.2.2.2.1 27 k = qi 0) := by
  simp only [f_X10_init_137, f_X10_init_124, f_X10_init_110, f_X10_init_102, f_X10_init_89, f_X10_init_80, f_X10_init_76, f_X10_init_69, f_X10_init_65, f_X10_init_58, f_X10_init_54, f_X10_init_47, f_X10_init_43, f_X10_init_26, f_X10_init_22, f_X10_init_10, g_X10_init, f_X10_init, f_X9_init_50, f_X9_init_42, f_X9_init_34, g_X9_init, f_X9_init, f_X7_init_64, f_X7_init_51, f_X7_init_43, f_X7_init_30, f_X7_init_22, f_X7_init_14, g_X7_init, f_X7_init, f_X4_init_10, g_X4_init, f_X4_init, g_X1_init, f_X1_init, io_6, it_6, io_16, it_16, io_20, it_20, io_36, it_36, io_50, it_50, io_60, it_60, io_128, it_128, io_512, it_512, io_1600, it_1600, ↓reduceIte, o_bind, Nat.reduceAdd, Nat.zero_add]
  refine zW_some ⟨rfl, by decide, by decide, ?_, ?_, ?_, ⟨rfl, rfl, rfl, rfl, rfl, rfl, rfl⟩, fun _ => rfl⟩
  · refine ⟨⟨by decide, rfl, ⟨⟨rfl, rfl, rfl, rfl, rfl, rfl, rfl, rfl, rfl, rfl, rfl⟩, ⟨⟨rfl, rfl, rfl, rfl, rfl, rfl⟩, rfl, rfl, rfl, rfl, rfl, rfl⟩, ⟨⟨rfl, rfl, rfl, rfl, rfl, rfl⟩, rfl, rfl, rfl, rfl, rfl, rfl⟩, rfl, rfl, rfl, rfl, rfl, rfl, rfl⟩, rfl, ⟨Or.inl rfl, ⟨rfl, rfl, rfl⟩, rfl, rfl, rfl⟩, by decide, by decide⟩, fun i hi => absurd hi (by omega), fun i _ _ => rfl, fun i j hi => absurd hi (by omega), fun i hi => absurd hi (by omega), fun i r p hi => absurd hi (by omega), fun r p hr hp => ?_⟩
    match r, hr with
    | 0, _ => cases hp
    | 1, _ => cases hp
    | 2, _ => cases hp
  · refine ⟨⟨rfl, rfl, rfl, rfl⟩, fun k _ => rfl, ⟨fun k hk => absurd hk (by omega), fun k _ _ => rfl⟩, fun r hr => ⟨fun _ => ?_, fun l hl => by cases hl⟩⟩
    match r, hr with
    | 0, _ => rfl
    | 1, _ => rfl
    | 2, _ => rfl
  · exact ⟨⟨rfl, rfl, rfl⟩, fun k _ => rfl, fun k _ => rfl, fun k _ => rfl, fun k hk => absurd hk (by omega), fun k hk => absurd hk (by omega), fun k hk => absurd hk (by omega)⟩
section
variable {n c q : Nat} {K N : Nat → Nat} {G : zG} {V : zI} {L : zL}
set_option maxHeartbeats 4000000 in
theorem r_dflt {j : Nat} (hj : j < 2) (g16 : G 0 16 = some 4) (g18 : G 0 18 = some 6) (g19 : G 0 19 = some 7) (n4 : N 4 = 72) (n6 : N 6 = 72) (n7 : N 7 = 4) : zW (f_X11_isDefault N G 0 (qi j) V L) (fun r => (∀ w, w ≠ 4 → w ≠ 6 → w ≠ 7 → r.1 w = V w) ∧ r.1 7 (2 * j) = qi 1 ∧ r.1 7 (2 * j + 1) = qi 0 ∧ (∀ k, k ≠ 2 * j → k ≠ 2 * j + 1 → r.1 7 k = V 7 k) ∧ r.2 = L) := by
  unfold f_X11_isDefault
  rw [g16, g18, g19]
  simp only [o_bind]
  simp (disch := omega) only [g_X11_isDefault, n7, ↓reduceIte, o_bind, and_true, true_and, and_false, false_and, or_true, true_or, or_false, false_or, not_true, not_false_eq_true, not_false_iff, ne_eq, Nat.reduceAdd, Nat.reduceMul, Nat.reduceSub, Nat.reduceDiv, Nat.reduceMod, Nat.reduceLT, Nat.reduceLeDiff, Nat.reduceEqDiff, Nat.not_lt, Nat.not_le, Nat.add_zero, Nat.zero_add, Nat.mul_zero, Nat.zero_mul, q_lit, q_mul, q_add, q_inT, q_nn]
  refine zW_lp (I := fun r z => ∃ (i : Nat) (V1 : zI), i ≤ 36 ∧ r = 36 - i ∧ z = (qi j, qi i, V1, L) ∧ (∀ w, w ≠ 4 → w ≠ 6 → w ≠ 7 → V1 w = V w) ∧ V1 7 (2 * j) = qi 1 ∧ V1 7 (2 * j + 1) = qi 0 ∧ ∀ k, k ≠ 2 * j → k ≠ 2 * j + 1 → V1 7 k = V 7 k) ?_ FU 36 _ ⟨0, _, by omega, by omega, rfl, fun w w1 w2 w3 => ?_, ?_, ?_, fun k k1 k2 => ?_⟩ (FU_big (by omega))
  rotate_left
  · simp (disch := omega) only [z_same, z_neP, z_neK, zL_same, zL_neP, zL_neK, zr_same, zr_ne]
  · simp (disch := omega) only [z_same, z_neP, z_neK, zL_same, zL_neP, zL_neK, zr_same, zr_ne]
  · simp (disch := omega) only [z_same, z_neP, z_neK, zL_same, zL_neP, zL_neK, zr_same, zr_ne]
  · simp (disch := omega) only [z_same, z_neP, z_neK, zL_same, zL_neP, zL_neK, zr_same, zr_ne]
  rintro kk r z ⟨i, V1, hi, rfl, rfl, h1, h2, h3, h4⟩ ih
  by_cases hend : i = 36
  · subst hend
    simp (disch := omega) only [b_X11_isDefault_24, ↓reduceIte, o_bind, and_true, true_and, and_false, false_and, or_true, true_or, or_false, false_or, not_true, not_false_eq_true, not_false_iff, ne_eq, Nat.reduceAdd, Nat.reduceMul, Nat.reduceSub, Nat.reduceDiv, Nat.reduceMod, Nat.reduceLT, Nat.reduceLeDiff, Nat.reduceEqDiff, Nat.not_lt, Nat.not_le, q_lit, q_leT]
    exact zW_some ⟨h1, h2, h3, h4, rfl⟩
  · simp (disch := omega) only [b_X11_isDefault_24, n4, n6, ↓reduceIte, o_bind, and_true, true_and, and_false, false_and, or_true, true_or, or_false, false_or, not_true, not_false_eq_true, not_false_iff, ne_eq, Nat.reduceAdd, Nat.reduceMul, Nat.reduceSub, Nat.reduceDiv, Nat.reduceMod, Nat.reduceLT, Nat.reduceLeDiff, Nat.reduceEqDiff, Nat.not_lt, Nat.not_le, q_lit, q_leF, q_mul, q_add, q_inT, q_nn]
    refine ih (36 - (i + 1)) _ (by omega) ⟨i + 1, _, by omega, rfl, rfl, fun w w1 w2 w3 => ?_, ?_, ?_, fun k k1 k2 => ?_⟩
    · simp (disch := omega) only [z_same, z_neP, z_neK, zL_same, zL_neP, zL_neK, zr_same, zr_ne]; exact h1 w w1 w2 w3
    · simp (disch := omega) only [z_same, z_neP, z_neK, zL_same, zL_neP, zL_neK, zr_same, zr_ne]; exact h2
    · simp (disch := omega) only [z_same, z_neP, z_neK, zL_same, zL_neP, zL_neK, zr_same, zr_ne]; exact h3
    · simp (disch := omega) only [z_same, z_neP, z_neK, zL_same, zL_neP, zL_neK, zr_same, zr_ne]; exact h4 k k1 k2
set_option maxHeartbeats 4000000 in
theorem r_ini (g16 : G 0 16 = some 4) (g18 : G 0 18 = some 6) (g19 : G 0 19 = some 7) (g20 : G 0 20 = some 8) (n4 : N 4 = 72) (n6 : N 6 = 72) (n7 : N 7 = 4) (n8 : N 8 = 6) : zW (zfix b_X11_init_443 FU (0, 0, n, c, q, K, N, G, V, L)) (fun r => (r.1 = n ∧ r.2.1 = c ∧ r.2.2.1 = q ∧ r.2.2.2.1 = K ∧ r.2.2.2.2.1 = N ∧ r.2.2.2.2.2.1 = G ∧ r.2.2.2.2.2.2.2 = L) ∧ (∀ w, w ≠ 4 → w ≠ 6 → w ≠ 7 → w ≠ 8 → r.2.2.2.2.2.2.1 w = V w) ∧ (∀ k, k < 6 → r.2.2.2.2.2.2.1 8 k = qm) ∧ r.2.2.2.2.2.2.1 7 0 = qi 1 ∧ r.2.2.2.2.2.2.1 7 1 = qi 0) := by
  refine zW_lp (I := fun r z => ∃ (i : Nat) (V1 : zI), i ≤ 6 ∧ r = 6 - i ∧ z = (0, qi i, n, c, q, K, N, G, V1, L) ∧ (∀ w, w ≠ 8 → V1 w = V w) ∧ ∀ k, k < i → V1 8 k = qm) ?_ FU 6 _ ⟨0, V, by omega, by omega, rfl, fun _ _ => rfl, fun k hk => absurd hk (by omega)⟩ (FU_big (by omega))
  rintro kk r z ⟨i, V1, hi, rfl, rfl, h1, h2⟩ ih
  by_cases hend : i = 6
  · subst hend
    simp (disch := omega) only [b_X11_init_443, ↓reduceIte, o_bind, and_true, true_and, and_false, false_and, or_true, true_or, or_false, false_or, not_true, not_false_eq_true, not_false_iff, ne_eq, Nat.reduceAdd, Nat.reduceMul, Nat.reduceSub, Nat.reduceDiv, Nat.reduceMod, Nat.reduceLT, Nat.reduceLeDiff, Nat.reduceEqDiff, Nat.not_lt, Nat.not_le, q_lit, q_leT]
    refine zW_lp (I := fun r z => ∃ (j : Nat) (V2 : zI), j ≤ 2 ∧ r = 2 - j ∧ z = (0, qi j, n, c, q, K, N, G, V2, L) ∧ (∀ w, w ≠ 4 → w ≠ 6 → w ≠ 7 → w ≠ 8 → V2 w = V w) ∧ (∀ k, k < 6 → V2 8 k = qm) ∧ (0 < j → V2 7 0 = qi 1 ∧ V2 7 1 = qi 0)) ?_ FU 2 _ ⟨0, V1, by omega, by omega, rfl, fun w _ _ _ w4 => h1 w w4, h2, fun h => absurd h (by omega)⟩ (FU_big (by omega))
    rintro k2 r z ⟨j, V2, hj, rfl, rfl, g1, g2, g3⟩ ih2
    by_cases hend2 : j = 2
    · subst hend2
      simp (disch := omega) only [b_X11_init_464, ↓reduceIte, o_bind, and_true, true_and, and_false, false_and, or_true, true_or, or_false, false_or, not_true, not_false_eq_true, not_false_iff, ne_eq, Nat.reduceAdd, Nat.reduceMul, Nat.reduceSub, Nat.reduceDiv, Nat.reduceMod, Nat.reduceLT, Nat.reduceLeDiff, Nat.reduceEqDiff, Nat.not_lt, Nat.not_le, q_lit, q_leT]
      exact zW_some ⟨⟨rfl, rfl, rfl, rfl, rfl, rfl, rfl⟩, g1, g2, g3 (by omega)⟩
    · simp (disch := omega) only [b_X11_init_464, ↓reduceIte, o_bind, and_true, true_and, and_false, false_and, or_true, true_or, or_false, false_or, not_true, not_false_eq_true, not_false_iff, ne_eq, Nat.reduceAdd, Nat.reduceMul, Nat.reduceSub, Nat.reduceDiv, Nat.reduceMod, Nat.reduceLT, Nat.reduceLeDiff, Nat.reduceEqDiff, Nat.not_lt, Nat.not_le, q_lit, q_leF, q_add]
      refine zW_call (r_dflt (V := V2) (L := L) (j := j) (by omega) g16 g18 g19 n4 n6 n7) ?_
      rintro ⟨V3, L3⟩ ⟨a1, a2, a3, a4, a5⟩
      dsimp only at a1 a2 a3 a4 a5 ⊢
      subst a5
      refine ih2 (2 - (j + 1)) _ (by omega) ⟨j + 1, V3, by omega, rfl, rfl, fun w w1 w2 w3 w4 => (a1 w w1 w2 w3).trans (g1 w w1 w2 w3 w4), fun k hk => by rw [a1 8 (by omega) (by omega) (by omega)]; exact g2 k hk, fun _ => ?_⟩
      rcases (by omega : j = 0 ∨ j = 1) with rfl | rfl
      · exact ⟨a2, a3⟩
      · rw [a4 0 (by omega) (by omega), a4 1 (by omega) (by omega)]
        exact g3 (by omega)
  · simp (disch := omega) only [b_X11_init_443, g20, n8, ↓reduceIte, o_bind, and_true, true_and, and_false, false_and, or_true, true_or, or_false, false_or, not_true, not_false_eq_true, not_false_iff, ne_eq, Nat.reduceAdd, Nat.reduceMul, Nat.reduceSub, Nat.reduceDiv, Nat.reduceMod, Nat.reduceLT, Nat.reduceLeDiff, Nat.reduceEqDiff, Nat.not_lt, Nat.not_le, q_lit, ↓q_m1, q_leF, q_inT, q_nn, q_add]
    refine ih (6 - (i + 1)) _ (by omega) ⟨i + 1, _, by omega, rfl, rfl, fun w hw => by rw [z_neP hw]; exact h1 w hw, fun k hk => ?_⟩
    by_cases e : k = i
    · rw [e, z_same]
    · rw [z_neK e]; exact h2 k (by omega)
end
set_option maxHeartbeats 8000000 in
set_option maxRecDepth 100000 in
theorem init_R : zW (f_X11_init 0 1 (fun _ => 9) (fun _ => 0) (fun _ _ => none) (fun _ _ => 0) (fun _ _ => 0)) (fun r => (r.1 = 36 ∧ r.2.1 ≤ 1000 ∧ r.2.2.1 ≤ 50000) ∧ (∀ w, w < 36 → r.2.2.2.1 w = zR_K w ∧ r.2.2.2.2.1 w = zR_N w ∧ r.2.2.2.2.2.1 w = zR_G w) ∧ UR r.2.2.2.2.2.2.1 r.2.2.2.2.2.2.2 0 U00 ∧ SR r.2.2.2.2.2.2.1 0 A00 ∧ (r.2.2.2.2.2.2.1 0 1 = qi 0 ∧ r.2.2.2.2.2.2.1 0 10 = qi 0 ∧ r.2.2.2.2.2.2.1 0 11 = qm ∧ r.2.2.2.2.2.2.1 0 47 = qi 0 ∧ r.2.2.2.2.2.2.1 0 48 = qi 0 ∧ r.2.2.2.2.2.2.1 0 60 = qi 0 ∧ r.2.2.2.2.2.2.1 0 64 = qi 0 ∧ r.2.2.2.2.2.2.2 0 49 = qI 1) ∧ ∀ k, r.2.2.2.2.2.2.1 19 k = qi 0) := by
  simp only [f_X11_init_433, f_X11_init_424, f_X11_init_416, f_X11_init_403, f_X11_init_385, f_X11_init_378, f_X11_init_355, f_X11_init_347, f_X11_init_323, f_X11_init_314, f_X11_init_306, f_X11_init_297, f_X11_init_289, f_X11_init_280, f_X11_init_271, f_X11_init_262, f_X11_init_254, f_X11_init_236, f_X11_init_217, f_X11_init_209, f_X11_init_201, f_X11_init_193, f_X11_init_185, f_X11_init_162, f_X11_init_154, f_X11_init_145, f_X11_init_136, f_X11_init_128, f_X11_init_120, f_X11_init_113, f_X11_init_105, f_X11_init_97, f_X11_init_89, f_X11_init_82, f_X11_init_10, g_X11_init, f_X11_init, io_2, it_2, io_3, it_3, io_4, it_4, io_6, it_6, io_12, it_12, io_16, it_16, io_20, it_20, io_22, it_22, io_36, it_36, io_72, it_72, io_280, it_280, io_500, it_500, io_792, it_792, io_1800, it_1800, io_3200, it_3200, io_3960, it_3960, io_4400, it_4400, ↓reduceIte, Nat.reduceAdd, Nat.zero_add]
  refine zW_mono (r_ini rfl rfl rfl rfl rfl rfl rfl rfl) ?_
  rintro ⟨n1, c1, q1, K1, N1, G1, V1, L1⟩ ⟨⟨e1, e2, e3, e4, e5, e6, e7⟩, a1, a2, a3, a4⟩
  dsimp only at e1 e2 e3 e4 e5 e6 e7 a1 a2 a3 a4 ⊢
  subst e1 e2 e3 e4 e5 e6 e7
  refine ⟨⟨rfl, by decide, by decide⟩, ?_, ?_, ?_, ?_, ?_⟩
  · intro w hw
    refine ⟨?_, ?_, ?_⟩
    · clear a1 a2 a3 a4
      revert w
      decide +kernel
    · clear a1 a2 a3 a4
      revert w
      decide +kernel
    · clear a1 a2 a3 a4
      match w, hw with
      | 0, _ =>
        funext k
        by_cases hk : k < 65
        · revert k
          decide +kernel
        · have e : zR_G 0 k = none := by
            show zR_g.getD k none = none
            rw [List.getD_eq_getElem?_getD, List.getElem?_eq_none (by show 65 ≤ k; omega)]
            rfl
          rw [e]
          simp (disch := omega) only [kU_same, kU_ne, gS_same, gS_neP, gS_neK]
      | 1, _ => rfl
      | 2, _ => rfl
      | 3, _ => rfl
      | 4, _ => rfl
      | 5, _ => rfl
      | 6, _ => rfl
      | 7, _ => rfl
      | 8, _ => rfl
      | 9, _ => rfl
      | 10, _ => rfl
      | 11, _ => rfl
      | 12, _ => rfl
      | 13, _ => rfl
      | 14, _ => rfl
      | 15, _ => rfl
      | 16, _ => rfl
      | 17, _ => rfl
      | 18, _ => rfl
      | 19, _ => rfl
      | 20, _ => rfl
      | 21, _ => rfl
      | 22, _ => rfl
      | 23, _ => rfl
      | 24, _ => rfl
      | 25, _ => rfl
      | 26, _ => rfl
      | 27, _ => rfl
      | 28, _ => rfl
      | 29, _ => rfl
      | 30, _ => rfl
      | 31, _ => rfl
      | 32, _ => rfl
      | 33, _ => rfl
      | 34, _ => rfl
      | 35, _ => rfl
      | k + 36, hw => exact absurd hw (by omega)
  · refine ⟨⟨by decide, ?_, ?_, ?_, a3, a4⟩, fun h => absurd h (by decide), fun k hk => absurd hk (Nat.not_lt_zero _), fun r hr => ⟨fun _ => ?_, fun l hl => by cases hl⟩⟩
    · rw [a1 0 (by omega) (by omega) (by omega) (by omega)]; rfl
    · rw [a1 2 (by omega) (by omega) (by omega) (by omega)]; rfl
    · rw [a1 3 (by omega) (by omega) (by omega) (by omega)]; rfl
    · rw [show 3 * 0 + r = r by omega]; exact a2 r (by omega)
  · have f : ∀ w, 20 ≤ w → w < 28 → V1 w = _ := fun w w1 w2 => a1 w (by omega) (by omega) (by omega) (by omega)
    refine ⟨⟨?_, ?_, ?_⟩, fun k hk => ?_, fun k hk => ?_, fun k hk => ?_, fun k hk => absurd hk (Nat.not_lt_zero _), fun k hk => absurd hk (Nat.not_lt_zero _), fun k hk => absurd hk (Nat.not_lt_zero _), fun k hk => absurd hk (Nat.not_lt_zero _), fun k hk => absurd hk (Nat.not_lt_zero _), fun k hk => absurd hk (Nat.not_lt_zero _), fun k hk => absurd hk (Nat.not_lt_zero _)⟩
    · rw [f 20 (by omega) (by omega)]; rfl
    · rw [f 24 (by omega) (by omega)]; rfl
    · rw [f 26 (by omega) (by omega)]; rfl
    · rw [f 21 (by omega) (by omega)]; rfl
    · rw [f 22 (by omega) (by omega)]; rfl
    · rw [f 23 (by omega) (by omega)]; rfl
  · rw [a1 0 (by omega) (by omega) (by omega) (by omega)]
    exact ⟨rfl, rfl, rfl, rfl, rfl, rfl, rfl, rfl⟩
  · intro k
    rw [a1 19 (by omega) (by omega) (by omega) (by omega)]
    rfl
end
