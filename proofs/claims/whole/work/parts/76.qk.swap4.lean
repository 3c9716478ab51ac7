section
variable {n : Nat} {K N : Nat → Nat} {G : zG} {V R : zI} {L M : zL} {u b f0 cnt acts x : Nat} {pl : Nat → Nat} {U : aU} {A : aS} {hi : Nat → aS} {q p : Nat} {h : Int} {H : Nat → Nat}
theorem r_swaps {a c d e : Nat} {H' : Nat → Nat} {dl : Int32} (ha : a < 6) (hc : c < 6) (hd : d < 6) (he : e < 6) (hac : a ≠ c) (hde : d ≠ e) (h1 : qi (H (6 * a + d)) - dl = qi (H' (6 * a + d))) (h2 : qi (H (6 * c + d)) + dl = qi (H' (6 * c + d))) (h3 : qi (H (6 * c + e)) - dl = qi (H' (6 * c + e))) (h4 : qi (H (6 * a + e)) + dl = qi (H' (6 * a + e))) (hs : ∀ k, k ≠ 6 * a + d → k ≠ 6 * c + d → k ≠ 6 * c + e → k ≠ 6 * a + e → H' k = H k) (hT : trP R A H) : zW (f_swaps (qi a) (qi c) (qi d) (qi e) dl R M) (fun r => trP r.1 A H' ∧ fr9 R r.1 M r.2 ∧ r.2 = M) := by
  have i1 : 36 + 6 * a + d = 36 + (6 * a + d) := Nat.add_assoc _ _ _
  have i2 : 36 + 6 * c + d = 36 + (6 * c + d) := Nat.add_assoc _ _ _
  have i3 : 36 + 6 * c + e = 36 + (6 * c + e) := Nat.add_assoc _ _ _
  have i4 : 36 + 6 * a + e = 36 + (6 * a + e) := Nat.add_assoc _ _ _
  obtain ⟨t0, t⟩ := hT
  have v1 := (t (6 * a + d) (by omega)).1
  have v2 := (t (6 * c + d) (by omega)).1
  have v3 := (t (6 * c + e) (by omega)).1
  have v4 := (t (6 * a + e) (by omega)).1
  unfold f_swaps
  simp (disch := omega) only [f_at, i1, i2, i3, i4, v1, v2, v3, v4, h1, h2, h3, h4, ↓reduceIte, o_bind, and_true, true_and, and_false, false_and, or_true, true_or, or_false, false_or, not_true, not_false_eq_true, not_false_iff, ne_eq, Nat.reduceAdd, Nat.reduceMul, Nat.reduceSub, Nat.reduceDiv, Nat.reduceMod, Nat.reduceLT, Nat.reduceLeDiff, Nat.reduceEqDiff, Nat.not_lt, Nat.not_le, Nat.add_zero, Nat.zero_add, Nat.mul_zero, Nat.zero_mul, Nat.mul_one, q_lit, q_add, q_mul, q_inT, q_nn, z_same, z_neP, z_neK, zL_same, zL_neP, zL_neK, zr_same, zr_ne]
  refine zW_some ⟨⟨?_, fun k hk => ⟨?_, ?_, ?_⟩⟩, ⟨fun w w1 w2 => ?_, fun k hk => ?_, fun _ _ => rfl⟩, rfl⟩
  · simp (disch := omega) only [z_same, z_neP, z_neK, zL_same, zL_neP, zL_neK, zr_same, zr_ne]; exact t0
  · by_cases e4 : k = 6 * a + e
    · subst e4; simp (disch := omega) only [z_same, z_neP, z_neK, zL_same, zL_neP, zL_neK, zr_same, zr_ne]
    by_cases e3 : k = 6 * c + e
    · subst e3; simp (disch := omega) only [z_same, z_neP, z_neK, zL_same, zL_neP, zL_neK, zr_same, zr_ne]
    by_cases e2 : k = 6 * c + d
    · subst e2; simp (disch := omega) only [z_same, z_neP, z_neK, zL_same, zL_neP, zL_neK, zr_same, zr_ne]
    by_cases e1 : k = 6 * a + d
    · subst e1; simp (disch := omega) only [z_same, z_neP, z_neK, zL_same, zL_neP, zL_neK, zr_same, zr_ne]
    simp (disch := omega) only [z_same, z_neP, z_neK, zL_same, zL_neP, zL_neK, zr_same, zr_ne]
    rw [hs k e1 e2 e3 e4]
    exact (t k hk).1
  · simp (disch := omega) only [z_same, z_neP, z_neK, zL_same, zL_neP, zL_neK, zr_same, zr_ne]; exact (t k hk).2.1
  · simp (disch := omega) only [z_same, z_neP, z_neK, zL_same, zL_neP, zL_neK, zr_same, zr_ne]; exact (t k hk).2.2
  · simp (disch := omega) only [z_same, z_neP, z_neK, zL_same, zL_neP, zL_neK, zr_same, zr_ne]
  · simp (disch := omega) only [z_same, z_neP, z_neK, zL_same, zL_neP, zL_neK, zr_same, zr_ne]
def swH (A : aS) (a c d e : Nat) : Nat → Nat := nu (nu (nu (nu A.2.1 (6 * a + d) (A.2.1 (6 * a + d) - 1)) (6 * c + d) (A.2.1 (6 * c + d) + 1)) (6 * c + e) (A.2.1 (6 * c + e) - 1)) (6 * a + e) (A.2.1 (6 * a + e) + 1)
theorem swH_1 {a c d e : Nat} (hc : c < 6 ∧ d < 6 ∧ e < 6) (hac : a ≠ c) (hde : d ≠ e) : swH A a c d e (6 * a + d) = A.2.1 (6 * a + d) - 1 := by
  unfold swH nu
  rw [if_neg (by omega), if_neg (by omega), if_neg (by omega), if_pos rfl]
theorem swH_2 {a c d e : Nat} (hc : c < 6 ∧ d < 6 ∧ e < 6) (hac : a ≠ c) (hde : d ≠ e) : swH A a c d e (6 * c + d) = A.2.1 (6 * c + d) + 1 := by
  unfold swH nu
  rw [if_neg (by omega), if_neg (by omega), if_pos rfl]
theorem swH_3 {a c d e : Nat} (hc : c < 6 ∧ d < 6 ∧ e < 6) (hac : a ≠ c) : swH A a c d e (6 * c + e) = A.2.1 (6 * c + e) - 1 := by
  unfold swH nu
  rw [if_neg (by omega), if_pos rfl]
theorem swH_4 {a c d e : Nat} : swH A a c d e (6 * a + e) = A.2.1 (6 * a + e) + 1 := if_pos rfl
theorem swH_n {a c d e k : Nat} (h1 : k ≠ 6 * a + d) (h2 : k ≠ 6 * c + d) (h3 : k ≠ 6 * c + e) (h4 : k ≠ 6 * a + e) : swH A a c d e k = A.2.1 k := by
  unfold swH nu
  rw [if_neg h4, if_neg h3, if_neg h2, if_neg h1]
theorem nu_e {f : Nat → Nat} {k v : Nat} : nu f k v k = v := if_pos rfl
theorem nu_n {f : Nat → Nat} {k v j : Nat} (h : j ≠ k) : nu f k v j = f j := if_neg h
theorem sm_gain {k a c d e : Nat} (hk : k = 216 * a + 36 * c + 6 * d + e) (ha : a < 6) (hc : c < 6) (hd : d < 6) (he : e < 6) (hT : swT U k) (htw : U.1 ≤ 6) (h1 : 0 < A.2.1 (6 * a + d)) (h3 : 0 < A.2.1 (6 * c + e)) : smW U A (swH A a c d e) a U.1 + smW U A (swH A a c d e) c U.1 - (smW U A A.2.1 a U.1 + smW U A A.2.1 c U.1) = swG U A k := by
  obtain ⟨d1, d2, d3, d4⟩ := k_dig hk ha hc hd he
  obtain ⟨t1, t2, t3, t4, t5, t6, t7, t8, t9⟩ := id hT
  rw [d1, d2] at t1
  rw [d2] at t2
  rw [d3] at t3
  rw [d4] at t4
  rw [d1, d3] at t5
  rw [d2, d3] at t6
  rw [d1, d4] at t7
  rw [d2, d4] at t8
  rw [d3, d4] at t9
  have ra : smW U A (swH A a c d e) a U.1 = smW U A (nu (nu A.2.1 (6 * a + d) (A.2.1 (6 * a + d) - 1)) (6 * a + e) (A.2.1 (6 * a + e) + 1)) a U.1 := by
    refine sm_same U.1 htw (fun y hy => ?_)
    by_cases y1 : y = d
    · subst y1
      rw [swH_1 ⟨hc, hd, he⟩ (by omega) t9, nu_n (by omega), nu_e]
    by_cases y2 : y = e
    · subst y2
      rw [swH_4, nu_e]
    rw [swH_n (by omega) (by omega) (by omega) (by omega), nu_n (by omega), nu_n (by omega)]
  have rc : smW U A (swH A a c d e) c U.1 = smW U A (nu (nu A.2.1 (6 * c + d) (A.2.1 (6 * c + d) + 1)) (6 * c + e) (A.2.1 (6 * c + e) - 1)) c U.1 := by
    refine sm_same U.1 htw (fun y hy => ?_)
    by_cases y1 : y = d
    · subst y1
      rw [swH_2 ⟨hc, hd, he⟩ (by omega) t9, nu_n (by omega), nu_e]
    by_cases y2 : y = e
    · subst y2
      rw [swH_3 ⟨hc, hd, he⟩ (by omega), nu_e]
    rw [swH_n (by omega) (by omega) (by omega) (by omega), nu_n (by omega), nu_n (by omega)]
  rw [ra, rc, sm_up he (fun h => t7 h.symm) U.1 htw, sm_up hd (fun h => t5 h.symm) U.1 htw, sm_up he (fun h => t8 h.symm) U.1 htw, sm_up hd (fun h => t6 h.symm) U.1 htw, if_pos t4, if_pos t3, if_pos t4, if_pos t3, nu_n (by omega), nu_n (by omega)]
  unfold swG
  rw [d1, d2, d3, d4, show ((A.2.1 (6 * a + d) - 1 : Nat) : Int) = (A.2.1 (6 * a + d) : Int) - 1 by omega, show ((A.2.1 (6 * c + e) - 1 : Nat) : Int) = (A.2.1 (6 * c + e) : Int) - 1 by omega, show ((A.2.1 (6 * c + d) + 1 : Nat) : Int) = (A.2.1 (6 * c + d) : Int) + 1 by omega, show ((A.2.1 (6 * a + e) + 1 : Nat) : Int) = (A.2.1 (6 * a + e) : Int) + 1 by omega]
  omega
theorem trP_fr {R' : zI} (h : trP R A H) (hw : ∀ w, w ≠ 29 → R' w = R w) : trP R' A H := by
  unfold trP at h ⊢
  rw [hw 20 (by omega), hw 21 (by omega), hw 22 (by omega), hw 23 (by omega)]
  exact h
theorem fr9_29 {R' : zI} {M' : zL} (hw : ∀ w, w ≠ 29 → R' w = R w) (hm : ∀ w, w ≠ 28 → M' w = M w) : fr9 R R' M M' := ⟨fun w _ w2 => hw w w2, fun k _ => by rw [hw 21 (by omega)], hm⟩
theorem q_subm {a : Nat} : qi a - qm = qi (a + 1) := by
  rw [qi_z, qi_z, show qm = qz (-1) from rfl, qz_sub]
  congr 1
theorem q_addm {a : Nat} (h : 0 < a) : qi a + qm = qi (a - 1) := by
  rw [qi_z, qi_z, show qm = qz (-1) from rfl, qz_add]
  congr 1
  omega
def swA (i : Nat) (bk : Option Nat) (m : Int) : Int32 := match bk with
  | none => qm
  | some j => if i = 0 then qi (j / 216) else if i = 1 then qi (j / 36 % 6) else if i = 2 then qi (j / 6 % 6) else if i = 3 then qi (j % 6) else qz m
def swQ (U : aU) (A : aS) (i : Nat) (R : zI) (M : zL) (r : Int32 × zI × zL) : Prop := (∃ bk m, bsP U A 1296 bk m ∧ r.1 = swA i bk m) ∧ fr9 R r.2.1 M r.2.2
set_option maxHeartbeats 16000000 in
theorem r_swap {i : Nat} (hi5 : i < 5) (hR : UR R M b U) (hT : trP R A A.2.1) (hU : UB U) (hA : SB U A) : zW (zfix b_swap_24 FU (qi i, qm, qZ 0, qi 0, R, M)) (swQ U A i R M) := by
  have htw := UB_tw hU
  refine zW_lp (I := fun r z => ∃ (k : Nat) (bk : Option Nat) (m : Int) (R1 : zI) (M1 : zL), k ≤ 1296 ∧ r = 1296 - k ∧ z = (qi i, oi bk, qZ m, qi k, R1, M1) ∧ bsP U A k bk m ∧ trP R1 A A.2.1 ∧ fr9 R R1 M M1) ?_ FU 1296 _ ⟨0, none, 0, R, M, by omega, by omega, rfl, ⟨rfl, fun k' hk' => absurd hk' (by omega)⟩, hT, fr9_rf⟩ (FU_big (by omega))
  rintro kk r z ⟨k, bk, m, R1, M1, hk, rfl, rfl, h1, h2, h3⟩ ih
  by_cases hend : k = 1296
  · subst hend
    match bk, h1 with
    | none, h1 =>
      simp (disch := omega) only [b_swap_24, oi, ↓reduceIte, o_bind, and_true, true_and, and_false, false_and, or_true, true_or, or_false, false_or, not_true, not_false_eq_true, not_false_iff, ne_eq, Nat.reduceAdd, Nat.reduceMul, Nat.reduceSub, Nat.reduceDiv, Nat.reduceMod, Nat.reduceLT, Nat.reduceLeDiff, Nat.reduceEqDiff, Nat.not_lt, Nat.not_le, q_lit, ↓q_m1, q_om, q_on, q_add, q_mul, q_sub, q_div, q_md, q_ltT, q_ltF, q_leT, q_leF, q_eqT, q_eqF, q_inT, q_inF, q_nn, q_mlt, q_ltm, q_mle, q_lem, q_nem, q_mne]
      exact zW_some ⟨⟨none, m, h1, rfl⟩, h3⟩
    | some j, h1 =>
      have hj := h1.1
      have ej : j / 36 / 6 = j / 216 := by omega
      refine zW_mono (P := fun r => r = (swA i (some j) m, R1, M1)) ?_ (fun r e => by rw [e]; exact ⟨⟨some j, m, h1, rfl⟩, h3⟩)
      rcases (by omega : i = 0 ∨ i = 1 ∨ i = 2 ∨ i = 3 ∨ i = 4) with rfl | rfl | rfl | rfl | rfl
      · simp (disch := omega) only [b_swap_24, oi, swA, ej, ↓reduceIte, o_bind, and_true, true_and, and_false, false_and, or_true, true_or, or_false, false_or, not_true, not_false_eq_true, not_false_iff, ne_eq, Nat.reduceAdd, Nat.reduceMul, Nat.reduceSub, Nat.reduceDiv, Nat.reduceMod, Nat.reduceLT, Nat.reduceLeDiff, Nat.reduceEqDiff, Nat.not_lt, Nat.not_le, q_lit, ↓q_m1, q_om, q_on, q_add, q_mul, q_sub, q_div, q_md, q_ltT, q_ltF, q_leT, q_leF, q_eqT, q_eqF, q_inT, q_inF, q_nn, q_mlt, q_ltm, q_mle, q_lem, q_nem, q_mne]
        exact zW_some rfl
      · simp (disch := omega) only [b_swap_24, oi, swA, ↓reduceIte, o_bind, and_true, true_and, and_false, false_and, or_true, true_or, or_false, false_or, not_true, not_false_eq_true, not_false_iff, ne_eq, Nat.reduceAdd, Nat.reduceMul, Nat.reduceSub, Nat.reduceDiv, Nat.reduceMod, Nat.reduceLT, Nat.reduceLeDiff, Nat.reduceEqDiff, Nat.not_lt, Nat.not_le, q_lit, ↓q_m1, q_om, q_on, q_add, q_mul, q_sub, q_div, q_md, q_ltT, q_ltF, q_leT, q_leF, q_eqT, q_eqF, q_inT, q_inF, q_nn, q_mlt, q_ltm, q_mle, q_lem, q_nem, q_mne]
        exact zW_some rfl
      · simp (disch := omega) only [b_swap_24, oi, swA, ↓reduceIte, o_bind, and_true, true_and, and_false, false_and, or_true, true_or, or_false, false_or, not_true, not_false_eq_true, not_false_iff, ne_eq, Nat.reduceAdd, Nat.reduceMul, Nat.reduceSub, Nat.reduceDiv, Nat.reduceMod, Nat.reduceLT, Nat.reduceLeDiff, Nat.reduceEqDiff, Nat.not_lt, Nat.not_le, q_lit, ↓q_m1, q_om, q_on, q_add, q_mul, q_sub, q_div, q_md, q_ltT, q_ltF, q_leT, q_leF, q_eqT, q_eqF, q_inT, q_inF, q_nn, q_mlt, q_ltm, q_mle, q_lem, q_nem, q_mne]
        exact zW_some rfl
      · simp (disch := omega) only [b_swap_24, oi, swA, ↓reduceIte, o_bind, and_true, true_and, and_false, false_and, or_true, true_or, or_false, false_or, not_true, not_false_eq_true, not_false_iff, ne_eq, Nat.reduceAdd, Nat.reduceMul, Nat.reduceSub, Nat.reduceDiv, Nat.reduceMod, Nat.reduceLT, Nat.reduceLeDiff, Nat.reduceEqDiff, Nat.not_lt, Nat.not_le, q_lit, ↓q_m1, q_om, q_on, q_add, q_mul, q_sub, q_div, q_md, q_ltT, q_ltF, q_leT, q_leF, q_eqT, q_eqF, q_inT, q_inF, q_nn, q_mlt, q_ltm, q_mle, q_lem, q_nem, q_mne]
        exact zW_some rfl
      · simp (disch := omega) only [b_swap_24, oi, swA, qZ_32, ↓reduceIte, o_bind, and_true, true_and, and_false, false_and, or_true, true_or, or_false, false_or, not_true, not_false_eq_true, not_false_iff, ne_eq, Nat.reduceAdd, Nat.reduceMul, Nat.reduceSub, Nat.reduceDiv, Nat.reduceMod, Nat.reduceLT, Nat.reduceLeDiff, Nat.reduceEqDiff, Nat.not_lt, Nat.not_le, q_lit, ↓q_m1, q_om, q_on, q_add, q_mul, q_sub, q_div, q_md, q_ltT, q_ltF, q_leT, q_leF, q_eqT, q_eqF, q_inT, q_inF, q_nn, q_mlt, q_ltm, q_mle, q_lem, q_nem, q_mne]
        exact zW_some rfl
  have hR1 := fr9_UR h3 hR
  obtain ⟨a, c, d, e, ha, hc, hd, he, hke⟩ : ∃ a c d e : Nat, a < 6 ∧ c < 6 ∧ d < 6 ∧ e < 6 ∧ k = 216 * a + 36 * c + 6 * d + e := ⟨k / 216, k / 36 % 6, k / 6 % 6, k % 6, by omega, by omega, by omega, by omega, by omega⟩
  obtain ⟨d1, d2, d3, d4⟩ := k_dig hke ha hc hd he
  have s1 : k / 36 / 6 = a := by omega
  have s2 : k / 36 - a * 6 = c := by omega
  have hTk : swT U k ↔ (a < c ∧ c < U.1 ∧ d < U.1 ∧ e < U.1 ∧ d ≠ a ∧ d ≠ c ∧ e ≠ a ∧ e ≠ c ∧ d ≠ e) := by
    unfold swT
    rw [d1, d2, d3, d4]
  have hOk : swO U A k ↔ (swT U k ∧ 0 < A.2.1 (6 * a + d) ∧ 0 < A.2.1 (6 * c + e) ∧ A.2.1 (6 * a + e) < 99 ∧ A.2.1 (6 * c + d) < 99) := by
    unfold swO
    rw [d1, d2, d3, d4]
  have hskip : ¬ swO U A k → zW (kk (qi i, oi bk, qZ m, qi (k + 1), R1, M1)) (swQ U A i R M) := fun hn => ih (1296 - (k + 1)) _ (by omega) ⟨k + 1, bk, m, R1, M1, by omega, rfl, rfl, bs_skip h1 (by omega) (fun k' g1 g2 => by
    have ek : k' = k := by omega
    rw [ek]
    exact hn), h2, h3⟩
  have g := hskip
  have hE1 : qi k / 36 - qi k / 36 / 6 * 6 = qi c := by
    show qi k / qi 36 - qi k / qi 36 / qi 6 * qi 6 = qi c
    rw [q_div (by omega) (by omega), q_div (by omega) (by omega), q_mul, q_sub (by omega), s1, s2]
  have hE2 : qi k / 36 / 6 = qi a := by
    show qi k / qi 36 / qi 6 = qi a
    rw [q_div (by omega) (by omega), q_div (by omega) (by omega), s1]
  have hE3 : qi k / 6 - qi k / 6 / 6 * 6 = qi d := by
    show qi k / qi 6 - qi k / qi 6 / qi 6 * qi 6 = qi d
    rw [q_div (by omega) (by omega), q_div (by omega) (by omega), q_mul, q_sub (by omega), show k / 6 - k / 6 / 6 * 6 = d by omega]
  have hE4 : qi k - qi k / 6 * 6 = qi e := by
    show qi k - qi k / qi 6 * qi 6 = qi e
    rw [q_div (by omega) (by omega), q_mul, q_sub (by omega), show k - k / 6 * 6 = e by omega]
  have hE5 : qi k + 1 = qi (k + 1) := q_add k 1
  have ne10 : ¬ qi 1 = 0 := fun h => by have := (q_eq (a := 1) (b := 0) (by omega) (by omega)).mp h; omega
  have t1 : ∀ y, y < 6 → y < U.1 → f_isTown (qi y) R1 M1 = some (qi 1, R1, M1) := fun y hy hyu => by rw [f_isTown_e hR1 hU (x := y) (by omega), if_pos hyu]
  have t0 : ∀ y, y < 6 → ¬ y < U.1 → f_isTown (qi y) R1 M1 = some (qi 0, R1, M1) := fun y hy hyu => by rw [f_isTown_e hR1 hU (x := y) (by omega), if_neg hyu]
  have hat : ∀ y z : Nat, f_at 1 (qi y) (qi z) R1 M1 = some (qi (36 + (6 * y + z)), R1, M1) := fun y z => by
    show some (qi 36 * qi 1 + qi 6 * qi y + qi z, R1, M1) = _
    rw [q_mul, q_mul, q_add, q_add, Nat.add_assoc]
  have hin : ∀ y z : Nat, y < 6 → z < 6 → inB (qi (36 + (6 * y + z))) 792 := fun y z hy hz => q_inP (by omega) (by omega)
  have hnn : ∀ y z : Nat, y < 6 → z < 6 → (qi (36 + (6 * y + z))).toNatClampNeg = 36 + (6 * y + z) := fun y z hy hz => q_nn (by omega)
  unfold b_swap_24
  dsimp only
  rw [if_neg (show ¬ 1296 ≤ qi k from fun h => by have := (q_le (a := 1296) (b := k) (by omega) (by omega)).mp h; omega), hE1, hE3, hE4, hE2, hE5]
  by_cases x1 : a < c
  case neg => exact zW_if1 ((q_le (by omega) (by omega)).mpr (by omega)) (g (fun h => x1 (hTk.mp (hOk.mp h).1).1))
  refine zW_if0 (fun h => by have := (q_le (a := c) (b := a) (by omega) (by omega)).mp h; omega) ?_
  by_cases x2 : c < U.1
  case neg =>
    refine zW_is (t0 c hc x2) ?_
    exact zW_if1 rfl (g (fun h => x2 (hTk.mp (hOk.mp h).1).2.1))
  refine zW_is (t1 c hc x2) ?_
  refine zW_if0 ne10 ?_
  by_cases x3 : d < U.1
  case neg =>
    refine zW_is (t0 d hd x3) ?_
    exact zW_if1 rfl (g (fun h => x3 (hTk.mp (hOk.mp h).1).2.2.1))
  refine zW_is (t1 d hd x3) ?_
  refine zW_if0 ne10 ?_
  by_cases x4 : e < U.1
  case neg =>
    refine zW_is (t0 e he x4) ?_
    exact zW_if1 rfl (g (fun h => x4 (hTk.mp (hOk.mp h).1).2.2.2.1))
  refine zW_is (t1 e he x4) ?_
  refine zW_if0 ne10 ?_
  dsimp only
  by_cases x5 : d ≠ a
  case neg => exact zW_if1 (by rw [show d = a from Decidable.not_not.mp x5]) (g (fun h => x5 (hTk.mp (hOk.mp h).1).2.2.2.2.1))
  refine zW_if0 (fun h => x5 ((q_eq (by omega) (by omega)).mp h)) ?_
  by_cases x6 : d ≠ c
  case neg => exact zW_if1 (by rw [show d = c from Decidable.not_not.mp x6]) (g (fun h => x6 (hTk.mp (hOk.mp h).1).2.2.2.2.2.1))
  refine zW_if0 (fun h => x6 ((q_eq (by omega) (by omega)).mp h)) ?_
  by_cases x7 : e ≠ a
  case neg => exact zW_if1 (by rw [show e = a from Decidable.not_not.mp x7]) (g (fun h => x7 (hTk.mp (hOk.mp h).1).2.2.2.2.2.2.1))
  refine zW_if0 (fun h => x7 ((q_eq (by omega) (by omega)).mp h)) ?_
  by_cases x8 : e ≠ c
  case neg => exact zW_if1 (by rw [show e = c from Decidable.not_not.mp x8]) (g (fun h => x8 (hTk.mp (hOk.mp h).1).2.2.2.2.2.2.2.1))
  refine zW_if0 (fun h => x8 ((q_eq (by omega) (by omega)).mp h)) ?_
  by_cases x9 : d ≠ e
  case neg => exact zW_if1 (by rw [show d = e from Decidable.not_not.mp x9]) (g (fun h => x9 (hTk.mp (hOk.mp h).1).2.2.2.2.2.2.2.2))
  refine zW_if0 (fun h => x9 ((q_eq (by omega) (by omega)).mp h)) ?_
  have hTT : swT U k := hTk.mpr ⟨x1, x2, x3, x4, x5, x6, x7, x8, x9⟩
  have hb := fun p (hp : p < 36) => SB_held hA hp
  have q1 := hb (6 * a + d) (by omega)
  have q2 := hb (6 * c + d) (by omega)
  have q3 := hb (6 * c + e) (by omega)
  have q4 := hb (6 * a + e) (by omega)
  have v1 : R1 21 (36 + (6 * a + d)) = qi (A.2.1 (6 * a + d)) := (h2.2 _ (by omega)).1
  have v2 : R1 21 (36 + (6 * c + d)) = qi (A.2.1 (6 * c + d)) := (h2.2 _ (by omega)).1
  have v3 : R1 21 (36 + (6 * c + e)) = qi (A.2.1 (6 * c + e)) := (h2.2 _ (by omega)).1
  have v4 : R1 21 (36 + (6 * a + e)) = qi (A.2.1 (6 * a + e)) := (h2.2 _ (by omega)).1
  refine zW_is (hat a d) ?_
  refine zW_if1 (hin a d ha hd) ?_
  by_cases y1 : 0 < A.2.1 (6 * a + d)
  case neg =>
    refine zW_if1 (show R1 21 (qi (36 + (6 * a + d))).toNatClampNeg = 0 from by rw [hnn a d ha hd, v1, show A.2.1 (6 * a + d) = 0 by omega]; rfl) ?_
    exact g (fun h => y1 (hOk.mp h).2.1)
  refine zW_if0 (show ¬ R1 21 (qi (36 + (6 * a + d))).toNatClampNeg = 0 from fun h => by
    rw [hnn a d ha hd, v1] at h
    have := (q_eq (a := A.2.1 (6 * a + d)) (b := 0) (by omega) (by omega)).mp h
    omega) ?_
  dsimp only
  refine zW_is (hat c e) ?_
  refine zW_if1 (hin c e hc he) ?_
  by_cases y2 : 0 < A.2.1 (6 * c + e)
  case neg =>
    refine zW_if1 (show R1 21 (qi (36 + (6 * c + e))).toNatClampNeg = 0 from by rw [hnn c e hc he, v3, show A.2.1 (6 * c + e) = 0 by omega]; rfl) ?_
    exact g (fun h => y2 (hOk.mp h).2.2.1)
  refine zW_if0 (show ¬ R1 21 (qi (36 + (6 * c + e))).toNatClampNeg = 0 from fun h => by
    rw [hnn c e hc he, v3] at h
    have := (q_eq (a := A.2.1 (6 * c + e)) (b := 0) (by omega) (by omega)).mp h
    omega) ?_
  dsimp only
  refine zW_is (hat a e) ?_
  refine zW_if1 (hin a e ha he) ?_
  by_cases y3 : A.2.1 (6 * a + e) < 99
  case neg =>
    refine zW_if1 (show R1 21 (qi (36 + (6 * a + e))).toNatClampNeg = 99 from by rw [hnn a e ha he, v4, show A.2.1 (6 * a + e) = 99 by omega]; rfl) ?_
    exact g (fun h => y3 (hOk.mp h).2.2.2.1)
  refine zW_if0 (show ¬ R1 21 (qi (36 + (6 * a + e))).toNatClampNeg = 99 from fun h => by
    rw [hnn a e ha he, v4] at h
    have := (q_eq (a := A.2.1 (6 * a + e)) (b := 99) (by omega) (by omega)).mp h
    omega) ?_
  dsimp only
  refine zW_is (hat c d) ?_
  refine zW_if1 (hin c d hc hd) ?_
  by_cases y4 : A.2.1 (6 * c + d) < 99
  case neg =>
    refine zW_if1 (show R1 21 (qi (36 + (6 * c + d))).toNatClampNeg = 99 from by rw [hnn c d hc hd, v2, show A.2.1 (6 * c + d) = 99 by omega]; rfl) ?_
    exact g (fun h => y4 (hOk.mp h).2.2.2.2)
  refine zW_if0 (show ¬ R1 21 (qi (36 + (6 * c + d))).toNatClampNeg = 99 from fun h => by
    rw [hnn c d hc hd, v2] at h
    have := (q_eq (a := A.2.1 (6 * c + d)) (b := 99) (by omega) (by omega)).mp h
    omega) ?_
  dsimp only
  have hOO : swO U A k := hOk.mpr ⟨hTT, y1, y2, y3, y4⟩
  have hG := sm_gain hke ha hc hd he hTT htw y1 y2
  have hGb := swG_b hU hA (k := k) (by omega)
  have hmb := bs_b hU hA h1 (by omega)
  have hH0 : ∀ k, k < 36 → A.2.1 k ≤ 100 := fun k hk => by have := hb k hk; omega
  have hH1 : ∀ k, k < 36 → swH A a c d e k ≤ 100 := fun k hk => by
    have := hb k hk
    unfold swH nu
    repeat' split
    all_goals omega
  refine zW_call (r_worthOf ha hR1 h2 hU hA hH0) ?_
  rintro ⟨w1, R2, M2⟩ ⟨b1, b2, b3⟩
  dsimp only at b1 b2 b3 ⊢
  subst b1
  have p2 := trP_fr h2 b2
  have f2 := fr9_tr h3 (fr9_29 b2 b3)
  refine zW_call (r_worthOf hc (fr9_UR f2 hR) p2 hU hA hH0) ?_
  rintro ⟨w2, R3, M3⟩ ⟨c1, c2, c3⟩
  dsimp only at c1 c2 c3 ⊢
  subst c1
  have p3 := trP_fr p2 c2
  have f3 := fr9_tr f2 (fr9_29 c2 c3)
  have hac : a ≠ c := by omega
  refine zW_call (r_swaps (H' := swH A a c d e) ha hc hd he hac x9 (by rw [swH_1 ⟨hc, hd, he⟩ hac x9]; exact q_sub (b := 1) y1) (by rw [swH_2 ⟨hc, hd, he⟩ hac x9]; exact q_add _ 1) (by rw [swH_3 ⟨hc, hd, he⟩ hac]; exact q_sub (b := 1) y2) (by rw [swH_4]; exact q_add _ 1) (fun k h1 h2 h3 h4 => swH_n h1 h2 h3 h4) p3) ?_
  rintro ⟨R4, M4⟩ ⟨p4, f4', -⟩
  dsimp only at p4 f4' ⊢
  have f4 := fr9_tr f3 f4'
  refine zW_call (r_worthOf ha (fr9_UR f4 hR) p4 hU hA hH1) ?_
  rintro ⟨w5, R5, M5⟩ ⟨g1, g2, g3⟩
  dsimp only at g1 g2 g3 ⊢
  subst g1
  have p5 := trP_fr p4 g2
  have f5 := fr9_tr f4 (fr9_29 g2 g3)
  refine zW_call (r_worthOf hc (fr9_UR f5 hR) p5 hU hA hH1) ?_
  rintro ⟨w6, R6, M6⟩ ⟨j1, j2, j3⟩
  dsimp only at j1 j2 j3 ⊢
  subst j1
  have p6 := trP_fr p5 j2
  have f6 := fr9_tr f5 (fr9_29 j2 j3)
  refine zW_call (r_swaps (H' := A.2.1) ha hc hd he hac x9 (by rw [swH_1 ⟨hc, hd, he⟩ hac x9]; show qi _ - qm = _; rw [q_subm, Nat.sub_add_cancel y1]) (by rw [swH_2 ⟨hc, hd, he⟩ hac x9]; show qi _ + qm = _; rw [q_addm (by omega), Nat.add_sub_cancel]) (by rw [swH_3 ⟨hc, hd, he⟩ hac]; show qi _ - qm = _; rw [q_subm, Nat.sub_add_cancel y2]) (by rw [swH_4]; show qi _ + qm = _; rw [q_addm (by omega), Nat.add_sub_cancel]) (fun k h1 h2 h3 h4 => (swH_n h1 h2 h3 h4).symm) p6) ?_
  rintro ⟨R7, M7⟩ ⟨p7, f7', -⟩
  dsimp only at p7 f7' ⊢
  have f7 := fr9_tr f6 f7'
  have hg : qZ (smW U A (swH A a c d e) a U.1) + qZ (smW U A (swH A a c d e) c U.1) - (qZ (smW U A A.2.1 a U.1) + qZ (smW U A A.2.1 c U.1)) = qZ (swG U A k) := by
    rw [qZ_add, qZ_add, qZ_sub, hG]
  rw [hg]
  by_cases hlt : m < swG U A k
  · refine zW_if1 (show qi 0 < lg_cmp _ _ from (lg_cmp_gt _ _).mpr ((qZ_lt (a := m) (b := swG U A k) (by omega) (by omega) (by omega) (by omega)).mpr hlt)) ?_
    exact ih (1296 - (k + 1)) _ (by omega) ⟨k + 1, some k, swG U A k, R7, M7, by omega, rfl, rfl, bs_yes h1 hOO hlt, p7, f7⟩
  · refine zW_if0 (show ¬ qi 0 < lg_cmp _ _ from fun h => hlt ((qZ_lt (a := m) (b := swG U A k) (by omega) (by omega) (by omega) (by omega)).mp ((lg_cmp_gt _ _).mp h))) ?_
    exact ih (1296 - (k + 1)) _ (by omega) ⟨k + 1, bk, m, R7, M7, by omega, rfl, rfl, bs_no h1 (by omega), p7, f7⟩
set_option maxHeartbeats 8000000 in
theorem m_swap {a1 : Int32} (h : JP n K N G V R M) : zX (f_X10_swap 0 a1 n K N G V L) (f_swap a1 R M) (fun r r' => r.1 = r'.1 ∧ JQ r.2 r'.2.1 r'.2.2) := by
  obtain ⟨u, b, f0, cnt, acts, x, pl, U, A, hi, h⟩ := h
  obtain ⟨⟨hn, hK, hx, g2', hu, hun, -⟩, -, -, -, -, -, b6⟩ := id h.1
  obtain ⟨⟨g1, gs, gr, gt⟩, ⟨hU, hA⟩, -⟩ := id h.2.1
  have hu1 := hu.1
  unfold f_X10_swap g_X10_swap f_swap
  have hbad : (f_is a1 0 4 = some (qi 0)) → zX (some ((-1 : Int32), n, 0, 0, K, N, G, V, L)) ((f_is a1 0 4).bind fun r1 => (if r1 = 0 then some ((-1), R, M) else (f_copies 1 0 R M).bind fun r2 => zfix (b_swap_24) FU (a1, (-1), 0, 0, r2.1, r2.2))) (fun r r' => r.1 = r'.1 ∧ JQ r.2 r'.2.1 r'.2.2) := by
    intro e
    rw [e, o_bind, if_pos (show qi 0 = 0 from rfl)]
    refine zX_some ?_
    dsimp only
    exact ⟨rfl, JQ_mk (by omega) (by omega) ⟨u, b, f0, cnt, acts, x, pl, U, A, hi, h⟩⟩
  rcases q_cases a1 with hk | ⟨i, hi', rfl⟩
  · rw [if_pos (show a1 < 0 from hk)]
    exact hbad (by unfold f_is; rw [if_pos (show a1 < 0 from hk)]; rfl)
  have hk0 : ¬ qi i < 0 := fun h => by have := (q_lt (a := i) (b := 0) (by omega) (by omega)).mp h; omega
  rw [if_neg hk0]
  by_cases hi5 : i < 5
  case neg =>
    rw [if_neg (show ¬ qi i < 5 from fun h => hi5 ((q_lt (a := i) (b := 5) (by omega) (by omega)).mp h))]
    refine hbad ?_
    unfold f_is
    rw [if_neg hk0, if_pos (show (4 : Int32) < qi i from (q_lt (a := 4) (b := i) (by omega) (by omega)).mpr (by omega))]
    rfl
  rw [if_pos (show qi i < 5 from (q_lt (a := i) (b := 5) (by omega) (by omega)).mpr hi5)]
  have eis : f_is (qi i) 0 4 = some (qi 1) := by
    unfold f_is
    rw [if_neg hk0, if_neg (show ¬ (4 : Int32) < qi i from fun h => by have := (q_lt (a := 4) (b := i) (by omega) (by omega)).mp h; omega)]
    rfl
  rw [eis, o_bind, if_neg (show ¬ qi 1 = 0 from fun h => by have := (q_eq (a := 1) (b := 0) (by omega) (by omega)).mp h; omega)]
  unfold f_X10_swap_14
  refine zX_callL (cs_newB (s := n) rfl) ?_
  rintro ⟨n1, cc, qq, K1, N1, G1, V1, L1⟩ ⟨s1, s2, s3, s4, s5, s6, s7⟩
  dsimp only at s1 s2 s3 s4 s5 s6 s7 ⊢
  subst s1 s2 s3
  have sK : ∀ w, w < n → K1 w = K w := fun w hw => by rw [(s4 w hw).1, kU_ne (by omega)]
  have sN : ∀ w, w < n → N1 w = N w := fun w hw => (s4 w hw).2.1
  have sG : ∀ w, w < n → G1 w = G w := fun w hw => by rw [(s4 w hw).2.2.1, kU_ne (by omega)]
  have sV : ∀ w, w < n → V1 w = V w := fun w hw => by rw [(s4 w hw).2.2.2, kU_ne (by omega)]
  have hJJ : ∀ V2 : zI, (∀ w, w ≠ 21 → w < n → V2 w = V1 w) → JJ (n + 6) K1 N1 G1 V2 R M u b f0 cnt acts x pl U A hi := fun V2 hv => JJ_gr h (by omega) (by rw [sK 0 (by omega)]; exact hK) sN sG (fun w w1 w2 => by rw [hv w (by omega) w2]; exact sV w w2)
  have h1 := hJJ V1 (fun _ _ _ => rfl)
  obtain ⟨⟨-, -, hx1, g21, hu2, -⟩, -⟩ := id h1.1
  have e5 : G1 0 5 = some 6 := hx1.1.2.1
  have e7 : G1 0 7 = some 20 := hx1.1.2.2.2.1
  unfold f_X10_swap_18
  rw [g21, e5, e7]
  simp only [o_bind]
  refine zX_callL (cs_weigh (L := L1) hx1 hu2 s5 (by omega) hU hA (fun V2 hv => by
    obtain ⟨⟨k1, k2, -, -⟩, -⟩ := id (hJJ V2 hv).2.1
    exact ⟨k1, k2⟩) s6 s7) ?_
  rintro ⟨V2, L2⟩ ⟨t1, t2, t3, t4⟩
  dsimp only at t1 t2 t3 t4 ⊢
  have h2 := hJJ V2 t4
  obtain ⟨⟨k1, k2, -, -⟩, -⟩ := id h2.2.1
  have eu : V2 u 0 = qi U.1 := k1.1.1
  rw [eu]
  refine zX_callL (cs_sbest (V := V2) (L := L2) s5 hU hA ⟨⟨none, 0, ⟨rfl, fun k' hk' => absurd hk' (by omega)⟩, t3, t2⟩, t1, fun _ _ => rfl⟩) ?_
  rintro ⟨V3, L3⟩ ⟨⟨bk, m, c1, c2⟩, c3, c4⟩
  dsimp only at c1 c2 c3 c4 ⊢
  have h3 := hJJ V3 (fun w w1 w2 => by rw [c4 w (by omega)]; exact t4 w w1 w2)
  have n5 : N1 (n + 5) = 5 := s5.2.2.2.2.2
  rw [s5.1.2.2.2.2, o_bind, n5]
  have hmb := bs_b hU hA c1 (Nat.le_refl _)
  have hm60 := hA.1
  refine zX_callR (r_copies (a := 1) (b := 0) (by omega) (by omega) (by omega) gt hA.1.2.1 hA.1.2.2) ?_
  rintro ⟨R0, M0⟩ ⟨p1, p2, p3, p4⟩
  dsimp only at p1 p2 p3 p4 ⊢
  subst p4
  have hT0 : trP R0 A A.2.1 := ⟨p1.1.1, fun k hk => ⟨p1.2.1 k hk, p1.2.2.1 k hk, p1.2.2.2.1 k hk⟩⟩
  have hR0 : UR R0 M0 b U := UR_fr gr (by rw [p3 0 (by omega)]) (fun w w1 w2 w3 w4 => p3 w (by omega)) rfl
  refine zX_R (r_swap hi5 hR0 hT0 hU hA) ?_
  rintro ⟨y2, R2, M2⟩ ⟨⟨bk', m', d1, d2⟩, d3⟩
  dsimp only at d1 d2 d3
  obtain ⟨eb, em⟩ := bs_one c1 d1
  subst eb em
  have hfin : JQ (n + 6, 0 + 1 + 5, 0 + 6 + 149, K1, N1, G1, V3, L3) R2 M2 := by
    refine JQ_mk (by omega) (by omega) ⟨u, b, f0, cnt, acts, x, pl, U, A, hi, ?_⟩
    exact JJ_core h3 (fun _ _ _ => rfl) (cR_tr (cR_RFr p2) (fr9_cR d3)) ⟨d3.2.2 12 (by omega), by rw [d3.2.2 0 (by omega)]⟩
  rw [if_pos (show inB 4 5 from q_inP (a := 4) (by omega) (by omega))]
  have s44 : (4 : Int32).toNatClampNeg = 4 := rfl
  rw [s44]
  match bk, c1, c2, d2 with
  | none, c1, c2, d2 =>
    have e4 : V3 (n + 5) 4 = qi 0 := c2.2
    rw [if_pos (show V3 (n + 5) 4 ≤ 0 from by rw [e4]; exact (q_le (a := 0) (b := 0) (by omega) (by omega)).mpr (Nat.le_refl _))]
    refine zX_some ?_
    dsimp only
    exact ⟨d2.symm, hfin⟩
  | some j, c1, c2, d2 =>
    obtain ⟨-, v0, v1, v2, v3, v4⟩ := c2
    have hm0 : 0 < m := c1.2.2.2.1
    rw [if_neg (show ¬ V3 (n + 5) 4 ≤ 0 from fun h => by
      rw [v4] at h
      have := (qz_le (a := m) (b := 0) (by omega) (by omega) (by omega) (by omega)).mp h
      omega), o_bind, n5, if_pos (q_inP hi5 (by omega))]
    refine zX_some ?_
    dsimp only
    refine ⟨?_, hfin⟩
    rw [d2, q_nn (by omega)]
    rcases (by omega : i = 0 ∨ i = 1 ∨ i = 2 ∨ i = 3 ∨ i = 4) with rfl | rfl | rfl | rfl | rfl
    · exact v0
    · exact v1
    · exact v2
    · exact v3
    · exact v4
end
