section
variable {n : Nat} {K N : Nat → Nat} {G : zG} {V R : zI} {L M : zL} {u b f0 cnt acts x : Nat} {pl : Nat → Nat} {U : aU} {A : aS} {hi : Nat → aS}
theorem prL_y {tw p : Nat} (h : p / 6 < tw ∧ p % 6 < tw ∧ p / 6 ≠ p % 6) : imP tw A (p + 1) = imP tw A p ++ [A.2.1 p] ++ [A.2.2.1 p] ++ [A.2.2.2.1 p] := by
  show imP tw A p ++ prL tw A p = _
  unfold prL
  rw [if_pos h]
  simp
theorem prL_n {tw p : Nat} (h : ¬ (p / 6 < tw ∧ p % 6 < tw ∧ p / 6 ≠ p % 6)) : imP tw A (p + 1) = imP tw A p := by
  show imP tw A p ++ prL tw A p = _
  unfold prL
  rw [if_neg h, List.append_nil]
set_option maxHeartbeats 4000000 in
theorem c_imP (hx : fxS N G) (hu : unS N G u) (hC : UC N G V u U) (hS : SC V 6 A) (hU : UB U) (hA : SB U A) (h : cI V (imP U.1 A 0)) : zW (zfix (b_X10_image_36 N G 0 26 u 6 7 8 9 10 11) FU (qi 0, V, L)) (fun r => r.1 = qi ((imA U.1 A).length + 1) ∧ cI r.2.1 (imF U.1 A) ∧ cF V r.2.1) := by
  have hm := SB_m hA
  have hu1 := hu.1
  have n7 : N 7 = 36 := hx.2.1.2.1
  have n8 : N 8 = 36 := hx.2.1.2.2.1
  have n9 : N 9 = 36 := hx.2.1.2.2.2.1
  refine zW_lp (I := fun r q => ∃ (p : Nat) (V1 : zI) (L1 : zL), p ≤ 36 ∧ r = 36 - p ∧ q = (qi p, V1, L1) ∧ cI V1 (imP U.1 A p) ∧ cF V V1) ?_ FU 36 _ ⟨0, V, L, by omega, by omega, rfl, h, cF_rf⟩ (FU_big (by omega))
  rintro k r q ⟨p, V1, L1, hp, rfl, rfl, h1, hf⟩ ih
  have hlb := imP_len (A := A) (tw := U.1) p hp
  have hS1 : SC V1 6 A := SC_fr hS (fun w w1 w2 => hf.1 w (by omega) (by omega))
  have hC1 : UC N G V1 u U := UC_fr2 hu hC (fun w hw => hf.1 w (by omega) (by omega))
  by_cases hend : p = 36
  · subst hend
    have e4 : V1 6 4 = qi A.2.2.2.2.1 := hS1.1.2.1
    simp (disch := omega) only [b_X10_image_36, e4, Nat.le_refl, ↓reduceIte, o_bind, and_true, true_and, and_false, false_and, or_true, true_or, or_false, false_or, not_true, not_false_eq_true, not_false_iff, ne_eq, Nat.reduceAdd, Nat.reduceMul, Nat.reduceSub, Nat.reduceDiv, Nat.reduceMod, Nat.reduceLT, Nat.reduceLeDiff, Nat.reduceEqDiff, Nat.not_lt, Nat.not_le, q_lit, ↓q_m1, q_om, q_on, q_add, q_mul, q_sub, q_div, q_md, q_ltT, q_ltF, q_leT, q_leF, q_eqT, q_eqF, q_inT, q_inF, q_nn, q_mlt, q_ltm, q_mle, q_lem, q_nem, q_mne]
    refine zW_call (c_putO (L := L1) (y := A.2.2.2.2.1) hx h1 (by omega)) ?_
    rintro ⟨V2, L2⟩ ⟨q1, q2, -⟩
    dsimp only at q1 q2 ⊢
    refine zW_mono (c_imM (L := L2) hx hu (UC_fr2 hu hC1 (fun w hw => q2.1 w (by omega) (by omega))) (SC_fr hS1 (fun w w1 w2 => q2.1 w (by omega) (by omega))) hU hA q1) ?_
    rintro r ⟨s1, s2, s3⟩
    exact ⟨s1, s2, cF_tr hf (cF_tr q2 s3)⟩
  · have hip := f_X9_isPair_e (L := L1) hC1 hU (x := p / 6) (y := p % 6) (by omega) (by omega)
    by_cases hc : p / 6 < U.1 ∧ p % 6 < U.1 ∧ p / 6 ≠ p % 6
    · have d1 : V1 7 p = qi (A.2.1 p) := hS1.2.1 p (by omega)
      simp (disch := omega) only [b_X10_image_36, hip, hc, and_self, n7, d1, ↓reduceIte, o_bind, and_true, true_and, and_false, false_and, or_true, true_or, or_false, false_or, not_true, not_false_eq_true, not_false_iff, ne_eq, Nat.reduceAdd, Nat.reduceMul, Nat.reduceSub, Nat.reduceDiv, Nat.reduceMod, Nat.reduceLT, Nat.reduceLeDiff, Nat.reduceEqDiff, Nat.not_lt, Nat.not_le, q_lit, ↓q_m1, q_om, q_on, q_add, q_mul, q_sub, q_div, q_md, q_ltT, q_ltF, q_leT, q_leF, q_eqT, q_eqF, q_inT, q_inF, q_nn, q_mlt, q_ltm, q_mle, q_lem, q_nem, q_mne]
      refine zW_call (c_putO (L := L1) (y := A.2.1 p) hx h1 (by omega)) ?_
      rintro ⟨V2, L2⟩ ⟨q1, q2, -⟩
      dsimp only at q1 q2 ⊢
      have d2 : V2 8 p = qi (A.2.2.1 p) := by rw [q2.1 8 (by omega) (by omega)]; exact hS1.2.2.1 p (by omega)
      simp (disch := omega) only [n8, d2, ↓reduceIte, o_bind, and_true, true_and, and_false, false_and, or_true, true_or, or_false, false_or, not_true, not_false_eq_true, not_false_iff, ne_eq, Nat.reduceAdd, Nat.reduceMul, Nat.reduceSub, Nat.reduceDiv, Nat.reduceMod, Nat.reduceLT, Nat.reduceLeDiff, Nat.reduceEqDiff, Nat.not_lt, Nat.not_le, q_lit, ↓q_m1, q_om, q_on, q_add, q_mul, q_sub, q_div, q_md, q_ltT, q_ltF, q_leT, q_leF, q_eqT, q_eqF, q_inT, q_inF, q_nn, q_mlt, q_ltm, q_mle, q_lem, q_nem, q_mne]
      refine zW_call (c_putO (L := L2) (y := A.2.2.1 p) hx q1 (by rw [List.length_append]; simp only [List.length_cons, List.length_nil]; omega)) ?_
      rintro ⟨V3, L3⟩ ⟨s1, s2, -⟩
      dsimp only at s1 s2 ⊢
      have d3 : V3 9 p = qi (A.2.2.2.1 p) := by rw [s2.1 9 (by omega) (by omega), q2.1 9 (by omega) (by omega)]; exact hS1.2.2.2.1 p (by omega)
      simp (disch := omega) only [n9, d3, ↓reduceIte, o_bind, and_true, true_and, and_false, false_and, or_true, true_or, or_false, false_or, not_true, not_false_eq_true, not_false_iff, ne_eq, Nat.reduceAdd, Nat.reduceMul, Nat.reduceSub, Nat.reduceDiv, Nat.reduceMod, Nat.reduceLT, Nat.reduceLeDiff, Nat.reduceEqDiff, Nat.not_lt, Nat.not_le, q_lit, ↓q_m1, q_om, q_on, q_add, q_mul, q_sub, q_div, q_md, q_ltT, q_ltF, q_leT, q_leF, q_eqT, q_eqF, q_inT, q_inF, q_nn, q_mlt, q_ltm, q_mle, q_lem, q_nem, q_mne]
      refine zW_call (c_putO (L := L3) (y := A.2.2.2.1 p) hx s1 (by rw [List.length_append, List.length_append]; simp only [List.length_cons, List.length_nil]; omega)) ?_
      rintro ⟨V4, L4⟩ ⟨t1, t2, -⟩
      dsimp only at t1 t2 ⊢
      exact ih (36 - (p + 1)) _ (by omega) ⟨p + 1, V4, L4, by omega, rfl, rfl, by rw [prL_y hc]; exact t1, cF_tr hf (cF_tr q2 (cF_tr s2 t2))⟩
    · simp (disch := omega) only [b_X10_image_36, hip, hc, ↓reduceIte, o_bind, and_true, true_and, and_false, false_and, or_true, true_or, or_false, false_or, not_true, not_false_eq_true, not_false_iff, ne_eq, Nat.reduceAdd, Nat.reduceMul, Nat.reduceSub, Nat.reduceDiv, Nat.reduceMod, Nat.reduceLT, Nat.reduceLeDiff, Nat.reduceEqDiff, Nat.not_lt, Nat.not_le, q_lit, ↓q_m1, q_om, q_on, q_add, q_mul, q_sub, q_div, q_md, q_ltT, q_ltF, q_leT, q_leF, q_eqT, q_eqF, q_inT, q_inF, q_nn, q_mlt, q_ltm, q_mle, q_lem, q_nem, q_mne]
      exact ih (36 - (p + 1)) _ (by omega) ⟨p + 1, V1, L1, by omega, rfl, rfl, by rw [prL_n hc]; exact h1, hf⟩
theorem cs_image (hx : fxS N G) (g2 : G 0 2 = some u) (hu : unS N G u) (hC : UC N G V u U) (hS : SC V 6 A) (hU : UB U) (hA : SB U A) : zW (f_X10_image N G 0 V L) (fun r => r.1 = qi ((imA U.1 A).length + 1) ∧ cI r.2.1 (imF U.1 A) ∧ cF V r.2.1) := by
  have hu1 := hu.1
  have hd : A.1 ≤ 999 := hA.1.1
  have g14 : G 0 14 = some 26 := hx.1.2.2.2.2.2.2.2.2.1
  have G5 : G 0 5 = some 6 := hx.1.2.1
  obtain ⟨k1, k2, k3, k5, k6, -⟩ := id hx.2.1.1
  have hf0 : cF V (z_uI V 0 15 (qi 0)) := ⟨fun w w1 _ => z_neP w1, fun j j1 => z_neK j1⟩
  have h0 : cI (z_uI V 0 15 (qi 0)) [] := ⟨z_same, fun k hk => absurd hk (by simp)⟩
  have e60 : V 6 0 = qi A.1 := hS.1.1
  have es : qi A.1 >>> (qi 8 &&& qi 31) = qi (A.1 / 256) := q_shr (k := 8) (by omega) (by omega)
  have ea : qi A.1 &&& qi 255 = qi (A.1 % 256) := q_and255 (by omega)
  unfold f_X10_image g_X10_image
  rw [g14, g2, G5]
  simp only [o_bind]
  rw [k1, k2, k3, k5, k6]
  simp (disch := omega) only [e60, es, ↓reduceIte, o_bind, and_true, true_and, and_false, false_and, or_true, true_or, or_false, false_or, not_true, not_false_eq_true, not_false_iff, ne_eq, Nat.reduceAdd, Nat.reduceMul, Nat.reduceSub, Nat.reduceDiv, Nat.reduceMod, Nat.reduceLT, Nat.reduceLeDiff, Nat.reduceEqDiff, Nat.not_lt, Nat.not_le, q_lit, ↓q_m1, q_om, q_on, q_add, q_mul, q_sub, q_div, q_md, q_ltT, q_ltF, q_leT, q_leF, q_eqT, q_eqF, q_inT, q_inF, q_nn, q_mlt, q_ltm, q_mle, q_lem, q_nem, q_mne, z_same, z_neP, z_neK, zL_same, zL_neP, zL_neK, zr_same, zr_ne]
  refine zW_call (c_putO (L := L) (y := A.1 / 256) hx h0 (by simp)) ?_
  rintro ⟨V1, L1⟩ ⟨q1, q2, -⟩
  dsimp only at q1 q2 ⊢
  have e61 : V1 6 0 = qi A.1 := by rw [q2.1 6 (by omega) (by omega), z_neP (by omega)]; exact e60
  rw [e61, ea]
  refine zW_call (c_putO (L := L1) (y := A.1 % 256) hx q1 (by simp)) ?_
  rintro ⟨V2, L2⟩ ⟨s1, s2, -⟩
  dsimp only at s1 s2 ⊢
  have hf := cF_tr hf0 (cF_tr q2 s2)
  refine zW_mono (c_imP (L := L2) hx hu (UC_fr2 hu hC (fun w hw => hf.1 w (by omega) (by omega))) (SC_fr hS (fun w w1 w2 => hf.1 w (by omega) (by omega))) hU hA s1) ?_
  rintro r ⟨t1, t2, t3⟩
  exact ⟨t1, t2, cF_tr hf t3⟩
theorem rF_UR {R' : zI} (h : rF R R') (hR : UR R M b U) : UR R' M b U := UR_fr hR (h.2 13 (by omega)) (fun w w1 w2 w3 w4 => h.1 w (by omega) (by omega)) rfl
theorem rF_SR {R' : zI} (h : rF R R') (hS : SR R 0 A) : SR R' 0 A := SR_fr hS (fun w w1 w2 => h.1 w (by omega) (by omega))
set_option maxHeartbeats 4000000 in
theorem r_imR {a : Nat} {k18 : Int32 × zI × zL → Option (Int32 × zI × zL)} {P : Int32 × zI × zL → Prop} (hR : UR R M b U) (hS : SR R 0 A) (hU : UB U) (hA : SB U A) (ha : a < U.1) (h : rI R (imP U.1 A (6 * a))) (hk : ∀ R', rI R' (imP U.1 A (6 * a + U.1)) → rF R R' → zW (k18 (qi (a + 1), R', M)) P) : zW (zfix (b_image_33 k18) FU (qi a, qi 0, R, M)) P := by
  have htw := UB_tw hU
  have hb : b < 2 := hR.1.1
  refine zW_lp (I := fun r q => ∃ (c : Nat) (R1 : zI), c ≤ U.1 ∧ r = U.1 - c ∧ q = (qi a, qi c, R1, M) ∧ rI R1 (imP U.1 A (6 * a + c)) ∧ rF R R1) ?_ FU U.1 _ ⟨0, R, by omega, by omega, rfl, h, rF_rf⟩ (FU_big (by omega))
  rintro k r q ⟨c, R1, hc, rfl, rfl, h1, hf⟩ ih
  have hR1 := rF_UR hf hR
  have hS1 := rF_SR hf hS
  have e13 : R1 0 13 = qi b := hR1.1.2.1
  have e2 : R1 2 b = qi U.1 := hR1.1.2.2.1
  by_cases hend : c = U.1
  · simp (disch := omega) only [b_image_33, e13, e2, hend, Nat.le_refl, ↓reduceIte, o_bind, and_true, true_and, and_false, false_and, or_true, true_or, or_false, false_or, not_true, not_false_eq_true, not_false_iff, ne_eq, Nat.reduceAdd, Nat.reduceMul, Nat.reduceSub, Nat.reduceDiv, Nat.reduceMod, Nat.reduceLT, Nat.reduceLeDiff, Nat.reduceEqDiff, Nat.not_lt, Nat.not_le, q_lit, ↓q_m1, q_om, q_on, q_add, q_mul, q_sub, q_div, q_md, q_ltT, q_ltF, q_leT, q_leF, q_eqT, q_eqF, q_inT, q_inF, q_nn, q_mlt, q_ltm, q_mle, q_lem, q_nem, q_mne]
    rw [hend] at h1
    exact hk R1 h1 hf
  · have hp : 6 * a + c < 36 := by omega
    have hlb := imP_len (A := A) (tw := U.1) (6 * a + c) (by omega)
    have hy : (6 * a + c) / 6 = a ∧ (6 * a + c) % 6 = c := by omega
    by_cases hac : a = c
    · have hn : ¬ ((6 * a + c) / 6 < U.1 ∧ (6 * a + c) % 6 < U.1 ∧ (6 * a + c) / 6 ≠ (6 * a + c) % 6) := by omega
      simp (disch := omega) only [b_image_33, e13, e2, ↓reduceIte, o_bind, and_true, true_and, and_false, false_and, or_true, true_or, or_false, false_or, not_true, not_false_eq_true, not_false_iff, ne_eq, Nat.reduceAdd, Nat.reduceMul, Nat.reduceSub, Nat.reduceDiv, Nat.reduceMod, Nat.reduceLT, Nat.reduceLeDiff, Nat.reduceEqDiff, Nat.not_lt, Nat.not_le, q_lit, ↓q_m1, q_om, q_on, q_add, q_mul, q_sub, q_div, q_md, q_ltT, q_ltF, q_leT, q_leF, q_eqT, q_eqF, q_inT, q_inF, q_nn, q_mlt, q_ltm, q_mle, q_lem, q_nem, q_mne]
      exact ih (U.1 - (c + 1)) _ (by omega) ⟨c + 1, R1, by omega, rfl, rfl, by rw [show 6 * a + (c + 1) = 6 * a + c + 1 by omega, prL_n hn]; exact h1, hf⟩
    · have hcc : (6 * a + c) / 6 < U.1 ∧ (6 * a + c) % 6 < U.1 ∧ (6 * a + c) / 6 ≠ (6 * a + c) % 6 := by omega
      have hcb := hA.2.1 (6 * a + c) hp
      have hb1 : A.2.1 (6 * a + c) ≤ 99 := hcb.1
      have hb2 : A.2.2.1 (6 * a + c) ≤ 99 := hcb.2.1
      have hb3 : A.2.2.2.1 (6 * a + c) ≤ 99 := hcb.2.2
      have d1 : ∀ R2 : zI, rF R1 R2 → R2 21 (6 * a + c) = qi (A.2.1 (6 * a + c)) ∧ R2 22 (6 * a + c) = qi (A.2.2.1 (6 * a + c)) ∧ R2 23 (6 * a + c) = qi (A.2.2.2.1 (6 * a + c)) := by
        intro R2 h2
        have hS2 := rF_SR h2 hS1
        have c1 := hS2.2.1 _ hp
        have c2 := hS2.2.2.1 _ hp
        have c3 := hS2.2.2.2.1 _ hp
        rw [Nat.mul_zero, Nat.zero_add] at c1 c2 c3
        exact ⟨c1, c2, c3⟩
      simp (disch := omega) only [b_image_33, e13, e2, f_at, (d1 R1 rF_rf).1, ↓reduceIte, o_bind, and_true, true_and, and_false, false_and, or_true, true_or, or_false, false_or, not_true, not_false_eq_true, not_false_iff, ne_eq, Nat.reduceAdd, Nat.reduceMul, Nat.reduceSub, Nat.reduceDiv, Nat.reduceMod, Nat.reduceLT, Nat.reduceLeDiff, Nat.reduceEqDiff, Nat.not_lt, Nat.not_le, Nat.add_zero, Nat.zero_add, Nat.mul_zero, Nat.zero_mul, q_lit, ↓q_m1, q_om, q_on, q_add, q_mul, q_sub, q_div, q_md, q_ltT, q_ltF, q_leT, q_leF, q_eqT, q_eqF, q_inT, q_inF, q_nn, q_mlt, q_ltm, q_mle, q_lem, q_nem, q_mne]
      refine zW_call (r_putO (M := M) (y := A.2.1 (6 * a + c)) h1 (by omega) (by omega)) ?_
      rintro ⟨R2, M2⟩ ⟨q1, q2, q3⟩
      dsimp only at q1 q2 q3 ⊢
      subst q3
      simp (disch := omega) only [(d1 R2 q2).2.1, ↓reduceIte, o_bind, and_true, true_and, and_false, false_and, or_true, true_or, or_false, false_or, not_true, not_false_eq_true, not_false_iff, ne_eq, Nat.reduceAdd, Nat.reduceMul, Nat.reduceSub, Nat.reduceDiv, Nat.reduceMod, Nat.reduceLT, Nat.reduceLeDiff, Nat.reduceEqDiff, Nat.not_lt, Nat.not_le, Nat.add_zero, Nat.zero_add, Nat.mul_zero, Nat.zero_mul, q_lit, ↓q_m1, q_om, q_on, q_add, q_mul, q_sub, q_div, q_md, q_ltT, q_ltF, q_leT, q_leF, q_eqT, q_eqF, q_inT, q_inF, q_nn, q_mlt, q_ltm, q_mle, q_lem, q_nem, q_mne]
      refine zW_call (r_putO (M := M2) (y := A.2.2.1 (6 * a + c)) q1 (by rw [List.length_append]; simp only [List.length_cons, List.length_nil]; omega) (by omega)) ?_
      rintro ⟨R3, M3⟩ ⟨s1, s2, s3⟩
      dsimp only at s1 s2 s3 ⊢
      subst s3
      simp (disch := omega) only [(d1 R3 (rF_tr q2 s2)).2.2, ↓reduceIte, o_bind, and_true, true_and, and_false, false_and, or_true, true_or, or_false, false_or, not_true, not_false_eq_true, not_false_iff, ne_eq, Nat.reduceAdd, Nat.reduceMul, Nat.reduceSub, Nat.reduceDiv, Nat.reduceMod, Nat.reduceLT, Nat.reduceLeDiff, Nat.reduceEqDiff, Nat.not_lt, Nat.not_le, Nat.add_zero, Nat.zero_add, Nat.mul_zero, Nat.zero_mul, q_lit, ↓q_m1, q_om, q_on, q_add, q_mul, q_sub, q_div, q_md, q_ltT, q_ltF, q_leT, q_leF, q_eqT, q_eqF, q_inT, q_inF, q_nn, q_mlt, q_ltm, q_mle, q_lem, q_nem, q_mne]
      refine zW_call (r_putO (M := M3) (y := A.2.2.2.1 (6 * a + c)) s1 (by rw [List.length_append, List.length_append]; simp only [List.length_cons, List.length_nil]; omega) (by omega)) ?_
      rintro ⟨R4, M4⟩ ⟨t1, t2, t3⟩
      dsimp only at t1 t2 t3 ⊢
      subst t3
      exact ih (U.1 - (c + 1)) _ (by omega) ⟨c + 1, R4, by omega, rfl, rfl, by rw [show 6 * a + (c + 1) = 6 * a + c + 1 by omega, prL_y hcc]; exact t1, rF_tr hf (rF_tr q2 (rF_tr s2 t2))⟩
set_option maxHeartbeats 4000000 in
theorem r_image (hR : UR R M b U) (hS : SR R 0 A) (hU : UB U) (hA : SB U A) : zW (f_image R M) (fun r => r.1 = qi ((imA U.1 A).length + 1) ∧ rI r.2.1 (imF U.1 A) ∧ rF R r.2.1 ∧ r.2.2 = M) := by
  have htw := UB_tw hU
  have hm := SB_m hA
  have hb : b < 2 := hR.1.1
  have hd : A.1 ≤ 999 := hA.1.1
  have z0 : (0 : Int32).toNatClampNeg = 0 := rfl
  have zq : (qi 0).toNatClampNeg = 0 := rfl
  have hf0 : rF R (z_uI R 0 64 (qi 0)) := ⟨fun w w1 _ => z_neP w1, fun j j1 => z_neK j1⟩
  have h0 : rI (z_uI R 0 64 (qi 0)) [] := ⟨z_same, fun k hk => absurd hk (by simp)⟩
  have e20 : R 20 0 = qi A.1 := hS.1.1
  unfold f_image
  simp (disch := omega) only [z0, zq, e20, ↓reduceIte, o_bind, and_true, true_and, and_false, false_and, or_true, true_or, or_false, false_or, not_true, not_false_eq_true, not_false_iff, ne_eq, Nat.reduceAdd, Nat.reduceMul, Nat.reduceSub, Nat.reduceDiv, Nat.reduceMod, Nat.reduceLT, Nat.reduceLeDiff, Nat.reduceEqDiff, Nat.not_lt, Nat.not_le, q_lit, ↓q_m1, q_om, q_on, q_add, q_mul, q_sub, q_div, q_md, q_ltT, q_ltF, q_leT, q_leF, q_eqT, q_eqF, q_inT, q_inF, q_nn, q_mlt, q_ltm, q_mle, q_lem, q_nem, q_mne, z_same, z_neP, z_neK, zL_same, zL_neP, zL_neK, zr_same, zr_ne]
  refine zW_call (r_putD (M := M) (y := A.1) h0 (by simp) (by omega)) ?_
  rintro ⟨R1, M1⟩ ⟨q1, q2, q3⟩
  dsimp only at q1 q2 q3 ⊢
  subst q3
  have hf1 := rF_tr hf0 q2
  refine zW_lp (I := fun r q => ∃ (a : Nat) (R2 : zI), a ≤ U.1 ∧ r = U.1 - a ∧ q = (qi a, R2, M1) ∧ rI R2 (imP U.1 A (6 * a)) ∧ rF R R2) ?_ FU U.1 _ ⟨0, R1, by omega, by omega, rfl, q1, hf1⟩ (FU_big (by omega))
  rintro k r q ⟨a, R2, ha, rfl, rfl, h1, hf⟩ ih
  have hR2 := rF_UR hf hR
  have hS2 := rF_SR hf hS
  have e13 : R2 0 13 = qi b := hR2.1.2.1
  have e2 : R2 2 b = qi U.1 := hR2.1.2.2.1
  by_cases hend : a = U.1
  · have e24 : R2 24 0 = qi A.2.2.2.2.1 := hS2.1.2.1
    simp (disch := omega) only [b_image_18, e13, e2, hend, z0, zq, e24, Nat.le_refl, ↓reduceIte, o_bind, and_true, true_and, and_false, false_and, or_true, true_or, or_false, false_or, not_true, not_false_eq_true, not_false_iff, ne_eq, Nat.reduceAdd, Nat.reduceMul, Nat.reduceSub, Nat.reduceDiv, Nat.reduceMod, Nat.reduceLT, Nat.reduceLeDiff, Nat.reduceEqDiff, Nat.not_lt, Nat.not_le, q_lit, ↓q_m1, q_om, q_on, q_add, q_mul, q_sub, q_div, q_md, q_ltT, q_ltF, q_leT, q_leF, q_eqT, q_eqF, q_inT, q_inF, q_nn, q_mlt, q_ltm, q_mle, q_lem, q_nem, q_mne]
    have h36 : imP U.1 A 36 = imP U.1 A (6 * a) := imP_skip 36 (by omega) (fun k k1 k2 => by omega)
    rw [← h36] at h1
    have hlb := imP_len (A := A) (tw := U.1) 36 (by omega)
    refine zW_call (r_putO (M := M1) (y := A.2.2.2.2.1) h1 (by omega) (by omega)) ?_
    rintro ⟨R3, M3⟩ ⟨s1, s2, s3⟩
    dsimp only at s1 s2 s3 ⊢
    subst s3
    refine zW_mono (r_imM (M := M3) (rF_UR s2 hR2) (rF_SR s2 hS2) hU hA s1) ?_
    rintro r ⟨t1, t2, t3, t4⟩
    exact ⟨t1, t2, rF_tr hf (rF_tr s2 t3), t4⟩
  · simp (disch := omega) only [b_image_18, e13, e2, ↓reduceIte, o_bind, and_true, true_and, and_false, false_and, or_true, true_or, or_false, false_or, not_true, not_false_eq_true, not_false_iff, ne_eq, Nat.reduceAdd, Nat.reduceMul, Nat.reduceSub, Nat.reduceDiv, Nat.reduceMod, Nat.reduceLT, Nat.reduceLeDiff, Nat.reduceEqDiff, Nat.not_lt, Nat.not_le, q_lit, ↓q_m1, q_om, q_on, q_add, q_mul, q_sub, q_div, q_md, q_ltT, q_ltF, q_leT, q_leF, q_eqT, q_eqF, q_inT, q_inF, q_nn, q_mlt, q_ltm, q_mle, q_lem, q_nem, q_mne]
    refine r_imR hR2 hS2 hU hA (show a < U.1 by omega) h1 (fun R3 s1 s2 => ?_)
    have h36 : imP U.1 A (6 * (a + 1)) = imP U.1 A (6 * a + U.1) := imP_skip _ (by omega) (fun k k1 k2 => by omega)
    rw [← h36] at s1
    exact ih (U.1 - (a + 1)) _ (by omega) ⟨a + 1, R3, by omega, rfl, rfl, s1, rF_tr hf s2⟩
theorem m_image (h : JP n K N G V R M) : zX (f_X10_image N G 0 V L) (f_image R M) (fun r r' => r.1 = r'.1 ∧ JP n K N G r.2.1 r'.2.1 r'.2.2) := by
  obtain ⟨u, b, f0, cnt, acts, x, pl, U, A, hi, h⟩ := h
  obtain ⟨⟨hn, -, hx, g2, hu, -⟩, -⟩ := id h.1
  obtain ⟨⟨g1, gs, gr, gt⟩, ⟨hU, hA⟩, -⟩ := id h.2.1
  have hlen := imA_len hA
  refine zX_W (zW_mono (cs_image hx g2 hu g1 gs hU hA) ?_)
  rintro ⟨y, V1, L1⟩ ⟨p1, p2, p3⟩
  refine zW_mono (r_image gr gt hU hA) ?_
  rintro ⟨y', R1, M1⟩ ⟨q1, q2, q3, q4⟩
  dsimp only at p1 p2 p3 q1 q2 q3 q4 ⊢
  subst q4
  refine ⟨p1.trans q1.symm, u, b, f0, cnt, acts, x, pl, U, A, hi, ?_⟩
  obtain ⟨h1, h2, h3, h4, h5, h6, h7, h8, h9⟩ := h
  have hw := p3.1
  have hj := p3.2
  have kw := q3.1
  have kj := q3.2
  refine ⟨h1, JB_fr h1 h9.1 h2 (fun w w1 => hw w (by omega) (by omega)) (fun w w1 => kw w (by omega) (by omega)) (kj 13 (by omega)) rfl, ?_, ?_, ?_, ?_, ?_, ?_, ?_⟩
  · rw [hj 1 (by omega), hw 1 (by omega) (by omega), kj 1 (by omega), kw 1 (by omega) (by omega)]; exact h3
  · rw [hj 3 (by omega), hj 4 (by omega), kj 10 (by omega), kj 11 (by omega)]; exact h4
  · rw [hw 27 (by omega) (by omega), kw 19 (by omega) (by omega)]; exact h5
  · rw [hj 13 (by omega), hw 24 (by omega) (by omega), hw 25 (by omega) (by omega), kj 60 (by omega), kw 33 (by omega) (by omega), kw 34 (by omega) (by omega)]; exact h6
  · refine ⟨(imF U.1 A).length, ?_, p2.1, q2.1, fun k hk => by rw [p2.2 k hk, q2.2 k hk]⟩
    unfold imF
    rw [List.length_append]
    simp only [List.length_cons, List.length_nil]
    omega
  · rw [hw 22 (by omega) (by omega)]; exact h8
  · rw [hj 10 (by omega), kj 48 (by omega), kj 47 (by omega)]; exact h9
end
