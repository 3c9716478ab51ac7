section
set_option maxHeartbeats 4000000 in
theorem r_reckon {V : zI} {L : zL} {b w fr : Nat} {l : List Nat} {f : Nat → Int} {t1 : Nat → Bool} (hb : b < 2) (hw3 : w < 3) (h13 : V 0 13 = qi b) (h8 : V 8 (3 * b + w) = qi fr) (h9 : V 9 (3 * b + w) = qi (fr + l.length)) (hl : fr + l.length ≤ 1600) (hV : ∀ j, j < l.length → V 10 (1600 * b + fr + j) = qi (rsOf (l.getD j 0)) ∧ (100 ≤ l.getD j 0 → V 11 (1600 * b + fr + j) = qi (l.getD j 0 - 100))) (hty : tyL l ty0 = some (1, t1)) (hfb : ∀ c, c < 5 → -1000000 ≤ f c ∧ f c ≤ 1000000) (ha : ∀ c, c < 5 → V 29 (c + 1) = qz (f c)) : zW (f_reckons (qi w) V L) (fun r => r.1 = qZ ((evL f l ev0).2 0) ∧ r.2.1 = V ∧ ∀ w, w ≠ 28 → r.2.2 w = L w) := by
  unfold f_reckons
  simp (disch := omega) only [h13, h8, ↓reduceIte, o_bind, and_true, true_and, and_false, false_and, or_true, true_or, or_false, false_or, not_true, not_false_eq_true, not_false_iff, ne_eq, Nat.reduceAdd, Nat.reduceMul, Nat.reduceSub, Nat.reduceDiv, Nat.reduceMod, Nat.reduceLT, Nat.reduceLeDiff, Nat.reduceEqDiff, Nat.not_lt, Nat.not_le, q_lit, ↓q_m1, q_om, q_on, q_add, q_mul, q_sub, q_div, q_md, q_ltT, q_ltF, q_leT, q_leF, q_eqT, q_eqF, q_inT, q_inF, q_nn, q_mlt, q_ltm, q_mle, q_lem, q_nem, q_mne, z_same, z_neP, z_neK, zL_same, zL_neP, zL_neK, zr_same, zr_ne]
  refine zW_lp (I := fun r st => ∃ (i n : Nat) (t : Nat → Bool) (s : Nat → Int) (L' : zL), i ≤ l.length ∧ r = l.length - i ∧ st = (qi w, qi n, qi (1600 * b + fr + i), V, L') ∧ (∀ w, w ≠ 28 → L' w = L w) ∧ (∀ k, k < n → L' 28 k = qZ (s k)) ∧ evI n t s ∧ tyL (l.drop i) (n, t) = some (1, t1) ∧ (evL f (l.drop i) (n, s)).2 0 = (evL f l ev0).2 0) ?_ FU l.length _ ⟨0, 0, fun _ => false, fun _ => 0, L, by omega, by omega, rfl, fun _ _ => rfl, fun k h => absurd h (by omega), ⟨by omega, fun k h => absurd h (by omega)⟩, hty, rfl⟩ (FU_big (by omega))
  rintro k r st ⟨i, n, t, s, L', hi, rfl, rfl, hw, hs, hI, ht, he⟩ ih
  by_cases hend : i = l.length
  · subst hend
    rw [List.drop_length] at ht he
    cases ht
    simp (disch := omega) only [b_reckons_25, h13, h9, ↓reduceIte, o_bind, and_true, true_and, and_false, false_and, or_true, true_or, or_false, false_or, not_true, not_false_eq_true, not_false_iff, ne_eq, Nat.reduceAdd, Nat.reduceMul, Nat.reduceSub, Nat.reduceDiv, Nat.reduceMod, Nat.reduceLT, Nat.reduceLeDiff, Nat.reduceEqDiff, Nat.not_lt, Nat.not_le, q_lit, ↓q_m1, q_om, q_on, q_add, q_mul, q_sub, q_div, q_md, q_ltT, q_ltF, q_leT, q_leF, q_eqT, q_eqF, q_inT, q_inF, q_nn, q_mlt, q_ltm, q_mle, q_lem, q_nem, q_mne, z_same, z_neP, z_neK, zL_same, zL_neP, zL_neK, zr_same, zr_ne, Nat.add_assoc, Nat.le_refl]
    rw [hs 0 (by omega)]
    exact zW_some ⟨by rw [← he]; rfl, rfl, hw⟩
  · have hil : i < l.length := by omega
    rw [l_get hil] at ht he
    obtain ⟨hVi, hVv⟩ := hV i hil
    generalize l.getD i 0 = c at ht he hVi hVv
    obtain ⟨y, hy, hr⟩ : ∃ y, tyS c (n, t) = some y ∧ tyL (l.drop (i + 1)) y = some (1, t1) := by
      have ht' : (tyS c (n, t)).bind (tyL (l.drop (i + 1))) = some (1, t1) := ht
      cases hc : tyS c (n, t) with
      | none => rw [hc] at ht'; cases ht'
      | some y => rw [hc] at ht'; exact ⟨y, rfl, ht'⟩
    obtain ⟨hI', he1⟩ := ev_step hy hfb hI
    have hn120 : n ≤ 120 := hI.1
    have fin : ∀ (n' : Nat) (L'' : zL), n' = (evS f c (n, s)).1 → (∀ w, w ≠ 28 → L'' w = L w) → (∀ k, k < n' → L'' 28 k = qZ ((evS f c (n, s)).2 k)) → zW (k (qi w, qi n', qi (1600 * b + fr + i + 1), V, L'')) (fun r => r.1 = qZ ((evL f l ev0).2 0) ∧ r.2.1 = V ∧ ∀ w, w ≠ 28 → r.2.2 w = L w) := by
      intro n' L'' hn' hw' hs'
      refine ih (l.length - (i + 1)) _ (by omega) ⟨i + 1, n', y.2, (evS f c (n, s)).2, L'', by omega, rfl, rfl, hw', hs', ?_, ?_, ?_⟩
      · rw [hn', he1]; exact hI'
      · rw [hn', he1]; exact hr
      · rw [hn']; exact he
    have g0 : ¬ (1600 * b + (fr + l.length) ≤ 1600 * b + fr + i) := by omega
    have g1 : 1600 * b + fr + i < 3200 := by omega
    rcases ty_inv hy with ⟨h1, h2, rfl⟩ | ⟨rfl, h2, h3, rfl⟩ | ⟨rfl, h2, h3, h4, h5, rfl⟩ | ⟨h1, h2, h3, h4, rfl⟩
    · by_cases hc5 : c < 5
      · have hco : rsOf c = c + 1 := by unfold rsOf; rw [if_pos hc5]
        rw [hco] at hVi
        have hbb := hfb c hc5
        simp (disch := omega) only [b_reckons_25, h13, h9, g0, hVi, ha, qz_64, ↓reduceIte, o_bind, and_true, true_and, and_false, false_and, or_true, true_or, or_false, false_or, not_true, not_false_eq_true, not_false_iff, ne_eq, Nat.reduceAdd, Nat.reduceMul, Nat.reduceSub, Nat.reduceDiv, Nat.reduceMod, Nat.reduceLT, Nat.reduceLeDiff, Nat.reduceEqDiff, Nat.not_lt, Nat.not_le, q_lit, ↓q_m1, q_om, q_on, q_add, q_mul, q_sub, q_div, q_md, q_ltT, q_ltF, q_leT, q_leF, q_eqT, q_eqF, q_inT, q_inF, q_nn, q_mlt, q_ltm, q_mle, q_lem, q_nem, q_mne, z_same, z_neP, z_neK, zL_same, zL_neP, zL_neK, zr_same, zr_ne]
        refine fin (n + 1) _ ?_ (fun w hw' => by rw [zL_neP hw']; exact hw w hw') (fun k hk => ?_)
        · simp only [evS, hc5, true_or, ↓reduceIte]
        · simp only [evS, hc5, true_or, ↓reduceIte, zL_if]
          split
          · rfl
          · exact hs k (by omega)
      · by_cases h50 : c = 50
        · subst h50
          have hco : rsOf 50 = 30 := rfl
          rw [hco] at hVi
          simp (disch := omega) only [b_reckons_25, h13, h9, g0, hVi, ↓reduceIte, o_bind, and_true, true_and, and_false, false_and, or_true, true_or, or_false, false_or, not_true, not_false_eq_true, not_false_iff, ne_eq, Nat.reduceAdd, Nat.reduceMul, Nat.reduceSub, Nat.reduceDiv, Nat.reduceMod, Nat.reduceLT, Nat.reduceLeDiff, Nat.reduceEqDiff, Nat.not_lt, Nat.not_le, q_lit, ↓q_m1, q_om, q_on, q_add, q_mul, q_sub, q_div, q_md, q_ltT, q_ltF, q_leT, q_leF, q_eqT, q_eqF, q_inT, q_inF, q_nn, q_mlt, q_ltm, q_mle, q_lem, q_nem, q_mne, z_same, z_neP, z_neK, zL_same, zL_neP, zL_neK, zr_same, zr_ne]
          have e50 : evS f 50 (n, s) = (n + 1, fun k => if k = n then (1 : Int) else s k) := by simp [evS]
          rw [e50] at fin
          refine fin (n + 1) _ rfl (fun w hw' => by rw [zL_neP hw']; exact hw w hw') (fun k hk => ?_)
          simp only [zL_if]
          split
          · rfl
          · exact hs k (by omega)
        · have hco : rsOf c = 0 := by unfold rsOf; rw [if_neg (by omega), if_neg h50, if_pos (by omega)]
          rw [hco] at hVi
          have hVv' := hVv (by omega)
          have e64 : (qi (c - 100)).toInt64 = qZ ((c - 100 : Nat) : Int) := by rw [qi_z, qz_64] <;> omega
          simp (disch := omega) only [b_reckons_25, h13, h9, g0, hVi, hVv', e64, ↓reduceIte, o_bind, and_true, true_and, and_false, false_and, or_true, true_or, or_false, false_or, not_true, not_false_eq_true, not_false_iff, ne_eq, Nat.reduceAdd, Nat.reduceMul, Nat.reduceSub, Nat.reduceDiv, Nat.reduceMod, Nat.reduceLT, Nat.reduceLeDiff, Nat.reduceEqDiff, Nat.not_lt, Nat.not_le, q_lit, ↓q_m1, q_om, q_on, q_add, q_mul, q_sub, q_div, q_md, q_ltT, q_ltF, q_leT, q_leF, q_eqT, q_eqF, q_inT, q_inF, q_nn, q_mlt, q_ltm, q_mle, q_lem, q_nem, q_mne, z_same, z_neP, z_neK, zL_same, zL_neP, zL_neK, zr_same, zr_ne]
          refine fin (n + 1) _ ?_ (fun w hw' => by rw [zL_neP hw']; exact hw w hw') (fun k hk => ?_)
          · simp only [evS, show c < 5 ∨ 100 ≤ c ∨ c = 50 by omega, ↓reduceIte]
          · simp only [evS, show c < 5 ∨ 100 ≤ c ∨ c = 50 by omega, ↓reduceIte]
            simp only [hc5, h50, ↓reduceIte, zL_if]
            split
            · rfl
            · exact hs k (by omega)
    · have hco : rsOf 17 = 43 := rfl
      rw [hco] at hVi
      simp (disch := omega) only [b_reckons_25, h13, h9, g0, hVi, ↓reduceIte, o_bind, and_true, true_and, and_false, false_and, or_true, true_or, or_false, false_or, not_true, not_false_eq_true, not_false_iff, ne_eq, Nat.reduceAdd, Nat.reduceMul, Nat.reduceSub, Nat.reduceDiv, Nat.reduceMod, Nat.reduceLT, Nat.reduceLeDiff, Nat.reduceEqDiff, Nat.not_lt, Nat.not_le, q_lit, ↓q_m1, q_om, q_on, q_add, q_mul, q_sub, q_div, q_md, q_ltT, q_ltF, q_leT, q_leF, q_eqT, q_eqF, q_inT, q_inF, q_nn, q_mlt, q_ltm, q_mle, q_lem, q_nem, q_mne, z_same, z_neP, z_neK, zL_same, zL_neP, zL_neK, zr_same, zr_ne]
      refine fin n _ ?_ (fun w hw' => by rw [zL_neP hw']; exact hw w hw') (fun k hk => ?_)
      · simp only [evS, show ¬ (17 < 5 ∨ 100 ≤ 17 ∨ 17 = 50) by omega, ↓reduceIte]
      · simp only [evS, show ¬ (17 < 5 ∨ 100 ≤ 17 ∨ 17 = 50) by omega, ↓reduceIte, zL_if]
        split
        · rw [hs (n - 1) (by omega), qZ_lit, qZ_sub]; rfl
        · exact hs k (by omega)
    · have hco : rsOf 18 = 44 := rfl
      rw [hco] at hVi
      have b1 := (hI.2 (n - 3) (by omega))
      have b2 := b1.2 h3
      have e0 : (qZ (s (n - 3)) = 1) ↔ s (n - 3) = 1 := by rw [qZ_lit, qZ_eq] <;> omega
      have e3 : n - 2 - 1 = n - 3 := by omega
      have e4 : n - 2 + 1 = n - 1 := by omega
      simp (disch := omega) only [b_reckons_25, h13, h9, g0, hVi, q_dn2, ↓lg_cmp_eq, ↓reduceIte, o_bind, and_true, true_and, and_false, false_and, or_true, true_or, or_false, false_or, not_true, not_false_eq_true, not_false_iff, ne_eq, Nat.reduceAdd, Nat.reduceMul, Nat.reduceSub, Nat.reduceDiv, Nat.reduceMod, Nat.reduceLT, Nat.reduceLeDiff, Nat.reduceEqDiff, Nat.not_lt, Nat.not_le, q_lit, ↓q_m1, q_om, q_on, q_add, q_mul, q_sub, q_div, q_md, q_ltT, q_ltF, q_leT, q_leF, q_eqT, q_eqF, q_inT, q_inF, q_nn, q_mlt, q_ltm, q_mle, q_lem, q_nem, q_mne, z_same, z_neP, z_neK, zL_same, zL_neP, zL_neK, zr_same, zr_ne, e3, e4, hs, e0]
      split
      · rename_i h0
        have h0' : ¬ s (n - 3) = 0 := by omega
        refine fin (n - 2) _ ?_ (fun w hw' => by rw [zL_neP hw']; exact hw w hw') (fun k hk => ?_)
        · simp only [evS, show ¬ (18 < 5 ∨ 100 ≤ 18 ∨ 18 = 50) by omega, show ¬ (18 = 17) by omega, ↓reduceIte]
        · simp only [evS, show ¬ (18 < 5 ∨ 100 ≤ 18 ∨ 18 = 50) by omega, show ¬ (18 = 17) by omega, ↓reduceIte, zL_if, h0']
          split
          · rfl
          · exact hs k (by omega)
      · rename_i h0
        have h0' : s (n - 3) = 0 := by omega
        refine fin (n - 2) _ ?_ (fun w hw' => by rw [zL_neP hw']; exact hw w hw') (fun k hk => ?_)
        · simp only [evS, show ¬ (18 < 5 ∨ 100 ≤ 18 ∨ 18 = 50) by omega, show ¬ (18 = 17) by omega, ↓reduceIte]
        · simp only [evS, show ¬ (18 < 5 ∨ 100 ≤ 18 ∨ 18 = 50) by omega, show ¬ (18 = 17) by omega, ↓reduceIte, zL_if, h0']
          split
          · rfl
          · exact hs k (by omega)
    · have hco : rsOf c = sOf c := by unfold rsOf; rw [if_neg (by omega), if_neg (by omega), if_neg (by omega)]
      rw [hco] at hVi
      have hso := sOf_b h1
      have b1 := hI.2 (n - 2) (by omega)
      have b2 := hI.2 (n - 1) (by omega)
      have hj := r_two h1 b1.1 b2.1 (fun h12 => ⟨b1.2 (by rw [h3]; simpa using h12), b2.2 (by rw [h4]; simpa using h12)⟩)
      have e3 : n - 1 - 1 = n - 2 := by omega
      have n43 : ¬ sOf c = 43 := by omega
      have n44 : ¬ sOf c = 44 := by omega
      simp (disch := omega) only [b_reckons_25, h13, h9, g0, hVi, hso.1, n43, n44, q_dn1, ↓reduceIte, o_bind, and_true, true_and, and_false, false_and, or_true, true_or, or_false, false_or, not_true, not_false_eq_true, not_false_iff, ne_eq, Nat.reduceAdd, Nat.reduceMul, Nat.reduceSub, Nat.reduceDiv, Nat.reduceMod, Nat.reduceLT, Nat.reduceLeDiff, Nat.reduceEqDiff, Nat.not_lt, Nat.not_le, q_lit, ↓q_m1, q_om, q_on, q_add, q_mul, q_sub, q_div, q_md, q_ltT, q_ltF, q_leT, q_leF, q_eqT, q_eqF, q_inT, q_inF, q_nn, q_mlt, q_ltm, q_mle, q_lem, q_nem, q_mne, z_same, z_neP, z_neK, zL_same, zL_neP, zL_neK, zr_same, zr_ne, e3, hs, hj]
      refine fin (n - 1) _ ?_ (fun w hw' => by rw [zL_neP hw']; exact hw w hw') (fun k hk => ?_)
      · simp only [evS, show ¬ (c < 5 ∨ 100 ≤ c ∨ c = 50) by omega, show ¬ (c = 17) by omega, show ¬ (c = 18) by omega, ↓reduceIte]
      · simp only [evS, show ¬ (c < 5 ∨ 100 ≤ c ∨ c = 50) by omega, show ¬ (c = 17) by omega, show ¬ (c = 18) by omega, ↓reduceIte, zL_if]
        split
        · rfl
        · exact hs k (by omega)
end
