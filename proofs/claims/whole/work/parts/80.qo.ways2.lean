section
variable {n : Nat} {K N : Nat → Nat} {G : zG} {V R : zI} {L M : zL} {w d : Nat → Nat} {y k f t i B u p b : Nat}
theorem rdW_c1 (h : wI w B) (hf : f < 6) (hy : y < 6) : rdW w y (6 * f + y) = w (6 * f + y) := by
  rw [rdW_e hy, if_neg (fun g => by have := g.2.2.1; rw [wI_d h hy] at this; omega)]
theorem rdW_c2 (h : wI w B) (hy : y < 6) (ht : t < 6) : rdW w y (6 * y + t) = w (6 * y + t) := by
  rw [rdW_e ht, if_neg (fun g => by have := g.2.1; rw [wI_d h hy] at this; omega)]
theorem rdM_c1 (h : d (6 * y + y) = 0) (hy : y < 6) : rdM d y (6 * f + y) = d (6 * f + y) := by
  rw [rdM_e hy]
  split <;> omega
theorem rdM_c2 (h : d (6 * y + y) = 0) (ht : t < 6) : rdM d y (6 * y + t) = d (6 * y + t) := by
  rw [rdM_e ht]
  split <;> omega
def mdF (a c : Nat → Nat) (i k : Nat) : Nat := if k < i then a k else c k
theorem mdF_e {a c : Nat → Nat} (h : a k = c k) : mdF a c i k = c k := by
  unfold mdF
  split
  · exact h
  · rfl
theorem mdF_st {a c : Nat → Nat} {v : Nat} (h : ∀ k, k < 36 → V p k = qi (mdF a c i k)) (hv : v = a i) : ∀ k, k < 36 → z_uI V p i (qi v) p k = qi (mdF a c (i + 1) k) := by
  intro k hk
  unfold mdF
  by_cases e : k = i
  · subst e
    rw [z_same, if_pos (by omega), hv]
  · rw [z_neK e, h k hk]
    unfold mdF
    by_cases e2 : k < i
    · rw [if_pos e2, if_pos (by omega)]
    · rw [if_neg e2, if_neg (by omega)]
theorem mdF_no {a c : Nat → Nat} (h : ∀ k, k < 36 → V p k = qi (mdF a c i k)) (hv : a i = c i) : ∀ k, k < 36 → V p k = qi (mdF a c (i + 1) k) := by
  intro k hk
  rw [h k hk]
  unfold mdF
  by_cases e : k = i
  · subst e
    rw [if_neg (by omega), if_pos (by omega), hv]
  · by_cases e2 : k < i
    · rw [if_pos e2, if_pos (by omega)]
    · rw [if_neg e2, if_neg (by omega)]
set_option maxHeartbeats 8000000 in
theorem cs_way1 {k2 : Int32 × zI × zL → Option (zI × zL)} {P : zI × zL → Prop} (hy : y < 6) (hN : N p = 36) (hw : wI w B) (hB : B ≤ 10000) (hV : ∀ k, k < 36 → V p k = qi (w k)) (hk : ∀ V', (∀ k, k < 36 → V' p k = qi (rdW w y k)) → (∀ x, x ≠ p → V' x = V x) → zW (k2 (qi (y + 1), V', L)) P) : zW (zfix (b_X9_findWays_10 N G u p k2) FU (qi y, qi 0, V, L)) P := by
  refine zW_lp (I := fun r z => ∃ (i : Nat) (V1 : zI), i ≤ 36 ∧ r = 36 - i ∧ z = (qi y, qi i, V1, L) ∧ (∀ k, k < 36 → V1 p k = qi (mdF (rdW w y) w i k)) ∧ ∀ x, x ≠ p → V1 x = V x) ?_ FU 36 _ ⟨0, V, by omega, by omega, rfl, fun k hk => by rw [hV k hk]; unfold mdF; rw [if_neg (by omega)], fun _ _ => rfl⟩ (FU_big (by omega))
  rintro kk r z ⟨i, V1, hi, rfl, rfl, h1, hx⟩ ih
  by_cases hend : i = 36
  · subst hend
    have g := hk V1 (fun k hk => by rw [h1 k hk]; unfold mdF; rw [if_pos hk]) hx
    simp (disch := omega) only [b_X9_findWays_10, ↓reduceIte, o_bind, and_true, true_and, and_false, false_and, or_true, true_or, or_false, false_or, not_true, not_false_eq_true, not_false_iff, ne_eq, Nat.reduceAdd, Nat.reduceMul, Nat.reduceSub, Nat.reduceDiv, Nat.reduceMod, Nat.reduceLT, Nat.reduceLeDiff, Nat.reduceEqDiff, Nat.not_lt, Nat.not_le, q_lit, q_leT, q_add]
    exact g
  have hi36 : i < 36 := by omega
  have ea : V1 p (i / 6 * 6 + y) = qi (w (6 * (i / 6) + y)) := by
    rw [Nat.mul_comm (i / 6) 6, h1 _ (by omega), mdF_e (rdW_c1 hw (by omega) hy)]
  have eb : V1 p (y * 6 + i % 6) = qi (w (6 * y + i % 6)) := by
    rw [Nat.mul_comm y 6, h1 _ (by omega), mdF_e (rdW_c2 hw hy (by omega))]
  have ec : V1 p i = qi (w i) := by
    rw [h1 i hi36]
    unfold mdF
    rw [if_neg (by omega)]
  have ba := (hw (6 * (i / 6) + y) (by omega)).1
  have bb := (hw (6 * y + i % 6) (by omega)).1
  have bc := (hw i hi36).1
  have hno : ¬ (i / 6 ≠ i % 6 ∧ 0 < w (6 * (i / 6) + y) ∧ 0 < w (6 * y + i % 6) ∧ (w i = 0 ∨ w (6 * (i / 6) + y) + w (6 * y + i % 6) < w i)) → zW (kk (qi y, qi (i + 1), V1, L)) P := fun hn => ih (36 - (i + 1)) _ (by omega) ⟨i + 1, V1, by omega, rfl, rfl, mdF_no h1 (by unfold rdW; rw [if_neg hn]), hx⟩
  have hyes : (i / 6 ≠ i % 6 ∧ 0 < w (6 * (i / 6) + y) ∧ 0 < w (6 * y + i % 6) ∧ (w i = 0 ∨ w (6 * (i / 6) + y) + w (6 * y + i % 6) < w i)) → zW (kk (qi y, qi (i + 1), z_uI V1 p i (qi (w (6 * (i / 6) + y) + w (6 * y + i % 6))), L)) P := fun hn => ih (36 - (i + 1)) _ (by omega) ⟨i + 1, _, by omega, rfl, rfl, mdF_st h1 (by unfold rdW; rw [if_pos hn]), fun x hx' => by rw [z_neP hx']; exact hx x hx'⟩
  by_cases c1 : i / 6 = i % 6
  · have g := hno (fun h => h.1 c1)
    simp (disch := omega) only [b_X9_findWays_10, f_X9_findWays_74, f_X9_findWays_75, hN, ↓reduceIte, o_bind, and_true, true_and, and_false, false_and, or_true, true_or, or_false, false_or, not_true, not_false_eq_true, not_false_iff, ne_eq, Nat.reduceAdd, Nat.reduceMul, Nat.reduceSub, Nat.reduceDiv, Nat.reduceMod, Nat.reduceLT, Nat.reduceLeDiff, Nat.reduceEqDiff, Nat.not_lt, Nat.not_le, q_lit, ↓q_m1, q_om, q_on, q_add, q_mul, q_sub, q_div, q_md, q_ltT, q_ltF, q_leT, q_leF, q_eqT, q_eqF, q_inT, q_inF, q_nn, q_mlt, q_ltm, q_mle, q_lem, q_nem, q_mne]
    exact g
  by_cases c2 : 0 < w (6 * (i / 6) + y)
  case neg =>
    have g := hno (fun h => c2 h.2.1)
    simp (disch := omega) only [b_X9_findWays_10, f_X9_findWays_74, f_X9_findWays_75, hN, ea, ↓reduceIte, o_bind, and_true, true_and, and_false, false_and, or_true, true_or, or_false, false_or, not_true, not_false_eq_true, not_false_iff, ne_eq, Nat.reduceAdd, Nat.reduceMul, Nat.reduceSub, Nat.reduceDiv, Nat.reduceMod, Nat.reduceLT, Nat.reduceLeDiff, Nat.reduceEqDiff, Nat.not_lt, Nat.not_le, q_lit, ↓q_m1, q_om, q_on, q_add, q_mul, q_sub, q_div, q_md, q_ltT, q_ltF, q_leT, q_leF, q_eqT, q_eqF, q_inT, q_inF, q_nn, q_mlt, q_ltm, q_mle, q_lem, q_nem, q_mne]
    exact g
  by_cases c3 : 0 < w (6 * y + i % 6)
  case neg =>
    have g := hno (fun h => c3 h.2.2.1)
    simp (disch := omega) only [b_X9_findWays_10, f_X9_findWays_74, f_X9_findWays_75, hN, ea, eb, ↓reduceIte, o_bind, and_true, true_and, and_false, false_and, or_true, true_or, or_false, false_or, not_true, not_false_eq_true, not_false_iff, ne_eq, Nat.reduceAdd, Nat.reduceMul, Nat.reduceSub, Nat.reduceDiv, Nat.reduceMod, Nat.reduceLT, Nat.reduceLeDiff, Nat.reduceEqDiff, Nat.not_lt, Nat.not_le, q_lit, ↓q_m1, q_om, q_on, q_add, q_mul, q_sub, q_div, q_md, q_ltT, q_ltF, q_leT, q_leF, q_eqT, q_eqF, q_inT, q_inF, q_nn, q_mlt, q_ltm, q_mle, q_lem, q_nem, q_mne]
    exact g
  by_cases c4 : w i = 0
  · have g := hyes ⟨c1, c2, c3, Or.inl c4⟩
    simp (disch := omega) only [b_X9_findWays_10, f_X9_findWays_74, f_X9_findWays_75, f_X9_findWays_105, hN, ea, eb, ec, c4, ↓reduceIte, o_bind, and_true, true_and, and_false, false_and, or_true, true_or, or_false, false_or, not_true, not_false_eq_true, not_false_iff, ne_eq, Nat.reduceAdd, Nat.reduceMul, Nat.reduceSub, Nat.reduceDiv, Nat.reduceMod, Nat.reduceLT, Nat.reduceLeDiff, Nat.reduceEqDiff, Nat.not_lt, Nat.not_le, q_lit, ↓q_m1, q_om, q_on, q_add, q_mul, q_sub, q_div, q_md, q_ltT, q_ltF, q_leT, q_leF, q_eqT, q_eqF, q_inT, q_inF, q_nn, q_mlt, q_ltm, q_mle, q_lem, q_nem, q_mne]
    exact g
  by_cases c5 : w (6 * (i / 6) + y) + w (6 * y + i % 6) < w i
  · have g := hyes ⟨c1, c2, c3, Or.inr c5⟩
    simp (disch := omega) only [b_X9_findWays_10, f_X9_findWays_74, f_X9_findWays_75, f_X9_findWays_105, hN, ea, eb, ec, ↓reduceIte, o_bind, and_true, true_and, and_false, false_and, or_true, true_or, or_false, false_or, not_true, not_false_eq_true, not_false_iff, ne_eq, Nat.reduceAdd, Nat.reduceMul, Nat.reduceSub, Nat.reduceDiv, Nat.reduceMod, Nat.reduceLT, Nat.reduceLeDiff, Nat.reduceEqDiff, Nat.not_lt, Nat.not_le, q_lit, ↓q_m1, q_om, q_on, q_add, q_mul, q_sub, q_div, q_md, q_ltT, q_ltF, q_leT, q_leF, q_eqT, q_eqF, q_inT, q_inF, q_nn, q_mlt, q_ltm, q_mle, q_lem, q_nem, q_mne]
    exact g
  · have g := hno (fun h => by
      rcases h.2.2.2 with h | h
      · exact c4 h
      · exact c5 h)
    simp (disch := omega) only [b_X9_findWays_10, f_X9_findWays_74, f_X9_findWays_75, f_X9_findWays_105, hN, ea, eb, ec, ↓reduceIte, o_bind, and_true, true_and, and_false, false_and, or_true, true_or, or_false, false_or, not_true, not_false_eq_true, not_false_iff, ne_eq, Nat.reduceAdd, Nat.reduceMul, Nat.reduceSub, Nat.reduceDiv, Nat.reduceMod, Nat.reduceLT, Nat.reduceLeDiff, Nat.reduceEqDiff, Nat.not_lt, Nat.not_le, q_lit, ↓q_m1, q_om, q_on, q_add, q_mul, q_sub, q_div, q_md, q_ltT, q_ltF, q_leT, q_leF, q_eqT, q_eqF, q_inT, q_inF, q_nn, q_mlt, q_ltm, q_mle, q_lem, q_nem, q_mne]
    exact g
set_option maxHeartbeats 4000000 in
theorem cs_ways (hG : G u 7 = some p) (hN : N p = 36) (hw : wI w 9) (hV : ∀ k, k < 36 → V p k = qi (w k)) : zW (f_X9_findWays N G u V L) (fun r => (∀ k, k < 36 → r.1 p k = qi (itW w 6 k)) ∧ (∀ x, x ≠ p → r.1 x = V x) ∧ r.2 = L) := by
  unfold f_X9_findWays g_X9_findWays
  rw [hG, o_bind]
  refine zW_lp (I := fun r z => ∃ (y : Nat) (V1 : zI), y ≤ 6 ∧ r = 6 - y ∧ z = (qi y, V1, L) ∧ (∀ k, k < 36 → V1 p k = qi (itW w y k)) ∧ ∀ x, x ≠ p → V1 x = V x) ?_ FU 6 _ ⟨0, V, by omega, by omega, rfl, hV, fun _ _ => rfl⟩ (FU_big (by omega))
  rintro kk r z ⟨y, V1, hy, rfl, rfl, h1, hx⟩ ih
  by_cases hend : y = 6
  · subst hend
    simp (disch := omega) only [b_X9_findWays_2, ↓reduceIte, o_bind, and_true, true_and, and_false, false_and, or_true, true_or, or_false, false_or, not_true, not_false_eq_true, not_false_iff, ne_eq, Nat.reduceAdd, Nat.reduceMul, Nat.reduceSub, Nat.reduceDiv, Nat.reduceMod, Nat.reduceLT, Nat.reduceLeDiff, Nat.reduceEqDiff, Nat.not_lt, Nat.not_le, q_lit, q_leT]
    exact zW_some ⟨h1, hx, rfl⟩
  · have hb := p2i (i := y) (by omega)
    simp (disch := omega) only [b_X9_findWays_2, ↓reduceIte, o_bind, and_true, true_and, and_false, false_and, or_true, true_or, or_false, false_or, not_true, not_false_eq_true, not_false_iff, ne_eq, Nat.reduceAdd, Nat.reduceMul, Nat.reduceSub, Nat.reduceDiv, Nat.reduceMod, Nat.reduceLT, Nat.reduceLeDiff, Nat.reduceEqDiff, Nat.not_lt, Nat.not_le, q_lit, q_leF]
    exact cs_way1 (by omega) hN (itW_I hw y (by omega)) (by omega) h1 (fun V2 g1 g2 => ih (6 - (y + 1)) _ (by omega) ⟨y + 1, V2, by omega, rfl, rfl, g1, fun x hx' => (g2 x hx').trans (hx x hx')⟩)
end
