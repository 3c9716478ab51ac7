section
variable {V R : zI} {L M : zL} {t : Nat → Nat} {tl i j k : Nat}
def nmV (t : Nat → Nat) (i : Nat) : Nat → Nat
  | 0 => 0
  | m + 1 => 10 * nmV t i m + t (i + m) - 48
theorem nmV_b : ∀ m, m ≤ 4 → (∀ k, k < m → isD (t (i + k))) → nmV t i m < 10 ^ m := by
  intro m
  induction m with
  | zero => intro _ _; exact Nat.one_pos
  | succ m ih =>
    intro hm h
    have h1 := ih (by omega) (fun k hk => h k (by omega))
    have h2 := h m (by omega)
    show 10 * nmV t i m + t (i + m) - 48 < 10 ^ (m + 1)
    rw [Nat.pow_succ]
    omega
def rnN (R : zI) (t : Nat → Nat) (i m : Nat) (R' : zI) : Prop := R' 0 6 = qi (nmV t i (min 4 m)) ∧ R' 0 12 = (if 4 < m ∧ R 0 12 = qm then qi (i + 4) else R 0 12) ∧ (∀ j, j ≠ 5 → j ≠ 6 → j ≠ 12 → R' 0 j = R 0 j) ∧ ∀ x, x ≠ 0 → R' x = R x
set_option maxHeartbeats 4000000 in
theorem r_runN (hT : tpR R t tl) (h6 : R 0 6 = qi 0) (hi : i ≤ tl) : zW (zfix b_ahead_204 FU (qi i, qi 0, qi 1, qi 4, qi 0, R, M)) (fun r => ∃ m, i + m ≤ tl ∧ (∀ k, k < m → isD (t (i + k))) ∧ (i + m = tl ∨ ¬ isD (t (i + m))) ∧ r.1 0 5 = qi (i + m) ∧ rnN R t i m r.1 ∧ r.2 = M) := by
  obtain ⟨T1, T2, T3⟩ := hT
  refine zW_lp (I := fun r z => ∃ (m : Nat) (R1 : zI), i + m ≤ tl ∧ r = tl - (i + m) ∧ z = (qi (i + m), qi 0, qi 1, qi 4, qi m, R1, M) ∧ (∀ k, k < m → isD (t (i + k))) ∧ rnN R t i m R1) ?_ FU (tl - i) _ ⟨0, R, by omega, by omega, rfl, fun k hk => absurd hk (by omega), h6, by rw [if_neg (fun h => by have := h.1; omega)], fun _ _ _ _ => rfl, fun _ _ => rfl⟩ (FU_big (by omega))
  rintro kk r z ⟨m, R1, hm, rfl, rfl, hd, r1, r2, r3, r4⟩ ih
  have e2 : R1 0 2 = qi tl := by rw [r3 2 (by omega) (by omega) (by omega)]; exact T2
  have hrn5 : rnN R t i m (z_uI R1 0 5 (qi (i + m))) := ⟨by rw [z_neK (by omega)]; exact r1, by rw [z_neK (by omega)]; exact r2, fun j j1 j2 j3 => by rw [z_neK j1]; exact r3 j j1 j2 j3, fun x hx => by rw [z_neP hx]; exact r4 x hx⟩
  have hfin : (i + m = tl ∨ ¬ isD (t (i + m))) → zW (some (z_uI R1 0 5 (qi (i + m)), M)) (fun r => ∃ m, i + m ≤ tl ∧ (∀ k, k < m → isD (t (i + k))) ∧ (i + m = tl ∨ ¬ isD (t (i + m))) ∧ r.1 0 5 = qi (i + m) ∧ rnN R t i m r.1 ∧ r.2 = M) := fun he => zW_some ⟨m, hm, hd, he, (show z_uI R1 0 5 (qi (i + m)) 0 5 = qi (i + m) from z_same), hrn5, rfl⟩
  by_cases hend : i + m = tl
  · have g := hfin (Or.inl hend)
    simp (disch := omega) only [b_ahead_204, e2, ↓reduceIte, o_bind, and_true, true_and, and_false, false_and, or_true, true_or, or_false, false_or, not_true, not_false_eq_true, not_false_iff, ne_eq, Nat.reduceAdd, Nat.reduceMul, Nat.reduceSub, Nat.reduceDiv, Nat.reduceMod, Nat.reduceLT, Nat.reduceLeDiff, Nat.reduceEqDiff, Nat.not_lt, Nat.not_le, q_leT]
    exact g
  obtain ⟨e1, eo⟩ := T3 (i + m) (by omega)
  have e1' : R1 1 (i + m) = qi (t (i + m)) := by rw [r4 1 (by omega)]; exact e1
  have hisd := r_isD eo
  by_cases hD : isD (t (i + m))
  case neg =>
    have g := hfin (Or.inr hD)
    rw [decide_eq_false hD] at hisd
    simp (disch := omega) only [b_ahead_204, e2, e1', hisd, show false.toNat = 0 from rfl, ↓reduceIte, o_bind, and_true, true_and, and_false, false_and, or_true, true_or, or_false, false_or, not_true, not_false_eq_true, not_false_iff, ne_eq, Nat.reduceAdd, Nat.reduceMul, Nat.reduceSub, Nat.reduceDiv, Nat.reduceMod, Nat.reduceLT, Nat.reduceLeDiff, Nat.reduceEqDiff, Nat.not_lt, Nat.not_le, q_lit, q_leF, q_inT, q_nn]
    exact g
  rw [decide_eq_true hD] at hisd
  have hd' : ∀ k, k < m + 1 → isD (t (i + k)) := fun k hk => by
    by_cases e : k = m
    · rw [e]; exact hD
    · exact hd k (by omega)
  have hgo : ∀ R2 : zI, rnN R t i (m + 1) R2 → zW (kk (qi (i + m + 1), qi 0, qi 1, qi 4, qi (m + 1), R2, M)) (fun r => ∃ m, i + m ≤ tl ∧ (∀ k, k < m → isD (t (i + k))) ∧ (i + m = tl ∨ ¬ isD (t (i + m))) ∧ r.1 0 5 = qi (i + m) ∧ rnN R t i m r.1 ∧ r.2 = M) := fun R2 h2 => ih (tl - (i + (m + 1))) _ (by omega) ⟨m + 1, R2, by omega, rfl, rfl, hd', h2⟩
  by_cases hm4 : m < 4
  · have hb := nmV_b m (by omega) hd
    have hb4 : 10 ^ m ≤ 10 ^ 4 := Nat.pow_le_pow_right (by decide) (by omega)
    rw [show min 4 m = m by omega] at r1
    have g := hgo (z_uI R1 0 6 (qi (10 * nmV t i m + t (i + m) - 48))) ⟨by rw [z_same, show min 4 (m + 1) = m + 1 by omega]; rfl, by rw [z_neK (by omega), r2, if_neg (fun h => by have := h.1; omega), if_neg (fun h => by have := h.1; omega)], fun j j1 j2 j3 => by rw [z_neK j2]; exact r3 j j1 j2 j3, fun x hx => by rw [z_neP hx]; exact r4 x hx⟩
    simp (disch := omega) only [b_ahead_204, f_ahead_243, f_ahead_263, f_ahead_293, e2, e1', hisd, r1, show true.toNat = 1 from rfl, ↓reduceIte, o_bind, and_true, true_and, and_false, false_and, or_true, true_or, or_false, false_or, not_true, not_false_eq_true, not_false_iff, ne_eq, Nat.reduceAdd, Nat.reduceMul, Nat.reduceSub, Nat.reduceDiv, Nat.reduceMod, Nat.reduceLT, Nat.reduceLeDiff, Nat.reduceEqDiff, Nat.not_lt, Nat.not_le, q_lit, ↓q_m1, q_om, q_on, q_add, q_mul, q_sub, q_div, q_md, q_ltT, q_ltF, q_leT, q_leF, q_eqT, q_eqF, q_inT, q_inF, q_nn, q_mlt, q_ltm, q_mle, q_lem, q_nem, q_mne]
    exact g
  · rw [show min 4 m = 4 by omega] at r1
    have hmin : min 4 (m + 1) = 4 := by omega
    by_cases hm5 : m = 4
    · subst hm5
      rw [if_neg (fun h => by have := h.1; omega)] at r2
      by_cases h12 : R 0 12 = qm
      · have g := hgo (z_uI R1 0 12 (qi (i + 4))) ⟨by rw [z_neK (by omega), hmin]; exact r1, by rw [z_same, if_pos ⟨by omega, h12⟩], fun j j1 j2 j3 => by rw [z_neK j3]; exact r3 j j1 j2 j3, fun x hx => by rw [z_neP hx]; exact r4 x hx⟩
        rw [h12] at r2
        simp (disch := omega) only [b_ahead_204, f_ahead_243, f_ahead_263, f_ahead_293, e2, e1', hisd, r2, show true.toNat = 1 from rfl, ↓reduceIte, o_bind, and_true, true_and, and_false, false_and, or_true, true_or, or_false, false_or, not_true, not_false_eq_true, not_false_iff, ne_eq, Nat.reduceAdd, Nat.reduceMul, Nat.reduceSub, Nat.reduceDiv, Nat.reduceMod, Nat.reduceLT, Nat.reduceLeDiff, Nat.reduceEqDiff, Nat.not_lt, Nat.not_le, q_lit, ↓q_m1, q_om, q_on, q_add, q_mul, q_sub, q_div, q_md, q_ltT, q_ltF, q_leT, q_leF, q_eqT, q_eqF, q_inT, q_inF, q_nn, q_mlt, q_ltm, q_mle, q_lem, q_nem, q_mne]
        exact g
      · have g := hgo R1 ⟨by rw [hmin]; exact r1, by rw [r2, if_neg (fun h => h12 h.2)], r3, r4⟩
        have h12' : ¬ R1 0 12 = qm := by rw [r2]; exact h12
        simp (disch := omega) only [b_ahead_204, f_ahead_243, f_ahead_263, f_ahead_293, e2, e1', hisd, h12', show true.toNat = 1 from rfl, ↓reduceIte, o_bind, and_true, true_and, and_false, false_and, or_true, true_or, or_false, false_or, not_true, not_false_eq_true, not_false_iff, ne_eq, Nat.reduceAdd, Nat.reduceMul, Nat.reduceSub, Nat.reduceDiv, Nat.reduceMod, Nat.reduceLT, Nat.reduceLeDiff, Nat.reduceEqDiff, Nat.not_lt, Nat.not_le, q_lit, ↓q_m1, q_om, q_on, q_add, q_mul, q_sub, q_div, q_md, q_ltT, q_ltF, q_leT, q_leF, q_eqT, q_eqF, q_inT, q_inF, q_nn, q_mlt, q_ltm, q_mle, q_lem, q_nem, q_mne]
        exact g
    · have g := hgo R1 ⟨by rw [hmin]; exact r1, by
        rw [r2]
        by_cases h12 : R 0 12 = qm
        · rw [if_pos ⟨by omega, h12⟩, if_pos ⟨by omega, h12⟩]
        · rw [if_neg (fun h => h12 h.2), if_neg (fun h => h12 h.2)], r3, r4⟩
      simp (disch := omega) only [b_ahead_204, f_ahead_243, f_ahead_263, f_ahead_293, e2, e1', hisd, show true.toNat = 1 from rfl, ↓reduceIte, o_bind, and_true, true_and, and_false, false_and, or_true, true_or, or_false, false_or, not_true, not_false_eq_true, not_false_iff, ne_eq, Nat.reduceAdd, Nat.reduceMul, Nat.reduceSub, Nat.reduceDiv, Nat.reduceMod, Nat.reduceLT, Nat.reduceLeDiff, Nat.reduceEqDiff, Nat.not_lt, Nat.not_le, q_lit, ↓q_m1, q_om, q_on, q_add, q_mul, q_sub, q_div, q_md, q_ltT, q_ltF, q_leT, q_leF, q_eqT, q_eqF, q_inT, q_inF, q_nn, q_mlt, q_ltm, q_mle, q_lem, q_nem, q_mne]
      exact g
end
