section
variable {V R : zI} {L M : zL} {t : Nat → Nat} {tl i j k : Nat}
def wdV (t : Nat → Nat) (i : Nat) : Nat → Nat
  | 0 => 0
  | m + 1 => wdV t i m * 256 + t (i + m)
theorem wdV_b : ∀ m, (∀ k, k < m → t (i + k) < 256) → wdV t i m < 256 ^ m := by
  intro m
  induction m with
  | zero => intro _; exact Nat.one_pos
  | succ m ih =>
    intro h
    have h1 := ih (fun k hk => h k (by omega))
    have h2 := h m (by omega)
    show wdV t i m * 256 + t (i + m) < 256 ^ (m + 1)
    rw [Nat.pow_succ]
    omega
def rnW (R : zI) (M : zL) (t : Nat → Nat) (i m : Nat) (R' : zI) (M' : zL) : Prop := M' 0 7 = qI (wdV t i (min 6 m)) ∧ R' 0 12 = (if 6 < m ∧ R 0 12 = qm then qi (i + 6) else R 0 12) ∧ (∀ j, j ≠ 5 → j ≠ 12 → R' 0 j = R 0 j) ∧ (∀ x, x ≠ 0 → R' x = R x) ∧ (∀ k, k ≠ 7 → M' 0 k = M 0 k) ∧ ∀ x, x ≠ 0 → M' x = M x
set_option maxHeartbeats 4000000 in
theorem r_runW (hT : tpR R t tl) (h7 : M 0 7 = qI 0) (hi : i ≤ tl) : zW (zfix b_ahead_204 FU (qi i, qi 1, qi 0, qi 6, qi 0, R, M)) (fun r => ∃ m, i + m ≤ tl ∧ (∀ k, k < m → isL (t (i + k))) ∧ (i + m = tl ∨ ¬ isL (t (i + m))) ∧ r.1 0 5 = qi (i + m) ∧ rnW R M t i m r.1 r.2) := by
  obtain ⟨T1, T2, T3⟩ := hT
  refine zW_lp (I := fun r z => ∃ (m : Nat) (R1 : zI) (M1 : zL), i + m ≤ tl ∧ r = tl - (i + m) ∧ z = (qi (i + m), qi 1, qi 0, qi 6, qi m, R1, M1) ∧ (∀ k, k < m → isL (t (i + k))) ∧ rnW R M t i m R1 M1) ?_ FU (tl - i) _ ⟨0, R, M, by omega, by omega, rfl, fun k hk => absurd hk (by omega), h7, by rw [if_neg (fun h => by have := h.1; omega)], fun _ _ _ => rfl, fun _ _ => rfl, fun _ _ => rfl, fun _ _ => rfl⟩ (FU_big (by omega))
  rintro kk r z ⟨m, R1, M1, hm, rfl, rfl, hd, r1, r2, r3, r4, r5, r6⟩ ih
  have e2 : R1 0 2 = qi tl := by rw [r3 2 (by omega) (by omega)]; exact T2
  have hrn5 : rnW R M t i m (z_uI R1 0 5 (qi (i + m))) M1 := ⟨r1, by rw [z_neK (by omega)]; exact r2, fun j j1 j3 => by rw [z_neK j1]; exact r3 j j1 j3, fun x hx => by rw [z_neP hx]; exact r4 x hx, r5, r6⟩
  have hfin : (i + m = tl ∨ ¬ isL (t (i + m))) → zW (some (z_uI R1 0 5 (qi (i + m)), M1)) (fun r => ∃ m, i + m ≤ tl ∧ (∀ k, k < m → isL (t (i + k))) ∧ (i + m = tl ∨ ¬ isL (t (i + m))) ∧ r.1 0 5 = qi (i + m) ∧ rnW R M t i m r.1 r.2) := fun he => zW_some ⟨m, hm, hd, he, (show z_uI R1 0 5 (qi (i + m)) 0 5 = qi (i + m) from z_same), hrn5⟩
  by_cases hend : i + m = tl
  · have g := hfin (Or.inl hend)
    simp (disch := omega) only [b_ahead_204, e2, ↓reduceIte, o_bind, and_true, true_and, and_false, false_and, or_true, true_or, or_false, false_or, not_true, not_false_eq_true, not_false_iff, ne_eq, Nat.reduceAdd, Nat.reduceMul, Nat.reduceSub, Nat.reduceDiv, Nat.reduceMod, Nat.reduceLT, Nat.reduceLeDiff, Nat.reduceEqDiff, Nat.not_lt, Nat.not_le, q_leT]
    exact g
  obtain ⟨e1, eo⟩ := T3 (i + m) (by omega)
  have e1' : R1 1 (i + m) = qi (t (i + m)) := by rw [r4 1 (by omega)]; exact e1
  have hisd := r_isL eo
  by_cases hD : isL (t (i + m))
  case neg =>
    have g := hfin (Or.inr hD)
    rw [decide_eq_false hD] at hisd
    simp (disch := omega) only [b_ahead_204, e2, e1', hisd, show false.toNat = 0 from rfl, ↓reduceIte, o_bind, and_true, true_and, and_false, false_and, or_true, true_or, or_false, false_or, not_true, not_false_eq_true, not_false_iff, ne_eq, Nat.reduceAdd, Nat.reduceMul, Nat.reduceSub, Nat.reduceDiv, Nat.reduceMod, Nat.reduceLT, Nat.reduceLeDiff, Nat.reduceEqDiff, Nat.not_lt, Nat.not_le, q_lit, q_leF, q_inT, q_nn, q_eqF]
    exact g
  rw [decide_eq_true hD] at hisd
  have hd' : ∀ k, k < m + 1 → isL (t (i + k)) := fun k hk => by
    by_cases e : k = m
    · rw [e]; exact hD
    · exact hd k (by omega)
  have hgo : ∀ (R2 : zI) (M2 : zL), rnW R M t i (m + 1) R2 M2 → zW (kk (qi (i + m + 1), qi 1, qi 0, qi 6, qi (m + 1), R2, M2)) (fun r => ∃ m, i + m ≤ tl ∧ (∀ k, k < m → isL (t (i + k))) ∧ (i + m = tl ∨ ¬ isL (t (i + m))) ∧ r.1 0 5 = qi (i + m) ∧ rnW R M t i m r.1 r.2) := fun R2 M2 h2 => ih (tl - (i + (m + 1))) _ (by omega) ⟨m + 1, R2, M2, by omega, rfl, rfl, hd', h2⟩
  by_cases hm6 : m < 6
  · have hb := wdV_b (t := t) (i := i) m (fun k hk => by have := (hd k hk).2; omega)
    have hb6 : 256 ^ m ≤ 256 ^ 5 := Nat.pow_le_pow_right (by decide) (by omega)
    have e5 : (256 : Nat) ^ 5 = 1099511627776 := rfl
    rw [show min 6 m = m by omega] at r1
    have hl : (M1 0 7 <<< ((qi 8).toInt64 &&& 63)) ||| (qi (t (i + m))).toInt64 = qI (wdV t i m * 256 + t (i + m)) := by
      rw [r1]
      exact Q_let (by omega) eo
    have g := hgo R1 (z_uL M1 0 7 (qI (wdV t i m * 256 + t (i + m)))) ⟨by rw [zL_same, show min 6 (m + 1) = m + 1 by omega]; rfl, by rw [r2, if_neg (fun h => by have := h.1; omega), if_neg (fun h => by have := h.1; omega)], r3, r4, fun k hk => by rw [zL_neK hk]; exact r5 k hk, fun x hx => by rw [zL_neP hx]; exact r6 x hx⟩
    simp (disch := omega) only [b_ahead_204, f_ahead_243, f_ahead_263, f_ahead_293, e2, e1', hisd, hl, show true.toNat = 1 from rfl, ↓reduceIte, o_bind, and_true, true_and, and_false, false_and, or_true, true_or, or_false, false_or, not_true, not_false_eq_true, not_false_iff, ne_eq, Nat.reduceAdd, Nat.reduceMul, Nat.reduceSub, Nat.reduceDiv, Nat.reduceMod, Nat.reduceLT, Nat.reduceLeDiff, Nat.reduceEqDiff, Nat.not_lt, Nat.not_le, q_lit, ↓q_m1, q_om, q_on, q_add, q_mul, q_sub, q_div, q_md, q_ltT, q_ltF, q_leT, q_leF, q_eqT, q_eqF, q_inT, q_inF, q_nn, q_mlt, q_ltm, q_mle, q_lem, q_nem, q_mne]
    exact g
  · rw [show min 6 m = 6 by omega] at r1
    have hmin : min 6 (m + 1) = 6 := by omega
    by_cases hm7 : m = 6
    · subst hm7
      rw [if_neg (fun h => by have := h.1; omega)] at r2
      by_cases h12 : R 0 12 = qm
      · have g := hgo (z_uI R1 0 12 (qi (i + 6))) M1 ⟨by rw [hmin]; exact r1, by rw [z_same, if_pos ⟨by omega, h12⟩], fun j j1 j3 => by rw [z_neK j3]; exact r3 j j1 j3, fun x hx => by rw [z_neP hx]; exact r4 x hx, r5, r6⟩
        rw [h12] at r2
        simp (disch := omega) only [b_ahead_204, f_ahead_243, f_ahead_263, f_ahead_293, e2, e1', hisd, r2, show true.toNat = 1 from rfl, ↓reduceIte, o_bind, and_true, true_and, and_false, false_and, or_true, true_or, or_false, false_or, not_true, not_false_eq_true, not_false_iff, ne_eq, Nat.reduceAdd, Nat.reduceMul, Nat.reduceSub, Nat.reduceDiv, Nat.reduceMod, Nat.reduceLT, Nat.reduceLeDiff, Nat.reduceEqDiff, Nat.not_lt, Nat.not_le, q_lit, ↓q_m1, q_om, q_on, q_add, q_mul, q_sub, q_div, q_md, q_ltT, q_ltF, q_leT, q_leF, q_eqT, q_eqF, q_inT, q_inF, q_nn, q_mlt, q_ltm, q_mle, q_lem, q_nem, q_mne]
        exact g
      · have g := hgo R1 M1 ⟨by rw [hmin]; exact r1, by rw [r2, if_neg (fun h => h12 h.2)], r3, r4, r5, r6⟩
        have h12' : ¬ R1 0 12 = qm := by rw [r2]; exact h12
        simp (disch := omega) only [b_ahead_204, f_ahead_243, f_ahead_263, f_ahead_293, e2, e1', hisd, h12', show true.toNat = 1 from rfl, ↓reduceIte, o_bind, and_true, true_and, and_false, false_and, or_true, true_or, or_false, false_or, not_true, not_false_eq_true, not_false_iff, ne_eq, Nat.reduceAdd, Nat.reduceMul, Nat.reduceSub, Nat.reduceDiv, Nat.reduceMod, Nat.reduceLT, Nat.reduceLeDiff, Nat.reduceEqDiff, Nat.not_lt, Nat.not_le, q_lit, ↓q_m1, q_om, q_on, q_add, q_mul, q_sub, q_div, q_md, q_ltT, q_ltF, q_leT, q_leF, q_eqT, q_eqF, q_inT, q_inF, q_nn, q_mlt, q_ltm, q_mle, q_lem, q_nem, q_mne]
        exact g
    · have g := hgo R1 M1 ⟨by rw [hmin]; exact r1, by
        rw [r2]
        by_cases h12 : R 0 12 = qm
        · rw [if_pos ⟨by omega, h12⟩, if_pos ⟨by omega, h12⟩]
        · rw [if_neg (fun h => h12 h.2), if_neg (fun h => h12 h.2)], r3, r4, r5, r6⟩
      simp (disch := omega) only [b_ahead_204, f_ahead_243, f_ahead_263, f_ahead_293, e2, e1', hisd, show true.toNat = 1 from rfl, ↓reduceIte, o_bind, and_true, true_and, and_false, false_and, or_true, true_or, or_false, false_or, not_true, not_false_eq_true, not_false_iff, ne_eq, Nat.reduceAdd, Nat.reduceMul, Nat.reduceSub, Nat.reduceDiv, Nat.reduceMod, Nat.reduceLT, Nat.reduceLeDiff, Nat.reduceEqDiff, Nat.not_lt, Nat.not_le, q_lit, ↓q_m1, q_om, q_on, q_add, q_mul, q_sub, q_div, q_md, q_ltT, q_ltF, q_leT, q_leF, q_eqT, q_eqF, q_inT, q_inF, q_nn, q_mlt, q_ltm, q_mle, q_lem, q_nem, q_mne]
      exact g
end
