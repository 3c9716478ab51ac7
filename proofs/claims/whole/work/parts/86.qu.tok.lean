section
variable {V R : zI} {L M : zL} {t : Nat → Nat} {tl i j k : Nat}
/-! tokens: a tape of octets t, tl of them -/
def tpR (R : zI) (t : Nat → Nat) (tl : Nat) : Prop := tl ≤ 1600 ∧ R 0 2 = qi tl ∧ ∀ k, k < tl → R 1 k = qi (t k) ∧ t k < 256
abbrev isB (o : Nat) : Prop := o = 32 ∨ o = 10
def skF (t : Nat → Nat) : Nat → Nat → Nat
  | 0, i => i
  | f + 1, i => if isB (t i) then skF t f (i + 1) else i
/-- the first place from i on that is no blank -/
def skP (t : Nat → Nat) (tl i : Nat) : Nat := skF t (tl - i) i
theorem skP_b (hi : i < tl) (h : isB (t i)) : skP t tl i = skP t tl (i + 1) := by
  unfold skP
  rw [show tl - i = (tl - (i + 1)) + 1 by omega]
  show (if isB (t i) then skF t (tl - (i + 1)) (i + 1) else i) = _
  rw [if_pos h]
theorem skP_n (hi : i < tl) (h : ¬ isB (t i)) : skP t tl i = i := by
  unfold skP
  rw [show tl - i = (tl - (i + 1)) + 1 by omega]
  show (if isB (t i) then skF t (tl - (i + 1)) (i + 1) else i) = _
  rw [if_neg h]
theorem skP_e : skP t tl tl = tl := by
  unfold skP
  rw [Nat.sub_self]
  rfl
theorem r_skip {P : zI × zL → Prop} (hT : tpR R t tl) (hi : i ≤ tl) (hk : zW (f_ahead_41 (qi (skP t tl i)) R M) P) : zW (zfix b_ahead_5 FU (qi i, R, M)) P := by
  obtain ⟨h1, h2, h3⟩ := hT
  refine zW_lp (I := fun r z => ∃ j : Nat, j ≤ tl ∧ r = tl - j ∧ z = (qi j, R, M) ∧ skP t tl j = skP t tl i) ?_ FU (tl - i) _ ⟨i, hi, rfl, rfl, rfl⟩ (FU_big (by omega))
  rintro kk r z ⟨j, hj, rfl, rfl, hs⟩ ih
  by_cases hend : j = tl
  · subst hend
    rw [skP_e] at hs
    rw [← hs] at hk
    simp (disch := omega) only [b_ahead_5, h2, Nat.le_refl, ↓reduceIte, o_bind, and_true, true_and, and_false, false_and, or_true, true_or, or_false, false_or, not_true, not_false_eq_true, not_false_iff, ne_eq, Nat.reduceAdd, Nat.reduceMul, Nat.reduceSub, Nat.reduceDiv, Nat.reduceMod, Nat.reduceLT, Nat.reduceLeDiff, Nat.reduceEqDiff, Nat.not_lt, Nat.not_le, q_leT]
    exact hk
  · obtain ⟨e1, e2⟩ := h3 j (by omega)
    by_cases b1 : t j = 32
    · have hs' : skP t tl (j + 1) = skP t tl i := by rw [← skP_b (by omega) (Or.inl b1)]; exact hs
      have g := ih (tl - (j + 1)) (qi (j + 1), R, M) (by omega) ⟨j + 1, by omega, rfl, rfl, hs'⟩
      simp (disch := omega) only [b_ahead_5, h2, e1, b1, ↓reduceIte, o_bind, and_true, true_and, and_false, false_and, or_true, true_or, or_false, false_or, not_true, not_false_eq_true, not_false_iff, ne_eq, Nat.reduceAdd, Nat.reduceMul, Nat.reduceSub, Nat.reduceDiv, Nat.reduceMod, Nat.reduceLT, Nat.reduceLeDiff, Nat.reduceEqDiff, Nat.not_lt, Nat.not_le, q_lit, ↓q_m1, q_om, q_on, q_add, q_mul, q_sub, q_div, q_md, q_ltT, q_ltF, q_leT, q_leF, q_eqT, q_eqF, q_inT, q_inF, q_nn, q_mlt, q_ltm, q_mle, q_lem, q_nem, q_mne]
      exact g
    · by_cases b2 : t j = 10
      · have hs' : skP t tl (j + 1) = skP t tl i := by rw [← skP_b (by omega) (Or.inr b2)]; exact hs
        have g := ih (tl - (j + 1)) (qi (j + 1), R, M) (by omega) ⟨j + 1, by omega, rfl, rfl, hs'⟩
        simp (disch := omega) only [b_ahead_5, h2, e1, b2, ↓reduceIte, o_bind, and_true, true_and, and_false, false_and, or_true, true_or, or_false, false_or, not_true, not_false_eq_true, not_false_iff, ne_eq, Nat.reduceAdd, Nat.reduceMul, Nat.reduceSub, Nat.reduceDiv, Nat.reduceMod, Nat.reduceLT, Nat.reduceLeDiff, Nat.reduceEqDiff, Nat.not_lt, Nat.not_le, q_lit, ↓q_m1, q_om, q_on, q_add, q_mul, q_sub, q_div, q_md, q_ltT, q_ltF, q_leT, q_leF, q_eqT, q_eqF, q_inT, q_inF, q_nn, q_mlt, q_ltm, q_mle, q_lem, q_nem, q_mne]
        exact g
      · have hn : ¬ isB (t j) := fun h => by
          rcases h with h | h
          · exact b1 h
          · exact b2 h
        rw [skP_n (by omega) hn] at hs
        rw [← hs] at hk
        simp (disch := omega) only [b_ahead_5, h2, e1, ↓reduceIte, o_bind, and_true, true_and, and_false, false_and, or_true, true_or, or_false, false_or, not_true, not_false_eq_true, not_false_iff, ne_eq, Nat.reduceAdd, Nat.reduceMul, Nat.reduceSub, Nat.reduceDiv, Nat.reduceMod, Nat.reduceLT, Nat.reduceLeDiff, Nat.reduceEqDiff, Nat.not_lt, Nat.not_le, q_lit, ↓q_m1, q_om, q_on, q_add, q_mul, q_sub, q_div, q_md, q_ltT, q_ltF, q_leT, q_leF, q_eqT, q_eqF, q_inT, q_inF, q_nn, q_mlt, q_ltm, q_mle, q_lem, q_nem, q_mne]
        exact hk
/-- a run of signs of one kind -/
abbrev isL (o : Nat) : Prop := 97 ≤ o ∧ o ≤ 122
abbrev isD (o : Nat) : Prop := 48 ≤ o ∧ o ≤ 57
theorem r_isL {o : Nat} (ho : o < 256) : f_isLetter (qi o) = some (qi (decide (isL o)).toNat) := by
  unfold f_isLetter
  by_cases h1 : 97 ≤ o
  · by_cases h2 : o ≤ 122
    · rw [decide_eq_true (show isL o from ⟨h1, h2⟩)]
      rw [if_neg (fun h => by have := (q_lt (a := o) (b := 97) (by omega) (by omega)).mp h; omega), if_neg (fun h => by have := (q_lt (a := 122) (b := o) (by omega) (by omega)).mp h; omega)]
      rfl
    · rw [decide_eq_false (show ¬ isL o from fun h => h2 h.2)]
      rw [if_neg (fun h => by have := (q_lt (a := o) (b := 97) (by omega) (by omega)).mp h; omega), if_pos (show (122 : Int32) < qi o from (q_lt (a := 122) (b := o) (by omega) (by omega)).mpr (by omega))]
      rfl
  · rw [decide_eq_false (show ¬ isL o from fun h => h1 h.1)]
    rw [if_pos (show qi o < (97 : Int32) from (q_lt (a := o) (b := 97) (by omega) (by omega)).mpr (by omega))]
    rfl
theorem r_isD {o : Nat} (ho : o < 256) : f_isDigit (qi o) = some (qi (decide (isD o)).toNat) := by
  unfold f_isDigit
  by_cases h1 : 48 ≤ o
  · by_cases h2 : o ≤ 57
    · rw [decide_eq_true (show isD o from ⟨h1, h2⟩)]
      rw [if_neg (fun h => by have := (q_lt (a := o) (b := 48) (by omega) (by omega)).mp h; omega), if_neg (fun h => by have := (q_lt (a := 57) (b := o) (by omega) (by omega)).mp h; omega)]
      rfl
    · rw [decide_eq_false (show ¬ isD o from fun h => h2 h.2)]
      rw [if_neg (fun h => by have := (q_lt (a := o) (b := 48) (by omega) (by omega)).mp h; omega), if_pos (show (57 : Int32) < qi o from (q_lt (a := 57) (b := o) (by omega) (by omega)).mpr (by omega))]
      rfl
  · rw [decide_eq_false (show ¬ isD o from fun h => h1 h.1)]
    rw [if_pos (show qi o < (48 : Int32) from (q_lt (a := o) (b := 48) (by omega) (by omega)).mpr (by omega))]
    rfl
end
