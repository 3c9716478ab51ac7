section
variable {n : Nat} {K N : Nat → Nat} {G : zG} {V R : zI} {L M : zL} {u b f0 cnt acts x : Nat} {pl : Nat → Nat} {U : aU} {A : aS} {hi : Nat → aS} {q p : Nat} {h : Int} {H : Nat → Nat}
/-! sums of worth -/
def smW (U : aU) (A : aS) (H : Nat → Nat) (t : Nat) : Nat → Int
  | 0 => 0
  | y + 1 => smW U A H t y + (if t = y then 0 else wth U A (6 * t + y) (H (6 * t + y)))
theorem sm_same {H' : Nat → Nat} {t : Nat} : ∀ i, i ≤ 6 → (∀ y, y < 6 → H' (6 * t + y) = H (6 * t + y)) → smW U A H' t i = smW U A H t i := by
  intro i
  induction i with
  | zero => intro _ _; rfl
  | succ i ih =>
    intro hi' h
    simp only [smW]
    rw [ih (by omega) h, h i (by omega)]
theorem sm_up {t c v : Nat} (hc : c < 6) (htc : t ≠ c) : ∀ i, i ≤ 6 → smW U A (nu H (6 * t + c) v) t i = smW U A H t i + (if c < i then wth U A (6 * t + c) v - wth U A (6 * t + c) (H (6 * t + c)) else 0) := by
  intro i
  induction i with
  | zero => intro _; simp only [smW, Nat.not_lt_zero, ↓reduceIte]; rfl
  | succ i ih =>
    intro hi'
    simp only [smW]
    rw [ih (by omega)]
    by_cases e : c = i
    · subst e
      rw [if_neg htc, if_neg htc, if_neg (Nat.lt_irrefl c), if_pos (by omega), show nu H (6 * t + c) v (6 * t + c) = v from if_pos rfl]
      omega
    · rw [show nu H (6 * t + c) v (6 * t + i) = H (6 * t + i) from if_neg (by omega)]
      by_cases hlt : c < i
      · rw [if_pos hlt, if_pos (show c < i + 1 by omega)]
        omega
      · rw [if_neg hlt, if_neg (show ¬ c < i + 1 by omega)]
        omega
def trP (R : zI) (A : aS) (H : Nat → Nat) : Prop := R 20 1 = qi A.1 ∧ ∀ k, k < 36 → R 21 (36 + k) = qi (H k) ∧ R 22 (36 + k) = qi (A.2.2.1 k) ∧ R 23 (36 + k) = qi (A.2.2.2.1 k)
def fr9 (R R' : zI) (M M' : zL) : Prop := (∀ w, w ≠ 21 → w ≠ 29 → R' w = R w) ∧ (∀ k, (k < 36 ∨ 72 ≤ k) → R' 21 k = R 21 k) ∧ ∀ w, w ≠ 28 → M' w = M w
theorem fr9_rf : fr9 R R M M := ⟨fun _ _ _ => rfl, fun _ _ => rfl, fun _ _ => rfl⟩
theorem fr9_tr {R1 R2 : zI} {M1 M2 : zL} (h : fr9 R R1 M M1) (g : fr9 R1 R2 M1 M2) : fr9 R R2 M M2 := ⟨fun w a c => (g.1 w a c).trans (h.1 w a c), fun k a => (g.2.1 k a).trans (h.2.1 k a), fun w a => (g.2.2 w a).trans (h.2.2 w a)⟩
theorem fr9_UR {R1 : zI} {M1 : zL} (h : fr9 R R1 M M1) (hR : UR R M b U) : UR R1 M1 b U := UR_fr hR (by rw [h.1 0 (by omega) (by omega)]) (fun w w1 w2 w3 w4 => h.1 w (by omega) (by omega)) (h.2.2 12 (by omega))
theorem fr9_cR {R1 : zI} {M1 : zL} (h : fr9 R R1 M M1) : cR R R1 := cR_RFr ⟨fun w a c => h.1 w (by omega) (by omega), fun j _ _ => by rw [h.1 0 (by omega) (by omega)], fun k _ => by rw [h.1 20 (by omega) (by omega), h.1 24 (by omega) (by omega), h.1 26 (by omega) (by omega)]; exact ⟨rfl, rfl, rfl⟩, fun k hk => by rw [h.1 22 (by omega) (by omega), h.1 23 (by omega) (by omega), h.2.1 k (by omega)]; exact ⟨rfl, rfl, rfl⟩, fun k _ => by rw [h.1 25 (by omega) (by omega)], fun k _ => by rw [h.1 27 (by omega) (by omega)]⟩
set_option maxHeartbeats 8000000 in
theorem r_worthOf {t : Nat} (ht : t < 6) (hR : UR R M b U) (hT : trP R A H) (hU : UB U) (hA : SB U A) (hH : ∀ k, k < 36 → H k ≤ 100) : zW (f_worthOf (qi 1) (qi t) R M) (fun r => r.1 = qZ (smW U A H t U.1) ∧ (∀ w, w ≠ 29 → r.2.1 w = R w) ∧ ∀ w, w ≠ 28 → r.2.2 w = M w) := by
  have htw := UB_tw hU
  unfold f_worthOf
  refine zW_lp (I := fun r z => ∃ (i : Nat) (R1 : zI) (M1 : zL), i ≤ U.1 ∧ r = U.1 - i ∧ z = (qi 1, qi t, qZ (smW U A H t i), qi i, R1, M1) ∧ (∀ w, w ≠ 29 → R1 w = R w) ∧ ∀ w, w ≠ 28 → M1 w = M w) ?_ FU U.1 _ ⟨0, R, M, by omega, by omega, rfl, fun _ _ => rfl, fun _ _ => rfl⟩ (FU_big (by omega))
  rintro kk r z ⟨i, R1, M1, hi', rfl, rfl, hw, hm⟩ ih
  have hR1 : UR R1 M1 b U := UR_fr hR (by rw [hw 0 (by omega)]) (fun w w1 w2 w3 w4 => hw w (by omega)) (hm 12 (by omega))
  have hb : b < 2 := hR1.1.1
  have e13 : R1 0 13 = qi b := hR1.1.2.1
  have e2 : R1 2 b = qi U.1 := hR1.1.2.2.1
  by_cases hend : i = U.1
  · rw [hend]
    simp (disch := omega) only [b_worthOf_5, e13, e2, Nat.le_refl, ↓reduceIte, o_bind, and_true, true_and, and_false, false_and, or_true, true_or, or_false, false_or, not_true, not_false_eq_true, not_false_iff, ne_eq, Nat.reduceAdd, Nat.reduceMul, Nat.reduceSub, Nat.reduceDiv, Nat.reduceMod, Nat.reduceLT, Nat.reduceLeDiff, Nat.reduceEqDiff, Nat.not_lt, Nat.not_le, q_lit, q_leT, q_inT, q_nn]
    exact zW_some ⟨rfl, hw, hm⟩
  by_cases hti : t = i
  · subst hti
    have hgo := ih (U.1 - (t + 1)) (qi 1, qi t, qZ (smW U A H t (t + 1)), qi (t + 1), R1, M1) (by omega) ⟨t + 1, R1, M1, by omega, rfl, rfl, hw, hm⟩
    have es : smW U A H t (t + 1) = smW U A H t t := by
      simp only [smW, ↓reduceIte]
      omega
    rw [es] at hgo
    simp (disch := omega) only [b_worthOf_5, e13, e2, ↓reduceIte, o_bind, and_true, true_and, and_false, false_and, or_true, true_or, or_false, false_or, not_true, not_false_eq_true, not_false_iff, ne_eq, Nat.reduceAdd, Nat.reduceMul, Nat.reduceSub, Nat.reduceDiv, Nat.reduceMod, Nat.reduceLT, Nat.reduceLeDiff, Nat.reduceEqDiff, Nat.not_lt, Nat.not_le, q_lit, q_leF, q_inT, q_nn, q_add]
    exact hgo
  · have hk : 6 * t + i < 36 := by omega
    have hHb := hH _ hk
    obtain ⟨t1, t2⟩ := hT
    obtain ⟨t3, t4, t5⟩ := t2 _ hk
    have es : smW U A H t (i + 1) = smW U A H t i + rv U A 2 (6 * t + i) (H (6 * t + i)) * (H (6 * t + i) : Int) := by
      simp only [smW]
      rw [if_neg hti]
      rfl
    have hfin : ∀ (R2 : zI) (M2 : zL), (∀ w, w ≠ 29 → R2 w = R w) → (∀ w, w ≠ 28 → M2 w = M w) → zW (f_worthOf_54 kk (qi 1) (qi t) (qi i) (qZ (smW U A H t i)) (qZ (rv U A 2 (6 * t + i) (H (6 * t + i)))) R2 M2) (fun r => r.1 = qZ (smW U A H t U.1) ∧ (∀ w, w ≠ 29 → r.2.1 w = R w) ∧ ∀ w, w ≠ 28 → r.2.2 w = M w) := by
      intro R2 M2 w2 m2
      have hgo := ih (U.1 - (i + 1)) (qi 1, qi t, qZ (smW U A H t (i + 1)), qi (i + 1), R2, M2) (by omega) ⟨i + 1, R2, M2, by omega, rfl, rfl, w2, m2⟩
      have e21 : R2 21 (36 + 6 * t + i) = qi (H (6 * t + i)) := by
        rw [w2 21 (by omega), Nat.add_assoc]
        exact t3
      have e64 : (qi (H (6 * t + i))).toInt64 = qZ (H (6 * t + i)) := by
        rw [qi_z]
        exact qz_64 (by omega) (by omega)
      rw [es, ← qZ_add, ← qZ_mul, ← e64] at hgo
      simp (disch := omega) only [f_worthOf_54, f_at, e21, ↓reduceIte, o_bind, and_true, true_and, and_false, false_and, or_true, true_or, or_false, false_or, not_true, not_false_eq_true, not_false_iff, ne_eq, Nat.reduceAdd, Nat.reduceMul, Nat.reduceSub, Nat.reduceDiv, Nat.reduceMod, Nat.reduceLT, Nat.reduceLeDiff, Nat.reduceEqDiff, Nat.not_lt, Nat.not_le, Nat.add_zero, Nat.zero_add, Nat.mul_zero, Nat.zero_mul, q_lit, q_add, q_mul, q_inT, q_nn, Nat.mul_one]
      exact hgo
    simp (disch := omega) only [b_worthOf_5, e13, e2, ↓reduceIte, o_bind, and_true, true_and, and_false, false_and, or_true, true_or, or_false, false_or, not_true, not_false_eq_true, not_false_iff, ne_eq, Nat.reduceAdd, Nat.reduceMul, Nat.reduceSub, Nat.reduceDiv, Nat.reduceMod, Nat.reduceLT, Nat.reduceLeDiff, Nat.reduceEqDiff, Nat.not_lt, Nat.not_le, q_lit, q_leF, q_inT, q_nn, q_eqF]
    refine zW_call (r_tells (A := A) (v := 1) (x := t) (y := i) (h := H (6 * t + i)) hR1 hU (by omega) ht (by omega) (by omega) (by rw [hw 20 (by omega)]; exact t1) (by rw [hw 21 (by omega)]; exact t3) (by rw [hw 22 (by omega)]; exact t4) (by rw [hw 23 (by omega)]; exact t5)) ?_
    rintro ⟨R2, M2⟩ ⟨c1, c2, c3⟩
    dsimp only at c1 c2 c3 ⊢
    subst c1
    have hw2 : ∀ w, w ≠ 29 → R2 w = R w := fun w a => (c2 w a).trans (hw w a)
    have hR2 : UR R2 M2 b U := UR_fr hR (by rw [hw2 0 (by omega)]) (fun w w1 w2 w3 w4 => hw2 w (by omega)) (hm 12 (by omega))
    cases hl : U.2.2.2.2.2.1 2 with
    | none =>
      have hz : rv U A 2 (6 * t + i) (H (6 * t + i)) = 1 := by rw [rv_n hl]; rfl
      have hf := hfin R2 M2 hw2 hm
      rw [hz] at hf
      refine zW_is (r_told0 hR2 (r := 2) (by omega) hl) ?_
      exact zW_if1 rfl hf
    | some l =>
      refine zW_is (r_told1 hR2 (r := 2) (by omega) hl) ?_
      refine zW_if0 (show ¬ qi 1 = qi 0 from fun h => by have := (q_eq (a := 1) (b := 0) (by omega) (by omega)).mp h; omega) ?_
      refine zW_call (r_rule (A := A) (r := 2) (k := 6 * t + i) (h := (H (6 * t + i) : Int)) hR2 hU hA hk (by omega) (by omega) (by rw [hl]; exact Option.some_ne_none _) c3) ?_
      rintro ⟨y3, R3, M3⟩ ⟨d1, d2, d3⟩
      dsimp only at d1 d2 d3 ⊢
      subst d1 d2
      exact hfin R3 M3 hw2 (fun w a => (d3 w a).trans (hm w a))
end
