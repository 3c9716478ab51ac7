section
variable {n : Nat} {K N : Nat → Nat} {G : zG} {V R : zI} {L M : zL} {o c t q : Nat} {s : Nat → Nat}
/-! walks -/
def wk (o c : Nat) : Nat → Nat → Prop
  | 0, v => v = c
  | k + 1, v => ∃ w, w < 6 ∧ o.testBit (6 * v + w) = true ∧ wk o c k w
def nrP (o v : Nat) (s : Nat → Nat) (m : Nat) : Prop := m ≤ 99 ∧ (∀ w, w < 6 → o.testBit (6 * v + w) = true → m ≤ s w) ∧ (m < 99 → ∃ w, w < 6 ∧ o.testBit (6 * v + w) = true ∧ s w = m)
def stP (o c j i : Nat) (s : Nat → Nat) : Prop := ∀ v, v < 6 → s v ≤ 99 ∧ (s v < 99 → wk o c (s v) v) ∧ ∀ k, (k ≤ j ∨ (v < i ∧ k = j + 1)) → wk o c k v → s v ≤ k
theorem stP_0 : stP o c 0 0 (fun v => if v = c then 0 else 99) := by
  intro v hv
  dsimp only
  by_cases h : v = c
  · rw [if_pos h]
    exact ⟨by omega, fun _ => h, fun k _ _ => Nat.zero_le _⟩
  · rw [if_neg h]
    refine ⟨by omega, fun h => absurd h (by omega), fun k hk hw => ?_⟩
    obtain rfl : k = 0 := by omega
    exact absurd hw h
theorem stP_nx {j : Nat} (h : stP o c j 6 s) : stP o c (j + 1) 0 s := fun v hv => ⟨(h v hv).1, (h v hv).2.1, fun k hk hw => (h v hv).2.2 k (by omega) hw⟩
theorem stP_st {j i m : Nat} (h : stP o c j i s) (hi : i < 6) (hm : nrP o i s m) : stP o c j (i + 1) (nu s i (if 1 + m < s i then 1 + m else s i)) := by
  intro v hv
  obtain ⟨m1, m2, m3⟩ := hm
  by_cases hvi : v = i
  · subst hvi
    obtain ⟨h1, h2, h3⟩ := h v hv
    have e : nu s v (if 1 + m < s v then 1 + m else s v) v = (if 1 + m < s v then 1 + m else s v) := if_pos rfl
    rw [e]
    refine ⟨by split <;> omega, fun hlt => ?_, fun k hk hw => ?_⟩
    · by_cases hc : 1 + m < s v
      · rw [if_pos hc]
        obtain ⟨w, w1, w2, w3⟩ := m3 (by omega)
        rw [Nat.add_comm 1 m]
        refine ⟨w, w1, w2, ?_⟩
        have := (h w w1).2.1 (by omega)
        rw [w3] at this
        exact this
      · rw [if_neg hc] at hlt ⊢
        exact h2 hlt
    · match k, hk, hw with
      | 0, _, hw =>
        have := h3 0 (by omega) hw
        split <;> omega
      | k + 1, hk, hw =>
        obtain ⟨w, w1, w2, w3⟩ := hw
        have a1 := m2 w w1 w2
        have a2 := (h w w1).2.2 k (by omega) w3
        split <;> omega
  · have e : nu s i (if 1 + m < s i then 1 + m else s i) v = s v := if_neg hvi
    rw [e]
    obtain ⟨h1, h2, h3⟩ := h v hv
    exact ⟨h1, h2, fun k hk hw => h3 k (by omega) hw⟩
def spC (V : zI) (q : Nat) (s : Nat → Nat) : Prop := ∀ w, w < 6 → V q w = qi (s w) ∧ s w ≤ 99
set_option maxHeartbeats 4000000 in
theorem cs_near (hN : N q = 6) (hV : spC V q s) (ho : o < 68719476736) (ht : t < 6) : zW (f_X6_nearest N G q (qI o) (qi t) V L) (fun r => ∃ m, r = qi m ∧ nrP o t s m) := by
  unfold f_X6_nearest g_X6_nearest
  refine zW_lp (I := fun r z => ∃ i m : Nat, i ≤ 6 ∧ r = 6 - i ∧ z = (qI o, qi t, qi m, qi i) ∧ m ≤ 99 ∧ (∀ w, w < i → o.testBit (6 * t + w) = true → m ≤ s w) ∧ (m < 99 → ∃ w, w < 6 ∧ o.testBit (6 * t + w) = true ∧ s w = m)) ?_ FU 6 _ ⟨0, 99, by omega, by omega, rfl, Nat.le_refl _, fun w hw => absurd hw (by omega), fun h => absurd h (by omega)⟩ (FU_big (by omega))
  rintro kk r z ⟨i, m, hi, rfl, rfl, h1, h2, h3⟩ ih
  by_cases hend : i = 6
  · subst hend
    simp (disch := omega) only [b_X6_nearest_7, hN, ↓reduceIte, o_bind, and_true, true_and, and_false, false_and, or_true, true_or, or_false, false_or, not_true, not_false_eq_true, not_false_iff, ne_eq, Nat.reduceAdd, Nat.reduceMul, Nat.reduceSub, Nat.reduceDiv, Nat.reduceMod, Nat.reduceLT, Nat.reduceLeDiff, Nat.reduceEqDiff, Nat.not_lt, Nat.not_le, q_lit, ↓q_m1, q_om, q_on, q_add, q_mul, q_sub, q_div, q_md, q_ltT, q_ltF, q_leT, q_leF, q_eqT, q_eqF, q_inT, q_inF, q_nn, q_mlt, q_ltm, q_mle, q_lem, q_nem, q_mne]
    exact zW_some ⟨m, rfl, h1, h2, h3⟩
  · have hrb := rowN_b o t
    have hq := q_tbt hrb (a := i) (by omega)
    have htb := rowN_tb o t i
    rw [decide_eq_true (show i < 6 by omega), Bool.true_and] at htb
    obtain ⟨v1, v2⟩ := hV i (by omega)
    cases hbt : (rowN o t).testBit i with
    | false =>
      have hq' := hq.mpr hbt
      have hgo := ih (6 - (i + 1)) (qI o, qi t, qi m, qi (i + 1)) (by omega) ⟨i + 1, m, by omega, rfl, rfl, h1, fun w hw hb => by
        by_cases e : w = i
        · subst e; rw [← htb, hbt] at hb; cases hb
        · exact h2 w (by omega) hb, h3⟩
      simp (disch := omega) only [b_X6_nearest_7, hN, cs_from ho, hq', ↓reduceIte, o_bind, and_true, true_and, and_false, false_and, or_true, true_or, or_false, false_or, not_true, not_false_eq_true, not_false_iff, ne_eq, Nat.reduceAdd, Nat.reduceMul, Nat.reduceSub, Nat.reduceDiv, Nat.reduceMod, Nat.reduceLT, Nat.reduceLeDiff, Nat.reduceEqDiff, Nat.not_lt, Nat.not_le, q_lit, ↓q_m1, q_om, q_on, q_add, q_mul, q_sub, q_div, q_md, q_ltT, q_ltF, q_leT, q_leF, q_eqT, q_eqF, q_inT, q_inF, q_nn, q_mlt, q_ltm, q_mle, q_lem, q_nem, q_mne]
      exact hgo
    | true =>
      have hq' : ¬ ((qi (rowN o t) >>> (qi i &&& qi 31)) &&& qi 1 = qi 0) := fun h => by rw [hq.mp h] at hbt; cases hbt
      have hb1 : o.testBit (6 * t + i) = true := by rw [← htb]; exact hbt
      by_cases hlt : s i < m
      · have hgo := ih (6 - (i + 1)) (qI o, qi t, qi (s i), qi (i + 1)) (by omega) ⟨i + 1, s i, by omega, rfl, rfl, v2, fun w hw hb => by
          by_cases e : w = i
          · subst e; exact Nat.le_refl _
          · have := h2 w (by omega) hb; omega, fun _ => ⟨i, by omega, hb1, rfl⟩⟩
        simp (disch := omega) only [b_X6_nearest_7, hN, cs_from ho, hq', v1, ↓reduceIte, o_bind, and_true, true_and, and_false, false_and, or_true, true_or, or_false, false_or, not_true, not_false_eq_true, not_false_iff, ne_eq, Nat.reduceAdd, Nat.reduceMul, Nat.reduceSub, Nat.reduceDiv, Nat.reduceMod, Nat.reduceLT, Nat.reduceLeDiff, Nat.reduceEqDiff, Nat.not_lt, Nat.not_le, q_lit, ↓q_m1, q_om, q_on, q_add, q_mul, q_sub, q_div, q_md, q_ltT, q_ltF, q_leT, q_leF, q_eqT, q_eqF, q_inT, q_inF, q_nn, q_mlt, q_ltm, q_mle, q_lem, q_nem, q_mne]
        exact hgo
      · have hgo := ih (6 - (i + 1)) (qI o, qi t, qi m, qi (i + 1)) (by omega) ⟨i + 1, m, by omega, rfl, rfl, h1, fun w hw hb => by
          by_cases e : w = i
          · subst e; omega
          · exact h2 w (by omega) hb, h3⟩
        simp (disch := omega) only [b_X6_nearest_7, hN, cs_from ho, hq', v1, ↓reduceIte, o_bind, and_true, true_and, and_false, false_and, or_true, true_or, or_false, false_or, not_true, not_false_eq_true, not_false_iff, ne_eq, Nat.reduceAdd, Nat.reduceMul, Nat.reduceSub, Nat.reduceDiv, Nat.reduceMod, Nat.reduceLT, Nat.reduceLeDiff, Nat.reduceEqDiff, Nat.not_lt, Nat.not_le, q_lit, ↓q_m1, q_om, q_on, q_add, q_mul, q_sub, q_div, q_md, q_ltT, q_ltF, q_leT, q_leF, q_eqT, q_eqF, q_inT, q_inF, q_nn, q_mlt, q_ltm, q_mle, q_lem, q_nem, q_mne]
        exact hgo
set_option maxHeartbeats 4000000 in
theorem cs_fstW {d : Nat} (hN : N q = 6) (hV : spC V q s) (ho : o < 68719476736) (ht : t < 6) (hd : d ≤ 99) : zW (f_X6_firstWith N G q (qI o) (qi t) (qi d) V L) (fun r => (r = qm ∧ ∀ w, w < 6 → o.testBit (6 * t + w) = true → s w ≠ d) ∨ ∃ w, r = qi w ∧ w < 6 ∧ o.testBit (6 * t + w) = true ∧ s w = d ∧ ∀ w', w' < w → o.testBit (6 * t + w') = true → s w' ≠ d) := by
  unfold f_X6_firstWith g_X6_firstWith
  refine zW_lp (I := fun r z => ∃ i : Nat, i ≤ 6 ∧ r = 6 - i ∧ z = (qI o, qi t, qi d, qi i) ∧ (∀ w, w < i → o.testBit (6 * t + w) = true → s w ≠ d)) ?_ FU 6 _ ⟨0, by omega, by omega, rfl, fun w hw => absurd hw (by omega)⟩ (FU_big (by omega))
  rintro kk r z ⟨i, hi, rfl, rfl, h2⟩ ih
  by_cases hend : i = 6
  · subst hend
    simp (disch := omega) only [b_X6_firstWith_3, hN, ↓reduceIte, o_bind, and_true, true_and, and_false, false_and, or_true, true_or, or_false, false_or, not_true, not_false_eq_true, not_false_iff, ne_eq, Nat.reduceAdd, Nat.reduceMul, Nat.reduceSub, Nat.reduceDiv, Nat.reduceMod, Nat.reduceLT, Nat.reduceLeDiff, Nat.reduceEqDiff, Nat.not_lt, Nat.not_le, q_lit, ↓q_m1, q_om, q_on, q_add, q_mul, q_sub, q_div, q_md, q_ltT, q_ltF, q_leT, q_leF, q_eqT, q_eqF, q_inT, q_inF, q_nn, q_mlt, q_ltm, q_mle, q_lem, q_nem, q_mne]
    exact zW_some (Or.inl ⟨rfl, h2⟩)
  · have hrb := rowN_b o t
    have hq := q_tbt hrb (a := i) (by omega)
    have htb := rowN_tb o t i
    rw [decide_eq_true (show i < 6 by omega), Bool.true_and] at htb
    obtain ⟨v1, v2⟩ := hV i (by omega)
    cases hbt : (rowN o t).testBit i with
    | false =>
      have hq' := hq.mpr hbt
      have hgo := ih (6 - (i + 1)) (qI o, qi t, qi d, qi (i + 1)) (by omega) ⟨i + 1, by omega, rfl, rfl, fun w hw hb => by
        by_cases e : w = i
        · subst e; rw [← htb, hbt] at hb; cases hb
        · exact h2 w (by omega) hb⟩
      simp (disch := omega) only [b_X6_firstWith_3, hN, cs_from ho, hq', ↓reduceIte, o_bind, and_true, true_and, and_false, false_and, or_true, true_or, or_false, false_or, not_true, not_false_eq_true, not_false_iff, ne_eq, Nat.reduceAdd, Nat.reduceMul, Nat.reduceSub, Nat.reduceDiv, Nat.reduceMod, Nat.reduceLT, Nat.reduceLeDiff, Nat.reduceEqDiff, Nat.not_lt, Nat.not_le, q_lit, ↓q_m1, q_om, q_on, q_add, q_mul, q_sub, q_div, q_md, q_ltT, q_ltF, q_leT, q_leF, q_eqT, q_eqF, q_inT, q_inF, q_nn, q_mlt, q_ltm, q_mle, q_lem, q_nem, q_mne]
      exact hgo
    | true =>
      have hq' : ¬ ((qi (rowN o t) >>> (qi i &&& qi 31)) &&& qi 1 = qi 0) := fun h => by rw [hq.mp h] at hbt; cases hbt
      have hb1 : o.testBit (6 * t + i) = true := by rw [← htb]; exact hbt
      by_cases hlt : s i = d
      · simp (disch := omega) only [b_X6_firstWith_3, hN, cs_from ho, hq', v1, hlt, ↓reduceIte, o_bind, and_true, true_and, and_false, false_and, or_true, true_or, or_false, false_or, not_true, not_false_eq_true, not_false_iff, ne_eq, Nat.reduceAdd, Nat.reduceMul, Nat.reduceSub, Nat.reduceDiv, Nat.reduceMod, Nat.reduceLT, Nat.reduceLeDiff, Nat.reduceEqDiff, Nat.not_lt, Nat.not_le, q_lit, ↓q_m1, q_om, q_on, q_add, q_mul, q_sub, q_div, q_md, q_ltT, q_ltF, q_leT, q_leF, q_eqT, q_eqF, q_inT, q_inF, q_nn, q_mlt, q_ltm, q_mle, q_lem, q_nem, q_mne]
        exact zW_some (Or.inr ⟨i, rfl, by omega, hb1, hlt, h2⟩)
      · have hgo := ih (6 - (i + 1)) (qI o, qi t, qi d, qi (i + 1)) (by omega) ⟨i + 1, by omega, rfl, rfl, fun w hw hb => by
          by_cases e : w = i
          · subst e; exact hlt
          · exact h2 w (by omega) hb⟩
        simp (disch := omega) only [b_X6_firstWith_3, hN, cs_from ho, hq', v1, ↓reduceIte, o_bind, and_true, true_and, and_false, false_and, or_true, true_or, or_false, false_or, not_true, not_false_eq_true, not_false_iff, ne_eq, Nat.reduceAdd, Nat.reduceMul, Nat.reduceSub, Nat.reduceDiv, Nat.reduceMod, Nat.reduceLT, Nat.reduceLeDiff, Nat.reduceEqDiff, Nat.not_lt, Nat.not_le, q_lit, ↓q_m1, q_om, q_on, q_add, q_mul, q_sub, q_div, q_md, q_ltT, q_ltF, q_leT, q_leF, q_eqT, q_eqF, q_inT, q_inF, q_nn, q_mlt, q_ltm, q_mle, q_lem, q_nem, q_mne]
        exact hgo
theorem spC_st {i v : Nat} (h : spC V q s) (hv : v ≤ 99) : spC (z_uI V q i (qi v)) q (nu s i v) := by
  intro w hw
  unfold nu
  by_cases e : w = i
  · subst e
    rw [if_pos rfl, z_same]
    exact ⟨rfl, hv⟩
  · rw [if_neg e, z_neK e]
    exact h w hw
theorem stP_b {j i : Nat} (h : stP o c j i s) : ∀ w, w < 6 → s w ≤ 99 := fun w hw => (h w hw).1
set_option maxHeartbeats 8000000 in
theorem cs_steps (ho : o < 68719476736) (hc : c < 6) : zW (f_X6_stepsTo (qI o) (qi c) n K N G V L) (fun r => r.1 = n ∧ (∃ s, spC r.2.2.2.2.2.2.2.1 n s ∧ stP o c 5 0 s) ∧ r.2.1 = n + 1 ∧ r.2.2.1 = 1 ∧ r.2.2.2.1 = 6 ∧ r.2.2.2.2.1 = kU K n 100 ∧ r.2.2.2.2.2.1 = kU N n 6 ∧ r.2.2.2.2.2.2.1 = kU G n zn0 ∧ ∀ w, w < n → r.2.2.2.2.2.2.2.1 w = V w) := by
  have t6 : (6 : Int32).toNatClampNeg = 6 := rfl
  have hok : (¬ (6 : Int32) < 0 ∧ (6 : Int32).toNatClampNeg ≤ 100000) := by decide
  unfold f_X6_stepsTo g_X6_stepsTo f_X6_stepsTo_4
  rw [if_pos hok, t6]
  have hN : kU N n 6 n = 6 := kU_same
  refine zW_lp (I := fun r z => ∃ (i : Nat) (V1 : zI) (L1 : zL), i ≤ 6 ∧ r = 6 - i ∧ z = (n, qI o, qi c, qi i, n + 1, 0 + 1, 0 + 6, kU K n 100, kU N n 6, kU G n zn0, V1, L1) ∧ (∀ w, w < i → V1 n w = qi (if w = c then 0 else 99)) ∧ ∀ w, w < n → V1 w = V w) ?_ FU 6 _ ⟨0, _, _, by omega, by omega, rfl, fun w hw => absurd hw (by omega), fun w hw => kU_ne (by omega)⟩ (FU_big (by omega))
  rintro kk r z ⟨i, V1, L1, hi, rfl, rfl, h1, hw⟩ ih
  by_cases hend : i = 6
  · subst hend
    have hsp : spC V1 n (fun v => if v = c then 0 else 99) := fun w hw' => ⟨h1 w hw', by dsimp only; split <;> omega⟩
    simp (disch := omega) only [b_X6_stepsTo_8, ↓reduceIte, o_bind, and_true, true_and, and_false, false_and, or_true, true_or, or_false, false_or, not_true, not_false_eq_true, not_false_iff, ne_eq, Nat.reduceAdd, Nat.reduceMul, Nat.reduceSub, Nat.reduceDiv, Nat.reduceMod, Nat.reduceLT, Nat.reduceLeDiff, Nat.reduceEqDiff, Nat.not_lt, Nat.not_le, q_lit, ↓q_m1, q_om, q_on, q_add, q_mul, q_sub, q_div, q_md, q_ltT, q_ltF, q_leT, q_leF, q_eqT, q_eqF, q_inT, q_inF, q_nn, q_mlt, q_ltm, q_mle, q_lem, q_nem, q_mne]
    refine zW_lp (I := fun r z => ∃ (j : Nat) (V2 : zI) (s : Nat → Nat), j ≤ 5 ∧ r = 5 - j ∧ z = (n, qI o, qi (j + 1), n + 1, 0 + 1, 0 + 6, kU K n 100, kU N n 6, kU G n zn0, V2, L1) ∧ spC V2 n s ∧ stP o c j 0 s ∧ ∀ w, w < n → V2 w = V w) ?_ FU 5 _ ⟨0, V1, _, by omega, by omega, rfl, hsp, stP_0, hw⟩ (FU_big (by omega))
    rintro k2 r z ⟨j, V2, s, hj, rfl, rfl, h2, h3, hw2⟩ ih2
    by_cases hend2 : j = 5
    · subst hend2
      simp (disch := omega) only [b_X6_stepsTo_40, ↓reduceIte, o_bind, and_true, true_and, and_false, false_and, or_true, true_or, or_false, false_or, not_true, not_false_eq_true, not_false_iff, ne_eq, Nat.reduceAdd, Nat.reduceMul, Nat.reduceSub, Nat.reduceDiv, Nat.reduceMod, Nat.reduceLT, Nat.reduceLeDiff, Nat.reduceEqDiff, Nat.not_lt, Nat.not_le, q_lit, ↓q_m1, q_om, q_on, q_add, q_mul, q_sub, q_div, q_md, q_ltT, q_ltF, q_leT, q_leF, q_eqT, q_eqF, q_inT, q_inF, q_nn, q_mlt, q_ltm, q_mle, q_lem, q_nem, q_mne]
      exact zW_some ⟨rfl, ⟨s, h2, h3⟩, rfl, rfl, rfl, rfl, rfl, rfl, hw2⟩
    · simp (disch := omega) only [b_X6_stepsTo_40, ↓reduceIte, o_bind, and_true, true_and, and_false, false_and, or_true, true_or, or_false, false_or, not_true, not_false_eq_true, not_false_iff, ne_eq, Nat.reduceAdd, Nat.reduceMul, Nat.reduceSub, Nat.reduceDiv, Nat.reduceMod, Nat.reduceLT, Nat.reduceLeDiff, Nat.reduceEqDiff, Nat.not_lt, Nat.not_le, q_lit, q_leF]
      refine zW_lp (I := fun r z => ∃ (i : Nat) (V3 : zI) (s : Nat → Nat), i ≤ 6 ∧ r = 6 - i ∧ z = (n, qI o, qi (j + 1), qi i, n + 1, 0 + 1, 0 + 6, kU K n 100, kU N n 6, kU G n zn0, V3, L1) ∧ spC V3 n s ∧ stP o c j i s ∧ ∀ w, w < n → V3 w = V w) ?_ FU 6 _ ⟨0, V2, s, by omega, by omega, rfl, h2, h3, hw2⟩ (FU_big (by omega))
      rintro k3 r z ⟨i, V3, s3, hi3, rfl, rfl, h4, h5, hw3⟩ ih3
      by_cases hend3 : i = 6
      · subst hend3
        have hgo := ih2 (5 - (j + 1)) (n, qI o, qi (j + 1 + 1), n + 1, 0 + 1, 0 + 6, kU K n 100, kU N n 6, kU G n zn0, V3, L1) (by omega) ⟨j + 1, V3, s3, by omega, rfl, rfl, h4, stP_nx h5, hw3⟩
        simp (disch := omega) only [b_X6_stepsTo_50, ↓reduceIte, o_bind, and_true, true_and, and_false, false_and, or_true, true_or, or_false, false_or, not_true, not_false_eq_true, not_false_iff, ne_eq, Nat.reduceAdd, Nat.reduceMul, Nat.reduceSub, Nat.reduceDiv, Nat.reduceMod, Nat.reduceLT, Nat.reduceLeDiff, Nat.reduceEqDiff, Nat.not_lt, Nat.not_le, q_lit, q_leT, q_add]
        exact hgo
      · have hb := stP_b h5 i (by omega)
        have hv := (h4 i (by omega)).1
        simp (disch := omega) only [b_X6_stepsTo_50, hN, ↓reduceIte, o_bind, and_true, true_and, and_false, false_and, or_true, true_or, or_false, false_or, not_true, not_false_eq_true, not_false_iff, ne_eq, Nat.reduceAdd, Nat.reduceMul, Nat.reduceSub, Nat.reduceDiv, Nat.reduceMod, Nat.reduceLT, Nat.reduceLeDiff, Nat.reduceEqDiff, Nat.not_lt, Nat.not_le, q_lit, q_leF, q_inT]
        refine zW_call (cs_near (N := kU N n 6) (G := kU G n zn0) (L := L1) hN h4 ho (t := i) (by omega)) ?_
        rintro y ⟨m, rfl, hm⟩
        have hmb := hm.1
        have hgo := ih3 (6 - (i + 1)) (n, qI o, qi (j + 1), qi (i + 1), n + 1, 0 + 1, 0 + 6, kU K n 100, kU N n 6, kU G n zn0, z_uI V3 n i (qi (if 1 + m < s3 i then 1 + m else s3 i)), L1) (by omega) ⟨i + 1, _, _, by omega, rfl, rfl, spC_st h4 (by split <;> omega), stP_st h5 (by omega) hm, fun w hw' => by rw [z_neP (by omega)]; exact hw3 w hw'⟩
        by_cases hlt : 1 + m < s3 i
        · rw [if_pos hlt] at hgo
          simp (disch := omega) only [hv, ↓reduceIte, o_bind, and_true, true_and, and_false, false_and, or_true, true_or, or_false, false_or, not_true, not_false_eq_true, not_false_iff, ne_eq, Nat.reduceAdd, Nat.reduceMul, Nat.reduceSub, Nat.reduceDiv, Nat.reduceMod, Nat.reduceLT, Nat.reduceLeDiff, Nat.reduceEqDiff, Nat.not_lt, Nat.not_le, q_lit, q_nn, q_add, q_ltT]
          exact hgo
        · rw [if_neg hlt] at hgo
          simp (disch := omega) only [hv, ↓reduceIte, o_bind, and_true, true_and, and_false, false_and, or_true, true_or, or_false, false_or, not_true, not_false_eq_true, not_false_iff, ne_eq, Nat.reduceAdd, Nat.reduceMul, Nat.reduceSub, Nat.reduceDiv, Nat.reduceMod, Nat.reduceLT, Nat.reduceLeDiff, Nat.reduceEqDiff, Nat.not_lt, Nat.not_le, q_lit, q_nn, q_add, q_ltF]
          exact hgo
  · by_cases hic : i = c
    · subst hic
      have hgo := ih (6 - (i + 1)) (n, qI o, qi i, qi (i + 1), n + 1, 0 + 1, 0 + 6, kU K n 100, kU N n 6, kU G n zn0, z_uI V1 n i (qi 0), L1) (by omega) ⟨i + 1, _, L1, by omega, rfl, rfl, fun w hw' => by
        by_cases e : w = i
        · rw [e, z_same, if_pos rfl]
        · rw [z_neK e]; exact h1 w (by omega), fun w hw' => by rw [z_neP (by omega)]; exact hw w hw'⟩
      simp (disch := omega) only [b_X6_stepsTo_8, hN, ↓reduceIte, o_bind, and_true, true_and, and_false, false_and, or_true, true_or, or_false, false_or, not_true, not_false_eq_true, not_false_iff, ne_eq, Nat.reduceAdd, Nat.reduceMul, Nat.reduceSub, Nat.reduceDiv, Nat.reduceMod, Nat.reduceLT, Nat.reduceLeDiff, Nat.reduceEqDiff, Nat.not_lt, Nat.not_le, q_lit, q_leF, q_inT, q_nn, q_add]
      exact hgo
    · have hgo := ih (6 - (i + 1)) (n, qI o, qi c, qi (i + 1), n + 1, 0 + 1, 0 + 6, kU K n 100, kU N n 6, kU G n zn0, z_uI V1 n i (qi 99), L1) (by omega) ⟨i + 1, _, L1, by omega, rfl, rfl, fun w hw' => by
        by_cases e : w = i
        · rw [e, z_same, if_neg hic]
        · rw [z_neK e]; exact h1 w (by omega), fun w hw' => by rw [z_neP (by omega)]; exact hw w hw'⟩
      simp (disch := omega) only [b_X6_stepsTo_8, hN, ↓reduceIte, o_bind, and_true, true_and, and_false, false_and, or_true, true_or, or_false, false_or, not_true, not_false_eq_true, not_false_iff, ne_eq, Nat.reduceAdd, Nat.reduceMul, Nat.reduceSub, Nat.reduceDiv, Nat.reduceMod, Nat.reduceLT, Nat.reduceLeDiff, Nat.reduceEqDiff, Nat.not_lt, Nat.not_le, q_lit, q_leF, q_inT, q_nn, q_add, q_eqF]
      exact hgo
/-! the greedy row -/
def grP (o c : Nat) (s : Nat → Nat) (l : Nat) (row : Nat → Nat) (i : Nat) : Prop := row 0 = c ∧ ∀ j, j < i → row (j + 1) < 6 ∧ o.testBit (6 * row j + row (j + 1)) = true ∧ s (row (j + 1)) = l - 1 - j ∧ ∀ w, w < row (j + 1) → o.testBit (6 * row j + w) = true → s w ≠ l - 1 - j
theorem gr_6 {l i : Nat} {row : Nat → Nat} (h : grP o c s l row i) (hc : c < 6) : ∀ j, j ≤ i → row j < 6 := by
  intro j hj
  match j with
  | 0 => rw [h.1]; exact hc
  | j + 1 => exact (h.2 j (by omega)).1
theorem gr_ex {l i m : Nat} {row : Nat → Nat} (h : grP o c s l row i) (hs : stP o c 5 0 s) (hm : nrP o c s m) (hl : l = 1 + m) (h6 : l ≤ 6) (hi : i < l) : ∃ w, w < 6 ∧ o.testBit (6 * row i + w) = true ∧ s w = l - 1 - i := by
  match i with
  | 0 =>
    obtain ⟨w, w1, w2, w3⟩ := hm.2.2 (by omega)
    exact ⟨w, w1, by rw [h.1]; exact w2, by omega⟩
  | i + 1 =>
    obtain ⟨r1, r2, r3, -⟩ := h.2 i (by omega)
    have hw := (hs _ r1).2.1 (by omega)
    have e : s (row (i + 1)) = (l - 1 - (i + 1)) + 1 := by omega
    rw [e] at hw
    obtain ⟨w, w1, w2, w3⟩ := hw
    have a1 := (hs w w1).2.2 _ (Or.inl (by omega)) w3
    refine ⟨w, w1, w2, ?_⟩
    by_cases hlt : s w < l - 1 - (i + 1)
    · have a2 := (hs w w1).2.1 (by omega)
      have a3 : wk o c (s w + 1) (row (i + 1)) := ⟨w, w1, w2, a2⟩
      have a4 := (hs _ r1).2.2 _ (Or.inl (by omega)) a3
      omega
    · omega
theorem gr_up {l i w : Nat} {row : Nat → Nat} (h : grP o c s l row i) (h1 : w < 6) (h2 : o.testBit (6 * row i + w) = true) (h3 : s w = l - 1 - i) (h4 : ∀ w', w' < w → o.testBit (6 * row i + w') = true → s w' ≠ l - 1 - i) : grP o c s l (nu row (i + 1) w) (i + 1) := by
  refine ⟨by rw [← h.1]; exact if_neg (by omega), fun j hj => ?_⟩
  have e0 : nu row (i + 1) w j = row j := if_neg (by omega)
  rw [e0]
  by_cases hji : j = i
  · subst hji
    have e1 : nu row (j + 1) w (j + 1) = w := if_pos rfl
    rw [e1]
    exact ⟨h1, h2, h3, h4⟩
  · have e1 : nu row (i + 1) w (j + 1) = row (j + 1) := if_neg (by omega)
    rw [e1]
    exact h.2 j (by omega)
end
