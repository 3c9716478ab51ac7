section
variable {n : Nat} {K N : Nat → Nat} {G : zG} {V R : zI} {L M : zL} {u b f0 cnt acts x : Nat} {pl : Nat → Nat} {U : aU} {A : aS} {hi : Nat → aS} {bt bs : Nat → Nat} {br S by' : Nat}
def bitN (S t : Nat) : Nat := S / 2 ^ t % 2
theorem bitN_b (S t : Nat) : bitN S t < 2 := Nat.mod_lt _ (by omega)
theorem q_bit {S t : Nat} (hS : S < 2147483648) (ht : t < 32) : (qi S >>> (qi t &&& qi 31)) &&& qi 1 = qi (bitN S t) := by
  have hd : S / 2 ^ t ≤ S := Nat.div_le_self _ _
  have e : qi S >>> (qi t &&& qi 31) = qi (S / 2 ^ t) := q_shr hS ht
  rw [e, q_and (by omega) (by omega), Nat.and_one_is_mod]
  rfl
theorem bitN_hi {S t o : Nat} (h : S < 2 ^ t) (ho : t ≤ o) : bitN S o = 0 := by
  have h1 : 2 ^ t ≤ 2 ^ o := Nat.pow_le_pow_right (by decide) ho
  unfold bitN
  rw [Nat.div_eq_of_lt (by omega)]
def fitB (A : aS) (bt bs : Nat → Nat) (br t : Nat) : Bool := (List.range br).all (fun k => A.2.1 (6 * t + bt k) == bs k)
theorem fitB_t (h : ∀ k, k < br → A.2.1 (6 * x + bt k) = bs k) : fitB A bt bs br x = true := by
  unfold fitB
  rw [List.all_eq_true]
  intro k hk
  rw [beq_iff_eq]
  exact h k (List.mem_range.mp hk)
theorem fitB_f {k : Nat} (hk : k < br) (h : A.2.1 (6 * x + bt k) ≠ bs k) : fitB A bt bs br x = false := by
  cases hf : fitB A bt bs br x with
  | false => rfl
  | true =>
    unfold fitB at hf
    rw [List.all_eq_true] at hf
    have := hf k (List.mem_range.mpr hk)
    rw [beq_iff_eq] at this
    exact absurd this h
def bagC (V : zI) (br : Nat) (bt bs : Nat → Nat) (tw : Nat) : Prop := br ≤ 16 ∧ V 0 13 = qi br ∧ ∀ k, k < br → bt k < tw ∧ bs k < 256 ∧ V 24 k = qi (bt k) ∧ V 25 k = qi (bs k)
def bagR (R : zI) (br : Nat) (bt bs : Nat → Nat) (tw : Nat) : Prop := br ≤ 16 ∧ R 0 60 = qi br ∧ ∀ k, k < br → bt k < tw ∧ bs k < 256 ∧ R 33 k = qi (bt k) ∧ R 34 k = qi (bs k)
theorem c_fits {t : Nat} (hx : fxS N G) (hS : SC V 6 A) (hU : UB U) (hA : SB U A) (hb : bagC V br bt bs U.1) (ht : t < 6) : f_X10_fitsBag N G 0 (qi t) V L = some (qi (if fitB A bt bs br t = true then 1 else 0)) := by
  have htw := UB_tw hU
  obtain ⟨h1, h2, h3⟩ := hb
  have G11 : G 0 11 = some 24 := hx.1.2.2.2.2.2.2.1
  have G12 : G 0 12 = some 25 := hx.1.2.2.2.2.2.2.2.1
  have n24 : N 24 = 16 := hx.2.2.2.2.2.2.1
  have n25 : N 25 = 16 := hx.2.2.2.2.2.2.2.1
  apply zW_of
  unfold f_X10_fitsBag g_X10_fitsBag
  rw [G11, G12, hx.1.2.1]
  simp only [o_bind]
  refine zW_lp (I := fun r q => ∃ i : Nat, i ≤ br ∧ r = br - i ∧ q = (qi t, qi i) ∧ ∀ k, k < i → A.2.1 (6 * t + bt k) = bs k) ?_ FU br _ ⟨0, by omega, by omega, rfl, fun k hk => absurd hk (by omega)⟩ (FU_big (by omega))
  rintro k r q ⟨i, hi, rfl, rfl, hk⟩ ih
  by_cases hend : i = br
  · subst hend
    simp (disch := omega) only [b_X10_fitsBag_2, h2, Nat.le_refl, ↓reduceIte, o_bind, and_true, true_and, and_false, false_and, or_true, true_or, or_false, false_or, not_true, not_false_eq_true, not_false_iff, ne_eq, Nat.reduceAdd, Nat.reduceMul, Nat.reduceSub, Nat.reduceDiv, Nat.reduceMod, Nat.reduceLT, Nat.reduceLeDiff, Nat.reduceEqDiff, Nat.not_lt, Nat.not_le, q_lit, ↓q_m1, q_om, q_on, q_add, q_mul, q_sub, q_div, q_md, q_ltT, q_ltF, q_leT, q_leF, q_eqT, q_eqF, q_inT, q_inF, q_nn, q_mlt, q_ltm, q_mle, q_lem, q_nem, q_mne]
    refine zW_some ?_
    rw [fitB_t hk]
    rfl
  · obtain ⟨k1, k2, k3, k4⟩ := h3 i (by omega)
    have hh := cs_held (L := L) hx hS (a := t) (c := bt i) ht (by omega)
    have hle := SB_held hA (k := 6 * t + bt i) (by omega)
    by_cases he : A.2.1 (6 * t + bt i) = bs i
    · simp (disch := omega) only [b_X10_fitsBag_2, h2, n24, n25, k3, k4, hh, he, ↓reduceIte, o_bind, and_true, true_and, and_false, false_and, or_true, true_or, or_false, false_or, not_true, not_false_eq_true, not_false_iff, ne_eq, Nat.reduceAdd, Nat.reduceMul, Nat.reduceSub, Nat.reduceDiv, Nat.reduceMod, Nat.reduceLT, Nat.reduceLeDiff, Nat.reduceEqDiff, Nat.not_lt, Nat.not_le, q_lit, ↓q_m1, q_om, q_on, q_add, q_mul, q_sub, q_div, q_md, q_ltT, q_ltF, q_leT, q_leF, q_eqT, q_eqF, q_inT, q_inF, q_nn, q_mlt, q_ltm, q_mle, q_lem, q_nem, q_mne]
      refine ih (br - (i + 1)) _ (by omega) ⟨i + 1, by omega, rfl, rfl, fun k hk' => ?_⟩
      by_cases hki : k = i
      · subst hki; exact he
      · exact hk k (by omega)
    · simp (disch := omega) only [b_X10_fitsBag_2, h2, n24, n25, k3, k4, hh, ↓reduceIte, o_bind, and_true, true_and, and_false, false_and, or_true, true_or, or_false, false_or, not_true, not_false_eq_true, not_false_iff, ne_eq, Nat.reduceAdd, Nat.reduceMul, Nat.reduceSub, Nat.reduceDiv, Nat.reduceMod, Nat.reduceLT, Nat.reduceLeDiff, Nat.reduceEqDiff, Nat.not_lt, Nat.not_le, q_lit, ↓q_m1, q_om, q_on, q_add, q_mul, q_sub, q_div, q_md, q_ltT, q_ltF, q_leT, q_leF, q_eqT, q_eqF, q_inT, q_inF, q_nn, q_mlt, q_ltm, q_mle, q_lem, q_nem, q_mne]
      refine zW_some ?_
      rw [fitB_f (show i < br by omega) he]
      rfl
theorem r_isBg {t : Nat} (hS : SR R 0 A) (hU : UB U) (hA : SB U A) (hb : bagR R br bt bs U.1) (ht : t < 6) : f_isBag (qi t) R M = some (qi (if fitB A bt bs br t = true then 1 else 0), R, M) := by
  have htw := UB_tw hU
  obtain ⟨h1, h2, h3⟩ := hb
  apply zW_of
  unfold f_isBag
  refine zW_lp (I := fun r q => ∃ i : Nat, i ≤ br ∧ r = br - i ∧ q = (qi t, qi i, R, M) ∧ ∀ k, k < i → A.2.1 (6 * t + bt k) = bs k) ?_ FU br _ ⟨0, by omega, by omega, rfl, fun k hk => absurd hk (by omega)⟩ (FU_big (by omega))
  rintro k r q ⟨i, hi, rfl, rfl, hk⟩ ih
  by_cases hend : i = br
  · subst hend
    simp (disch := omega) only [b_isBag_2, h2, Nat.le_refl, ↓reduceIte, o_bind, and_true, true_and, and_false, false_and, or_true, true_or, or_false, false_or, not_true, not_false_eq_true, not_false_iff, ne_eq, Nat.reduceAdd, Nat.reduceMul, Nat.reduceSub, Nat.reduceDiv, Nat.reduceMod, Nat.reduceLT, Nat.reduceLeDiff, Nat.reduceEqDiff, Nat.not_lt, Nat.not_le, q_lit, ↓q_m1, q_om, q_on, q_add, q_mul, q_sub, q_div, q_md, q_ltT, q_ltF, q_leT, q_leF, q_eqT, q_eqF, q_inT, q_inF, q_nn, q_mlt, q_ltm, q_mle, q_lem, q_nem, q_mne]
    refine zW_some ?_
    rw [fitB_t hk]
    rfl
  · obtain ⟨k1, k2, k3, k4⟩ := h3 i (by omega)
    have hle := SB_held hA (k := 6 * t + bt i) (by omega)
    have d : R 21 (6 * t + bt i) = qi (A.2.1 (6 * t + bt i)) := by have := hS.2.1 (6 * t + bt i) (by omega); rw [Nat.mul_zero, Nat.zero_add] at this; exact this
    by_cases he : A.2.1 (6 * t + bt i) = bs i
    · simp (disch := omega) only [b_isBag_2, h2, k3, k4, f_at, d, he, ↓reduceIte, o_bind, and_true, true_and, and_false, false_and, or_true, true_or, or_false, false_or, not_true, not_false_eq_true, not_false_iff, ne_eq, Nat.reduceAdd, Nat.reduceMul, Nat.reduceSub, Nat.reduceDiv, Nat.reduceMod, Nat.reduceLT, Nat.reduceLeDiff, Nat.reduceEqDiff, Nat.not_lt, Nat.not_le, Nat.add_zero, Nat.zero_add, Nat.mul_zero, Nat.zero_mul, q_lit, ↓q_m1, q_om, q_on, q_add, q_mul, q_sub, q_div, q_md, q_ltT, q_ltF, q_leT, q_leF, q_eqT, q_eqF, q_inT, q_inF, q_nn, q_mlt, q_ltm, q_mle, q_lem, q_nem, q_mne]
      refine ih (br - (i + 1)) _ (by omega) ⟨i + 1, by omega, rfl, rfl, fun k hk' => ?_⟩
      by_cases hki : k = i
      · subst hki; exact he
      · exact hk k (by omega)
    · simp (disch := omega) only [b_isBag_2, h2, k3, k4, f_at, d, ↓reduceIte, o_bind, and_true, true_and, and_false, false_and, or_true, true_or, or_false, false_or, not_true, not_false_eq_true, not_false_iff, ne_eq, Nat.reduceAdd, Nat.reduceMul, Nat.reduceSub, Nat.reduceDiv, Nat.reduceMod, Nat.reduceLT, Nat.reduceLeDiff, Nat.reduceEqDiff, Nat.not_lt, Nat.not_le, Nat.add_zero, Nat.zero_add, Nat.mul_zero, Nat.zero_mul, q_lit, ↓q_m1, q_om, q_on, q_add, q_mul, q_sub, q_div, q_md, q_ltT, q_ltF, q_leT, q_leF, q_eqT, q_eqF, q_inT, q_inF, q_nn, q_mlt, q_ltm, q_mle, q_lem, q_nem, q_mne]
      refine zW_some ?_
      rw [fitB_f (show i < br by omega) he]
      rfl
def fitS (A : aS) (bt bs : Nat → Nat) (br : Nat) : Nat → Nat
  | 0 => 0
  | i + 1 => if fitB A bt bs br i = true then fitS A bt bs br i + 2 ^ i else fitS A bt bs br i
theorem fitS_b : ∀ i, fitS A bt bs br i < 2 ^ i := by
  intro i
  induction i with
  | zero => exact Nat.one_pos
  | succ i ih =>
    simp only [fitS]
    rw [Nat.pow_succ]
    split <;> omega
theorem or_pow {S i : Nat} (h : S < 2 ^ i) : S ||| 2 ^ i = S + 2 ^ i := by
  have e := Nat.two_pow_add_eq_or_of_lt h 1
  rw [Nat.mul_one] at e
  rw [Nat.or_comm, ← e, Nat.add_comm]
theorem fitS_q {i : Nat} (hi : i < 6) : qi (fitS A bt bs br i) ||| ((1 : Int32) <<< (qi i &&& 31)) = qi (fitS A bt bs br i + 2 ^ i) := by
  have h := fitS_b (A := A) (bt := bt) (bs := bs) (br := br) i
  have h2 : 2 ^ i ≤ 2 ^ 6 := Nat.pow_le_pow_right (by decide) (by omega)
  rw [qb_1 i (by omega), q_or (by omega) (by omega), or_pow h]
def alk (S : Nat) (A : aS) (by' t : Nat) : Nat → Nat
  | 0 => 0
  | m + 1 => alk S A by' t m + (if bitN S m = 1 ∧ A.2.1 (6 * m + by') = A.2.1 (6 * t + by') then 1 else 0)
theorem alk_b {t : Nat} : ∀ m, alk S A by' t m ≤ m := by
  intro m
  induction m with
  | zero => exact Nat.le_refl _
  | succ m ih =>
    show _ + (if _ then 1 else 0) ≤ _
    split <;> omega
theorem alk_hi {t tw : Nat} (h : S < 2 ^ tw) : ∀ m, tw ≤ m → alk S A by' t m = alk S A by' t tw := by
  intro m
  induction m with
  | zero => intro hm; rw [show tw = 0 by omega]
  | succ m ih =>
    intro hm
    by_cases e : tw = m + 1
    · rw [e]
    · show alk S A by' t m + (if _ then 1 else 0) = _
      rw [if_neg (by rw [bitN_hi h (by omega)]; omega), ih (by omega), Nat.add_zero]
def mst (S : Nat) (A : aS) (by' m : Nat) : Nat → Nat
  | 0 => 0
  | i + 1 => if bitN S i = 1 then (if mst S A by' m i < alk S A by' i m then alk S A by' i m else mst S A by' m i) else mst S A by' m i
theorem mst_b {m : Nat} : ∀ i, mst S A by' m i ≤ m := by
  intro i
  induction i with
  | zero => exact Nat.zero_le _
  | succ i ih =>
    have := alk_b (S := S) (A := A) (by' := by') (t := i) m
    show (if _ then (if _ then _ else _) else _) ≤ _
    split
    · split <;> omega
    · exact ih
theorem mst_eq {tw : Nat} (h : S < 2 ^ tw) (htw : tw ≤ 6) : mst S A by' 6 6 = mst S A by' tw tw := by
  have h1 : ∀ i, mst S A by' 6 i = mst S A by' tw i := by
    intro i
    induction i with
    | zero => rfl
    | succ i ih =>
      show (if _ then (if mst S A by' 6 i < alk S A by' i 6 then alk S A by' i 6 else mst S A by' 6 i) else mst S A by' 6 i) = (if _ then (if mst S A by' tw i < alk S A by' i tw then alk S A by' i tw else mst S A by' tw i) else mst S A by' tw i)
      rw [ih, alk_hi h 6 htw]
  have h2 : ∀ i, tw ≤ i → mst S A by' tw i = mst S A by' tw tw := by
    intro i
    induction i with
    | zero => intro hm; rw [show tw = 0 by omega]
    | succ i ih =>
      intro hm
      by_cases e : tw = i + 1
      · rw [e]
      · show (if _ then _ else _) = _
        rw [if_neg (by rw [bitN_hi h (by omega)]; omega), ih (by omega)]
  rw [h1, h2 6 htw]
theorem c_most18 {mm t : Nat} {k5 : Int32 × Int32 × Int32 × Int32 → Option Int32} {P : Int32 → Prop} (hx : fxS N G) (hS : SC V 6 A) (hA : SB U A) (hSb : S < 64) (hby : by' < 6) (ht : t < 6) (hmm : mm ≤ 6) (hk : zW (k5 (qi S, qi by', qi (if bitN S t = 1 then (if mm < alk S A by' t 6 then alk S A by' t 6 else mm) else mm), qi (t + 1))) P) : zW (zfix (b_X10_mostLeft_18 N G 0 6 V L k5) FU (qi S, qi by', qi mm, qi t, qi 0, qi 0)) P := by
  refine zW_lp (I := fun r q => ∃ o : Nat, o ≤ 6 ∧ r = 6 - o ∧ q = (qi S, qi by', qi mm, qi t, qi (alk S A by' t o), qi o)) ?_ FU 6 _ ⟨0, by omega, by omega, rfl⟩ (FU_big (by omega))
  rintro k r q ⟨o, ho, rfl, rfl⟩ ih
  have hal := alk_b (S := S) (A := A) (by' := by') (t := t) o
  by_cases hend : o = 6
  · subst hend
    have hbt := bitN_b S t
    by_cases hb : bitN S t = 1
    · simp only [hb, ↓reduceIte] at hk
      by_cases hl : mm < alk S A by' t 6
      · simp only [hl, ↓reduceIte] at hk
        simp (disch := omega) only [b_X10_mostLeft_18, q_bit, hb, ↓reduceIte, o_bind, and_true, true_and, and_false, false_and, or_true, true_or, or_false, false_or, not_true, not_false_eq_true, not_false_iff, ne_eq, Nat.reduceAdd, Nat.reduceMul, Nat.reduceSub, Nat.reduceDiv, Nat.reduceMod, Nat.reduceLT, Nat.reduceLeDiff, Nat.reduceEqDiff, Nat.not_lt, Nat.not_le, q_lit, ↓q_m1, q_om, q_on, q_add, q_mul, q_sub, q_div, q_md, q_ltT, q_ltF, q_leT, q_leF, q_eqT, q_eqF, q_inT, q_inF, q_nn, q_mlt, q_ltm, q_mle, q_lem, q_nem, q_mne]
        exact hk
      · simp only [hl, ↓reduceIte] at hk
        simp (disch := omega) only [b_X10_mostLeft_18, q_bit, hb, ↓reduceIte, o_bind, and_true, true_and, and_false, false_and, or_true, true_or, or_false, false_or, not_true, not_false_eq_true, not_false_iff, ne_eq, Nat.reduceAdd, Nat.reduceMul, Nat.reduceSub, Nat.reduceDiv, Nat.reduceMod, Nat.reduceLT, Nat.reduceLeDiff, Nat.reduceEqDiff, Nat.not_lt, Nat.not_le, q_lit, ↓q_m1, q_om, q_on, q_add, q_mul, q_sub, q_div, q_md, q_ltT, q_ltF, q_leT, q_leF, q_eqT, q_eqF, q_inT, q_inF, q_nn, q_mlt, q_ltm, q_mle, q_lem, q_nem, q_mne]
        exact hk
    · have hb0 : bitN S t = 0 := by omega
      simp only [hb, ↓reduceIte] at hk
      simp (disch := omega) only [b_X10_mostLeft_18, q_bit, hb0, ↓reduceIte, o_bind, and_true, true_and, and_false, false_and, or_true, true_or, or_false, false_or, not_true, not_false_eq_true, not_false_iff, ne_eq, Nat.reduceAdd, Nat.reduceMul, Nat.reduceSub, Nat.reduceDiv, Nat.reduceMod, Nat.reduceLT, Nat.reduceLeDiff, Nat.reduceEqDiff, Nat.not_lt, Nat.not_le, q_lit, ↓q_m1, q_om, q_on, q_add, q_mul, q_sub, q_div, q_md, q_ltT, q_ltF, q_leT, q_leF, q_eqT, q_eqF, q_inT, q_inF, q_nn, q_mlt, q_ltm, q_mle, q_lem, q_nem, q_mne]
      exact hk
  · have hgo := ih (6 - (o + 1)) (qi S, qi by', qi mm, qi t, qi (alk S A by' t (o + 1)), qi (o + 1)) (by omega) ⟨o + 1, by omega, rfl, rfl⟩
    have hbo := bitN_b S o
    have h1 := cs_held (L := L) hx hS (a := o) (c := by') (by omega) hby
    have h2 := cs_held (L := L) hx hS (a := t) (c := by') ht hby
    have b1 := SB_held hA (k := 6 * o + by') (by omega)
    have b2 := SB_held hA (k := 6 * t + by') (by omega)
    have ea : alk S A by' t (o + 1) = alk S A by' t o + (if bitN S o = 1 ∧ A.2.1 (6 * o + by') = A.2.1 (6 * t + by') then 1 else 0) := rfl
    rw [ea] at hgo
    by_cases hb : bitN S o = 1
    · by_cases he : A.2.1 (6 * o + by') = A.2.1 (6 * t + by')
      · rw [if_pos ⟨hb, he⟩] at hgo
        simp (disch := omega) only [b_X10_mostLeft_18, q_bit, hb, h1, h2, ↓reduceIte, o_bind, and_true, true_and, and_false, false_and, or_true, true_or, or_false, false_or, not_true, not_false_eq_true, not_false_iff, ne_eq, Nat.reduceAdd, Nat.reduceMul, Nat.reduceSub, Nat.reduceDiv, Nat.reduceMod, Nat.reduceLT, Nat.reduceLeDiff, Nat.reduceEqDiff, Nat.not_lt, Nat.not_le, q_lit, ↓q_m1, q_om, q_on, q_add, q_mul, q_sub, q_div, q_md, q_ltT, q_ltF, q_leT, q_leF, q_eqT, q_eqF, q_inT, q_inF, q_nn, q_mlt, q_ltm, q_mle, q_lem, q_nem, q_mne]
        exact hgo
      · rw [if_neg (fun h => he h.2), Nat.add_zero] at hgo
        simp (disch := omega) only [b_X10_mostLeft_18, q_bit, hb, h1, h2, ↓reduceIte, o_bind, and_true, true_and, and_false, false_and, or_true, true_or, or_false, false_or, not_true, not_false_eq_true, not_false_iff, ne_eq, Nat.reduceAdd, Nat.reduceMul, Nat.reduceSub, Nat.reduceDiv, Nat.reduceMod, Nat.reduceLT, Nat.reduceLeDiff, Nat.reduceEqDiff, Nat.not_lt, Nat.not_le, q_lit, ↓q_m1, q_om, q_on, q_add, q_mul, q_sub, q_div, q_md, q_ltT, q_ltF, q_leT, q_leF, q_eqT, q_eqF, q_inT, q_inF, q_nn, q_mlt, q_ltm, q_mle, q_lem, q_nem, q_mne]
        exact hgo
    · have hb0 : bitN S o = 0 := by omega
      rw [if_neg (fun h => hb h.1), Nat.add_zero] at hgo
      simp (disch := omega) only [b_X10_mostLeft_18, q_bit, hb0, ↓reduceIte, o_bind, and_true, true_and, and_false, false_and, or_true, true_or, or_false, false_or, not_true, not_false_eq_true, not_false_iff, ne_eq, Nat.reduceAdd, Nat.reduceMul, Nat.reduceSub, Nat.reduceDiv, Nat.reduceMod, Nat.reduceLT, Nat.reduceLeDiff, Nat.reduceEqDiff, Nat.not_lt, Nat.not_le, q_lit, ↓q_m1, q_om, q_on, q_add, q_mul, q_sub, q_div, q_md, q_ltT, q_ltF, q_leT, q_leF, q_eqT, q_eqF, q_inT, q_inF, q_nn, q_mlt, q_ltm, q_mle, q_lem, q_nem, q_mne]
      exact hgo
theorem c_most (hx : fxS N G) (hS : SC V 6 A) (hA : SB U A) (hSb : S < 64) (hby : by' < 6) : f_X10_mostLeft N G 0 (qi S) (qi by') V L = some (qi (mst S A by' 6 6)) := by
  apply zW_of
  unfold f_X10_mostLeft g_X10_mostLeft
  rw [hx.1.2.1, o_bind]
  refine zW_lp (I := fun r q => ∃ t : Nat, t ≤ 6 ∧ r = 6 - t ∧ q = (qi S, qi by', qi (mst S A by' 6 t), qi t)) ?_ FU 6 _ ⟨0, by omega, by omega, rfl⟩ (FU_big (by omega))
  rintro k r q ⟨t, ht, rfl, rfl⟩ ih
  have hm := mst_b (S := S) (A := A) (by' := by') (m := 6) t
  by_cases hend : t = 6
  · subst hend
    simp (disch := omega) only [b_X10_mostLeft_5, ↓reduceIte, o_bind, and_true, true_and, and_false, false_and, or_true, true_or, or_false, false_or, not_true, not_false_eq_true, not_false_iff, ne_eq, Nat.reduceAdd, Nat.reduceMul, Nat.reduceSub, Nat.reduceDiv, Nat.reduceMod, Nat.reduceLT, Nat.reduceLeDiff, Nat.reduceEqDiff, Nat.not_lt, Nat.not_le, q_lit, ↓q_m1, q_om, q_on, q_add, q_mul, q_sub, q_div, q_md, q_ltT, q_ltF, q_leT, q_leF, q_eqT, q_eqF, q_inT, q_inF, q_nn, q_mlt, q_ltm, q_mle, q_lem, q_nem, q_mne]
    exact zW_some rfl
  · simp (disch := omega) only [b_X10_mostLeft_5, ↓reduceIte, o_bind, and_true, true_and, and_false, false_and, or_true, true_or, or_false, false_or, not_true, not_false_eq_true, not_false_iff, ne_eq, Nat.reduceAdd, Nat.reduceMul, Nat.reduceSub, Nat.reduceDiv, Nat.reduceMod, Nat.reduceLT, Nat.reduceLeDiff, Nat.reduceEqDiff, Nat.not_lt, Nat.not_le, q_lit, ↓q_m1, q_om, q_on, q_add, q_mul, q_sub, q_div, q_md, q_ltT, q_ltF, q_leT, q_leF, q_eqT, q_eqF, q_inT, q_inF, q_nn, q_mlt, q_ltm, q_mle, q_lem, q_nem, q_mne]
    exact c_most18 hx hS hA hSb hby (by omega) hm (ih (6 - (t + 1)) _ (by omega) ⟨t + 1, by omega, rfl, rfl⟩)
theorem r_has2 {t : Nat} (hSb : S < 64) (ht : t < 6) : f_has2 (qi S) (qi t) = some (qi (bitN S t)) := by
  have hb := bitN_b S t
  unfold f_has2
  by_cases h : bitN S t = 1
  · simp (disch := omega) only [q_bit, h, ↓reduceIte, o_bind, and_true, true_and, and_false, false_and, or_true, true_or, or_false, false_or, not_true, not_false_eq_true, not_false_iff, ne_eq, Nat.reduceAdd, Nat.reduceMul, Nat.reduceSub, Nat.reduceDiv, Nat.reduceMod, Nat.reduceLT, Nat.reduceLeDiff, Nat.reduceEqDiff, Nat.not_lt, Nat.not_le, q_lit, ↓q_m1, q_om, q_on, q_add, q_mul, q_sub, q_div, q_md, q_ltT, q_ltF, q_leT, q_leF, q_eqT, q_eqF, q_inT, q_inF, q_nn, q_mlt, q_ltm, q_mle, q_lem, q_nem, q_mne]
  · have h0 : bitN S t = 0 := by omega
    simp (disch := omega) only [q_bit, h0, ↓reduceIte, o_bind, and_true, true_and, and_false, false_and, or_true, true_or, or_false, false_or, not_true, not_false_eq_true, not_false_iff, ne_eq, Nat.reduceAdd, Nat.reduceMul, Nat.reduceSub, Nat.reduceDiv, Nat.reduceMod, Nat.reduceLT, Nat.reduceLeDiff, Nat.reduceEqDiff, Nat.not_lt, Nat.not_le, q_lit, ↓q_m1, q_om, q_on, q_add, q_mul, q_sub, q_div, q_md, q_ltT, q_ltF, q_leT, q_leF, q_eqT, q_eqF, q_inT, q_inF, q_nn, q_mlt, q_ltm, q_mle, q_lem, q_nem, q_mne]
theorem r_112 {mm t : Nat} {w b0 l0 : Int32} {k68 : Int32 × Int32 × Int32 × Int32 × Int32 × zI × zL → Option (Int32 × zI × zL)} {k92 : Int32 × Int32 × Int32 × Int32 × Int32 × Int32 × Int32 × zI × zL → Option (Int32 × zI × zL)} {P : Int32 × zI × zL → Prop} (hR : UR R M b U) (hS : SR R 0 A) (hU : UB U) (hA : SB U A) (hSb : S < 64) (hby : by' < 6) (ht : t < 6) (hmm : mm ≤ 6) (hk : zW (k92 (w, qi S, b0, l0, qi by', qi (if bitN S t = 1 then (if mm < alk S A by' t U.1 then alk S A by' t U.1 else mm) else mm), qi (t + 1), R, M)) P) : zW (zfix (b_whose_112 k68 k92) FU (w, qi S, b0, l0, qi by', qi mm, qi t, qi 0, qi 0, R, M)) P := by
  have htw := UB_tw hU
  have hb2 : b < 2 := hR.1.1
  have e13 : R 0 13 = qi b := hR.1.2.1
  have e2 : R 2 b = qi U.1 := hR.1.2.2.1
  have hbt := bitN_b S t
  have d : ∀ k, k < 36 → R 21 k = qi (A.2.1 k) := fun k hk => by have := hS.2.1 k hk; rw [Nat.mul_zero, Nat.zero_add] at this; exact this
  refine zW_lp (I := fun r q => ∃ o : Nat, o ≤ U.1 ∧ r = U.1 - o ∧ q = (w, qi S, b0, l0, qi by', qi mm, qi t, qi (if bitN S t = 1 then alk S A by' t o else 0), qi o, R, M)) ?_ FU U.1 _ ⟨0, by omega, by omega, by split <;> rfl⟩ (FU_big (by omega))
  rintro k r q ⟨o, ho, rfl, rfl⟩ ih
  have hal := alk_b (S := S) (A := A) (by' := by') (t := t) o
  by_cases hend : o = U.1
  · by_cases hb : bitN S t = 1
    · simp only [hb, ↓reduceIte] at hk ⊢
      rw [hend] at hal ⊢
      by_cases hl : mm < alk S A by' t U.1
      · simp only [hl, ↓reduceIte] at hk
        simp (disch := omega) only [b_whose_112, e13, e2, Nat.le_refl, ↓reduceIte, o_bind, and_true, true_and, and_false, false_and, or_true, true_or, or_false, false_or, not_true, not_false_eq_true, not_false_iff, ne_eq, Nat.reduceAdd, Nat.reduceMul, Nat.reduceSub, Nat.reduceDiv, Nat.reduceMod, Nat.reduceLT, Nat.reduceLeDiff, Nat.reduceEqDiff, Nat.not_lt, Nat.not_le, q_lit, ↓q_m1, q_om, q_on, q_add, q_mul, q_sub, q_div, q_md, q_ltT, q_ltF, q_leT, q_leF, q_eqT, q_eqF, q_inT, q_inF, q_nn, q_mlt, q_ltm, q_mle, q_lem, q_nem, q_mne]
        exact hk
      · simp only [hl, ↓reduceIte] at hk
        simp (disch := omega) only [b_whose_112, e13, e2, Nat.le_refl, ↓reduceIte, o_bind, and_true, true_and, and_false, false_and, or_true, true_or, or_false, false_or, not_true, not_false_eq_true, not_false_iff, ne_eq, Nat.reduceAdd, Nat.reduceMul, Nat.reduceSub, Nat.reduceDiv, Nat.reduceMod, Nat.reduceLT, Nat.reduceLeDiff, Nat.reduceEqDiff, Nat.not_lt, Nat.not_le, q_lit, ↓q_m1, q_om, q_on, q_add, q_mul, q_sub, q_div, q_md, q_ltT, q_ltF, q_leT, q_leF, q_eqT, q_eqF, q_inT, q_inF, q_nn, q_mlt, q_ltm, q_mle, q_lem, q_nem, q_mne]
        exact hk
    · simp only [hb, ↓reduceIte] at hk ⊢
      simp (disch := omega) only [b_whose_112, e13, e2, hend, Nat.le_refl, ↓reduceIte, o_bind, and_true, true_and, and_false, false_and, or_true, true_or, or_false, false_or, not_true, not_false_eq_true, not_false_iff, ne_eq, Nat.reduceAdd, Nat.reduceMul, Nat.reduceSub, Nat.reduceDiv, Nat.reduceMod, Nat.reduceLT, Nat.reduceLeDiff, Nat.reduceEqDiff, Nat.not_lt, Nat.not_le, q_lit, ↓q_m1, q_om, q_on, q_add, q_mul, q_sub, q_div, q_md, q_ltT, q_ltF, q_leT, q_leF, q_eqT, q_eqF, q_inT, q_inF, q_nn, q_mlt, q_ltm, q_mle, q_lem, q_nem, q_mne]
      exact hk
  · have hgo := ih (U.1 - (o + 1)) (w, qi S, b0, l0, qi by', qi mm, qi t, qi (if bitN S t = 1 then alk S A by' t (o + 1) else 0), qi (o + 1), R, M) (by omega) ⟨o + 1, by omega, rfl, rfl⟩
    have hbo := bitN_b S o
    have d1 := d (6 * o + by') (by omega)
    have d2 := d (6 * t + by') (by omega)
    have b1 := SB_held hA (k := 6 * o + by') (by omega)
    have b2 := SB_held hA (k := 6 * t + by') (by omega)
    have g1 := r_has2 (S := S) hSb (t := t) ht
    have g2 := r_has2 (S := S) hSb (t := o) (by omega)
    have ea : alk S A by' t (o + 1) = alk S A by' t o + (if bitN S o = 1 ∧ A.2.1 (6 * o + by') = A.2.1 (6 * t + by') then 1 else 0) := rfl
    rw [ea] at hgo
    by_cases hb : bitN S t = 1
    · simp only [hb, ↓reduceIte] at hgo g1 ⊢
      by_cases hbo1 : bitN S o = 1
      · rw [hbo1] at g2
        by_cases he : A.2.1 (6 * o + by') = A.2.1 (6 * t + by')
        · rw [if_pos ⟨hbo1, he⟩] at hgo
          simp (disch := omega) only [b_whose_112, e13, e2, g1, g2, f_at, d1, d2, ↓reduceIte, o_bind, and_true, true_and, and_false, false_and, or_true, true_or, or_false, false_or, not_true, not_false_eq_true, not_false_iff, ne_eq, Nat.reduceAdd, Nat.reduceMul, Nat.reduceSub, Nat.reduceDiv, Nat.reduceMod, Nat.reduceLT, Nat.reduceLeDiff, Nat.reduceEqDiff, Nat.not_lt, Nat.not_le, Nat.add_zero, Nat.zero_add, Nat.mul_zero, Nat.zero_mul, q_lit, ↓q_m1, q_om, q_on, q_add, q_mul, q_sub, q_div, q_md, q_ltT, q_ltF, q_leT, q_leF, q_eqT, q_eqF, q_inT, q_inF, q_nn, q_mlt, q_ltm, q_mle, q_lem, q_nem, q_mne]
          exact hgo
        · rw [if_neg (fun h => he h.2), Nat.add_zero] at hgo
          simp (disch := omega) only [b_whose_112, e13, e2, g1, g2, f_at, d1, d2, ↓reduceIte, o_bind, and_true, true_and, and_false, false_and, or_true, true_or, or_false, false_or, not_true, not_false_eq_true, not_false_iff, ne_eq, Nat.reduceAdd, Nat.reduceMul, Nat.reduceSub, Nat.reduceDiv, Nat.reduceMod, Nat.reduceLT, Nat.reduceLeDiff, Nat.reduceEqDiff, Nat.not_lt, Nat.not_le, Nat.add_zero, Nat.zero_add, Nat.mul_zero, Nat.zero_mul, q_lit, ↓q_m1, q_om, q_on, q_add, q_mul, q_sub, q_div, q_md, q_ltT, q_ltF, q_leT, q_leF, q_eqT, q_eqF, q_inT, q_inF, q_nn, q_mlt, q_ltm, q_mle, q_lem, q_nem, q_mne]
          exact hgo
      · have hb0 : bitN S o = 0 := by omega
        rw [if_neg (fun h => hbo1 h.1), Nat.add_zero] at hgo
        rw [hb0] at g2
        simp (disch := omega) only [b_whose_112, e13, e2, g1, g2, ↓reduceIte, o_bind, and_true, true_and, and_false, false_and, or_true, true_or, or_false, false_or, not_true, not_false_eq_true, not_false_iff, ne_eq, Nat.reduceAdd, Nat.reduceMul, Nat.reduceSub, Nat.reduceDiv, Nat.reduceMod, Nat.reduceLT, Nat.reduceLeDiff, Nat.reduceEqDiff, Nat.not_lt, Nat.not_le, Nat.add_zero, Nat.zero_add, Nat.mul_zero, Nat.zero_mul, q_lit, ↓q_m1, q_om, q_on, q_add, q_mul, q_sub, q_div, q_md, q_ltT, q_ltF, q_leT, q_leF, q_eqT, q_eqF, q_inT, q_inF, q_nn, q_mlt, q_ltm, q_mle, q_lem, q_nem, q_mne]
        exact hgo
    · have hb0 : bitN S t = 0 := by omega
      simp only [hb, ↓reduceIte] at hgo ⊢
      rw [hb0] at g1
      simp (disch := omega) only [b_whose_112, e13, e2, g1, ↓reduceIte, o_bind, and_true, true_and, and_false, false_and, or_true, true_or, or_false, false_or, not_true, not_false_eq_true, not_false_iff, ne_eq, Nat.reduceAdd, Nat.reduceMul, Nat.reduceSub, Nat.reduceDiv, Nat.reduceMod, Nat.reduceLT, Nat.reduceLeDiff, Nat.reduceEqDiff, Nat.not_lt, Nat.not_le, Nat.add_zero, Nat.zero_add, Nat.mul_zero, Nat.zero_mul, q_lit, ↓q_m1, q_om, q_on, q_add, q_mul, q_sub, q_div, q_md, q_ltT, q_ltF, q_leT, q_leF, q_eqT, q_eqF, q_inT, q_inF, q_nn, q_mlt, q_ltm, q_mle, q_lem, q_nem, q_mne]
      exact hgo
theorem r_92 {w b0 l0 : Int32} {k68 : Int32 × Int32 × Int32 × Int32 × Int32 × zI × zL → Option (Int32 × zI × zL)} {P : Int32 × zI × zL → Prop} (hR : UR R M b U) (hS : SR R 0 A) (hU : UB U) (hA : SB U A) (hSb : S < 64) (hby : by' < 6) (hk : zW (if qi (mst S A by' U.1 U.1) < l0 then k68 (w, qi S, qi by', qi (mst S A by' U.1 U.1), qi (by' + 1), R, M) else k68 (w, qi S, b0, l0, qi (by' + 1), R, M)) P) : zW (zfix (b_whose_92 k68) FU (w, qi S, b0, l0, qi by', qi 0, qi 0, R, M)) P := by
  have htw := UB_tw hU
  have hb2 : b < 2 := hR.1.1
  have e13 : R 0 13 = qi b := hR.1.2.1
  have e2 : R 2 b = qi U.1 := hR.1.2.2.1
  refine zW_lp (I := fun r q => ∃ t : Nat, t ≤ U.1 ∧ r = U.1 - t ∧ q = (w, qi S, b0, l0, qi by', qi (mst S A by' U.1 t), qi t, R, M)) ?_ FU U.1 _ ⟨0, by omega, by omega, rfl⟩ (FU_big (by omega))
  rintro k r q ⟨t, ht, rfl, rfl⟩ ih
  have hm := mst_b (S := S) (A := A) (by' := by') (m := U.1) t
  by_cases hend : t = U.1
  · rw [hend]
    simp (disch := omega) only [b_whose_92, e13, e2, Nat.le_refl, ↓reduceIte, o_bind, and_true, true_and, and_false, false_and, or_true, true_or, or_false, false_or, not_true, not_false_eq_true, not_false_iff, ne_eq, Nat.reduceAdd, Nat.reduceMul, Nat.reduceSub, Nat.reduceDiv, Nat.reduceMod, Nat.reduceLT, Nat.reduceLeDiff, Nat.reduceEqDiff, Nat.not_lt, Nat.not_le, q_lit, ↓q_m1, q_om, q_on, q_add, q_mul, q_sub, q_div, q_md, q_ltT, q_ltF, q_leT, q_leF, q_eqT, q_eqF, q_inT, q_inF, q_nn, q_mlt, q_ltm, q_mle, q_lem, q_nem, q_mne]
    exact hk
  · simp (disch := omega) only [b_whose_92, e13, e2, ↓reduceIte, o_bind, and_true, true_and, and_false, false_and, or_true, true_or, or_false, false_or, not_true, not_false_eq_true, not_false_iff, ne_eq, Nat.reduceAdd, Nat.reduceMul, Nat.reduceSub, Nat.reduceDiv, Nat.reduceMod, Nat.reduceLT, Nat.reduceLeDiff, Nat.reduceEqDiff, Nat.not_lt, Nat.not_le, q_lit, ↓q_m1, q_om, q_on, q_add, q_mul, q_sub, q_div, q_md, q_ltT, q_ltF, q_leT, q_leF, q_eqT, q_eqF, q_inT, q_inF, q_nn, q_mlt, q_ltm, q_mle, q_lem, q_nem, q_mne]
    exact r_112 hR hS hU hA hSb hby (by omega) (by omega) (ih (U.1 - (t + 1)) _ (by omega) ⟨t + 1, by omega, rfl, rfl⟩)
def tel (f : Nat → Nat) : Nat → Option Nat × Nat
  | 0 => (none, 0)
  | i + 1 => if (tel f i).1 = none ∨ f i < (tel f i).2 then (some i, f i) else tel f i
def tlV (o : Option Nat × Nat) (d : Int32) : Int32 := if o.1 = none then d else qi o.2
theorem tel_b {f : Nat → Nat} (hf : ∀ i, f i ≤ 6) : ∀ i, (tel f i).2 ≤ 6 ∧ (∀ c, (tel f i).1 = some c → c < i) ∧ (1 ≤ i → (tel f i).1 ≠ none) := by
  intro i
  induction i with
  | zero => exact ⟨Nat.zero_le _, fun c h => (by cases h), fun h => absurd h (by omega)⟩
  | succ i ih =>
    obtain ⟨h1, h2, h3⟩ := ih
    show ((if _ then _ else _ : Option Nat × Nat)).2 ≤ 6 ∧ _
    simp only [tel]
    by_cases hc : (tel f i).1 = none ∨ f i < (tel f i).2
    · simp only [hc, ↓reduceIte]
      exact ⟨hf i, fun c h => (by cases h; omega), fun _ h => (by cases h)⟩
    · simp only [hc, ↓reduceIte]
      exact ⟨h1, fun c h => by have := h2 c h; omega, fun _ h => hc (Or.inl h)⟩
theorem c_65 {w : Nat} (hx : fxS N G) (hC : UC N G V u U) (hS : SC V 6 A) (hU : UB U) (hA : SB U A) (hSb : S < 64) (hw : w = 1 ∨ w = 2) : zfix (b_X10_whose_65 N G 0 u V L) FU (qi w, qi S, qm, qm, qi 0) = some (if w = 1 then oi (tel (fun i => mst S A i 6 6) U.1).1 else tlV (tel (fun i => mst S A i 6 6) U.1) qm) := by
  have htw := UB_tw hU
  have e0 : V u 0 = qi U.1 := hC.1.1
  have hf : ∀ i, mst S A i 6 6 ≤ 6 := fun i => mst_b 6
  apply zW_of
  refine zW_lp (I := fun r q => ∃ i : Nat, i ≤ U.1 ∧ r = U.1 - i ∧ q = (qi w, qi S, oi (tel (fun i => mst S A i 6 6) i).1, tlV (tel (fun i => mst S A i 6 6) i) qm, qi i)) ?_ FU U.1 _ ⟨0, by omega, by omega, rfl⟩ (FU_big (by omega))
  rintro k r q ⟨i, hi, rfl, rfl⟩ ih
  obtain ⟨t1, t2, t3⟩ := tel_b hf i
  by_cases hend : i = U.1
  · rw [hend]
    rcases hw with rfl | rfl
    · simp (disch := omega) only [b_X10_whose_65, e0, Nat.le_refl, ↓reduceIte, o_bind, and_true, true_and, and_false, false_and, or_true, true_or, or_false, false_or, not_true, not_false_eq_true, not_false_iff, ne_eq, Nat.reduceAdd, Nat.reduceMul, Nat.reduceSub, Nat.reduceDiv, Nat.reduceMod, Nat.reduceLT, Nat.reduceLeDiff, Nat.reduceEqDiff, Nat.not_lt, Nat.not_le, q_lit, ↓q_m1, q_om, q_on, q_add, q_mul, q_sub, q_div, q_md, q_ltT, q_ltF, q_leT, q_leF, q_eqT, q_eqF, q_inT, q_inF, q_nn, q_mlt, q_ltm, q_mle, q_lem, q_nem, q_mne]
      exact zW_some rfl
    · simp (disch := omega) only [b_X10_whose_65, e0, Nat.le_refl, ↓reduceIte, o_bind, and_true, true_and, and_false, false_and, or_true, true_or, or_false, false_or, not_true, not_false_eq_true, not_false_iff, ne_eq, Nat.reduceAdd, Nat.reduceMul, Nat.reduceSub, Nat.reduceDiv, Nat.reduceMod, Nat.reduceLT, Nat.reduceLeDiff, Nat.reduceEqDiff, Nat.not_lt, Nat.not_le, q_lit, ↓q_m1, q_om, q_on, q_add, q_mul, q_sub, q_div, q_md, q_ltT, q_ltF, q_leT, q_leF, q_eqT, q_eqF, q_inT, q_inF, q_nn, q_mlt, q_ltm, q_mle, q_lem, q_nem, q_mne]
      exact zW_some rfl
  · have hm := c_most (L := L) hx hS hA hSb (by' := i) (by omega)
    have hgo := ih (U.1 - (i + 1)) (qi w, qi S, oi (tel (fun i => mst S A i 6 6) (i + 1)).1, tlV (tel (fun i => mst S A i 6 6) (i + 1)) qm, qi (i + 1)) (by omega) ⟨i + 1, by omega, rfl, rfl⟩
    have hfi := hf i
    have et : tel (fun i => mst S A i 6 6) (i + 1) = if (tel (fun i => mst S A i 6 6) i).1 = none ∨ mst S A i 6 6 < (tel (fun i => mst S A i 6 6) i).2 then (some i, mst S A i 6 6) else tel (fun i => mst S A i 6 6) i := rfl
    rw [et] at hgo
    have em := oi_m (o := (tel (fun i => mst S A i 6 6) i).1) (fun c hc => by have := t2 c hc; omega)
    by_cases hno : (tel (fun i => mst S A i 6 6) i).1 = none
    · rw [if_pos (Or.inl hno)] at hgo
      have e1 : oi (tel (fun i => mst S A i 6 6) i).1 = qm := em.mpr hno
      simp (disch := omega) only [b_X10_whose_65, f_X10_whose_98, e0, hm, e1, ↓reduceIte, o_bind, and_true, true_and, and_false, false_and, or_true, true_or, or_false, false_or, not_true, not_false_eq_true, not_false_iff, ne_eq, Nat.reduceAdd, Nat.reduceMul, Nat.reduceSub, Nat.reduceDiv, Nat.reduceMod, Nat.reduceLT, Nat.reduceLeDiff, Nat.reduceEqDiff, Nat.not_lt, Nat.not_le, q_lit, ↓q_m1, q_om, q_on, q_add, q_mul, q_sub, q_div, q_md, q_ltT, q_ltF, q_leT, q_leF, q_eqT, q_eqF, q_inT, q_inF, q_nn, q_mlt, q_ltm, q_mle, q_lem, q_nem, q_mne]
      exact hgo
    · have e1 : ¬ oi (tel (fun i => mst S A i 6 6) i).1 = qm := fun h => hno (em.mp h)
      have e2 : tlV (tel (fun i => mst S A i 6 6) i) qm = qi (tel (fun i => mst S A i 6 6) i).2 := if_neg hno
      by_cases hl : mst S A i 6 6 < (tel (fun i => mst S A i 6 6) i).2
      · rw [if_pos (Or.inr hl)] at hgo
        rw [e2]
        simp (disch := omega) only [b_X10_whose_65, f_X10_whose_98, e0, hm, e1, ↓reduceIte, o_bind, and_true, true_and, and_false, false_and, or_true, true_or, or_false, false_or, not_true, not_false_eq_true, not_false_iff, ne_eq, Nat.reduceAdd, Nat.reduceMul, Nat.reduceSub, Nat.reduceDiv, Nat.reduceMod, Nat.reduceLT, Nat.reduceLeDiff, Nat.reduceEqDiff, Nat.not_lt, Nat.not_le, q_lit, ↓q_m1, q_om, q_on, q_add, q_mul, q_sub, q_div, q_md, q_ltT, q_ltF, q_leT, q_leF, q_eqT, q_eqF, q_inT, q_inF, q_nn, q_mlt, q_ltm, q_mle, q_lem, q_nem, q_mne]
        exact hgo
      · rw [if_neg (by rintro (h | h); exact hno h; exact hl h), e2] at hgo
        rw [e2]
        simp (disch := omega) only [b_X10_whose_65, e0, hm, e1, ↓reduceIte, o_bind, and_true, true_and, and_false, false_and, or_true, true_or, or_false, false_or, not_true, not_false_eq_true, not_false_iff, ne_eq, Nat.reduceAdd, Nat.reduceMul, Nat.reduceSub, Nat.reduceDiv, Nat.reduceMod, Nat.reduceLT, Nat.reduceLeDiff, Nat.reduceEqDiff, Nat.not_lt, Nat.not_le, q_lit, ↓q_m1, q_om, q_on, q_add, q_mul, q_sub, q_div, q_md, q_ltT, q_ltF, q_leT, q_leF, q_eqT, q_eqF, q_inT, q_inF, q_nn, q_mlt, q_ltm, q_mle, q_lem, q_nem, q_mne]
        exact hgo
theorem r_68 {w : Nat} (hR : UR R M b U) (hS : SR R 0 A) (hU : UB U) (hA : SB U A) (hSb : S < 64) (hS0 : S ≠ 0) (hw : w = 1 ∨ w = 2) (htw1 : 1 ≤ U.1) : zfix b_whose_68 FU (qi w, qi S, qm, qi 100000000, qi 0, R, M) = some (if w = 1 then oi (tel (fun i => mst S A i U.1 U.1) U.1).1 else tlV (tel (fun i => mst S A i U.1 U.1) U.1) qm, R, M) := by
  have htw := UB_tw hU
  have hb2 : b < 2 := hR.1.1
  have e13 : R 0 13 = qi b := hR.1.2.1
  have e2 : R 2 b = qi U.1 := hR.1.2.2.1
  have hf : ∀ i, mst S A i U.1 U.1 ≤ 6 := fun i => Nat.le_trans (mst_b U.1) htw
  apply zW_of
  refine zW_lp (I := fun r q => ∃ i : Nat, i ≤ U.1 ∧ r = U.1 - i ∧ q = (qi w, qi S, oi (tel (fun i => mst S A i U.1 U.1) i).1, tlV (tel (fun i => mst S A i U.1 U.1) i) (qi 100000000), qi i, R, M)) ?_ FU U.1 _ ⟨0, by omega, by omega, rfl⟩ (FU_big (by omega))
  rintro k r q ⟨i, hi, rfl, rfl⟩ ih
  obtain ⟨t1, t2, t3⟩ := tel_b hf i
  have em := oi_m (o := (tel (fun i => mst S A i U.1 U.1) i).1) (fun c hc => by have := t2 c hc; omega)
  by_cases hend : i = U.1
  · have hno := t3 (by omega)
    have e1 : ¬ oi (tel (fun i => mst S A i U.1 U.1) i).1 = qm := fun h => hno (em.mp h)
    have v1 : tlV (tel (fun i => mst S A i U.1 U.1) i) (qi 100000000) = tlV (tel (fun i => mst S A i U.1 U.1) i) qm := by
      unfold tlV; rw [if_neg hno, if_neg hno]
    rw [v1]
    rw [hend] at e1 ⊢
    rcases hw with rfl | rfl
    · simp (disch := omega) only [b_whose_68, f_whose_236, e13, e2, e1, Nat.le_refl, ↓reduceIte, o_bind, and_true, true_and, and_false, false_and, or_true, true_or, or_false, false_or, not_true, not_false_eq_true, not_false_iff, ne_eq, Nat.reduceAdd, Nat.reduceMul, Nat.reduceSub, Nat.reduceDiv, Nat.reduceMod, Nat.reduceLT, Nat.reduceLeDiff, Nat.reduceEqDiff, Nat.not_lt, Nat.not_le, q_lit, ↓q_m1, q_om, q_on, q_add, q_mul, q_sub, q_div, q_md, q_ltT, q_ltF, q_leT, q_leF, q_eqT, q_eqF, q_inT, q_inF, q_nn, q_mlt, q_ltm, q_mle, q_lem, q_nem, q_mne]
      exact zW_some rfl
    · simp (disch := omega) only [b_whose_68, f_whose_236, e13, e2, e1, Nat.le_refl, ↓reduceIte, o_bind, and_true, true_and, and_false, false_and, or_true, true_or, or_false, false_or, not_true, not_false_eq_true, not_false_iff, ne_eq, Nat.reduceAdd, Nat.reduceMul, Nat.reduceSub, Nat.reduceDiv, Nat.reduceMod, Nat.reduceLT, Nat.reduceLeDiff, Nat.reduceEqDiff, Nat.not_lt, Nat.not_le, q_lit, ↓q_m1, q_om, q_on, q_add, q_mul, q_sub, q_div, q_md, q_ltT, q_ltF, q_leT, q_leF, q_eqT, q_eqF, q_inT, q_inF, q_nn, q_mlt, q_ltm, q_mle, q_lem, q_nem, q_mne]
      exact zW_some rfl
  · have hgo := ih (U.1 - (i + 1)) (qi w, qi S, oi (tel (fun i => mst S A i U.1 U.1) (i + 1)).1, tlV (tel (fun i => mst S A i U.1 U.1) (i + 1)) (qi 100000000), qi (i + 1), R, M) (by omega) ⟨i + 1, by omega, rfl, rfl⟩
    have hfi := hf i
    have et : tel (fun i => mst S A i U.1 U.1) (i + 1) = if (tel (fun i => mst S A i U.1 U.1) i).1 = none ∨ mst S A i U.1 U.1 < (tel (fun i => mst S A i U.1 U.1) i).2 then (some i, mst S A i U.1 U.1) else tel (fun i => mst S A i U.1 U.1) i := rfl
    rw [et] at hgo
    simp (disch := omega) only [b_whose_68, e13, e2, ↓reduceIte, o_bind, and_true, true_and, and_false, false_and, or_true, true_or, or_false, false_or, not_true, not_false_eq_true, not_false_iff, ne_eq, Nat.reduceAdd, Nat.reduceMul, Nat.reduceSub, Nat.reduceDiv, Nat.reduceMod, Nat.reduceLT, Nat.reduceLeDiff, Nat.reduceEqDiff, Nat.not_lt, Nat.not_le, q_lit, ↓q_m1, q_om, q_on, q_add, q_mul, q_sub, q_div, q_md, q_ltT, q_ltF, q_leT, q_leF, q_eqT, q_eqF, q_inT, q_inF, q_nn, q_mlt, q_ltm, q_mle, q_lem, q_nem, q_mne]
    refine r_92 hR hS hU hA hSb (by omega) ?_
    by_cases hno : (tel (fun i => mst S A i U.1 U.1) i).1 = none
    · rw [if_pos (Or.inl hno)] at hgo
      have ev : tlV (tel (fun i => mst S A i U.1 U.1) i) (qi 100000000) = qi 100000000 := if_pos hno
      rw [ev, if_pos ((q_lt (by omega) (by omega)).mpr (by omega))]
      exact hgo
    · have ev : tlV (tel (fun i => mst S A i U.1 U.1) i) (qi 100000000) = qi (tel (fun i => mst S A i U.1 U.1) i).2 := if_neg hno
      rw [ev]
      by_cases hl : mst S A i U.1 U.1 < (tel (fun i => mst S A i U.1 U.1) i).2
      · rw [if_pos (Or.inr hl)] at hgo
        rw [if_pos ((q_lt (by omega) (by omega)).mpr hl)]
        exact hgo
      · rw [if_neg (by rintro (h | h); exact hno h; exact hl h), ev] at hgo
        rw [if_neg (fun h => hl ((q_lt (by omega) (by omega)).mp h))]
        exact hgo
theorem tel_cg {f g : Nat → Nat} (h : ∀ i, f i = g i) : ∀ i, tel f i = tel g i := by
  intro i
  induction i with
  | zero => rfl
  | succ i ih => simp only [tel, ih, h i]
set_option maxHeartbeats 4000000 in
theorem m_whose {a1 : Int32} (h : JP n K N G V R M) : zX (f_X10_whose N G 0 a1 V L) (f_whose a1 R M) (fun r r' => r = r'.1 ∧ JP n K N G V r'.2.1 r'.2.2) := by
  obtain ⟨u, b, f0, cnt, acts, x, pl, U, A, hi, h⟩ := h
  have hp : JP n K N G V R M := ⟨u, b, f0, cnt, acts, x, pl, U, A, hi, h⟩
  obtain ⟨⟨hn, -, hx, g2, hu, -⟩, -⟩ := id h.1
  obtain ⟨⟨g1, gs, gr, gt⟩, ⟨hU, hA⟩, -⟩ := id h.2.1
  obtain ⟨br, b1, b2, b3, b4⟩ := id h.2.2.2.2.2.1
  have htw := UB_tw hU
  have hb2 : b < 2 := gr.1.1
  have e13 : R 0 13 = qi b := gr.1.2.1
  have e2 : R 2 b = qi U.1 := gr.1.2.2.1
  have e0 : V u 0 = qi U.1 := g1.1.1
  obtain ⟨bt, bs, hbC, hbR⟩ : ∃ bt bs, bagC V br bt bs U.1 ∧ bagR R br bt bs U.1 := by
    refine ⟨fun k => (V 24 k).toNatClampNeg, fun k => (V 25 k).toNatClampNeg, ⟨b1, b2, fun k hk => ?_⟩, ⟨b1, b3, fun k hk => ?_⟩⟩
    · obtain ⟨⟨t, c1, c2, c3⟩, t', d1, d2, d3⟩ := b4 k hk
      dsimp only
      rw [c2, d2, q_nn (by omega), q_nn (by omega)]
      exact ⟨c1, d1, rfl, rfl⟩
    · obtain ⟨⟨t, c1, c2, c3⟩, t', d1, d2, d3⟩ := b4 k hk
      dsimp only
      rw [c2, d2, c3, d3, q_nn (by omega), q_nn (by omega)]
      exact ⟨c1, d1, rfl, rfl⟩
  have hSb := fitS_b (A := A) (bt := bt) (bs := bs) (br := br) U.1
  have hS64 : fitS A bt bs br U.1 < 64 := Nat.lt_of_lt_of_le hSb (Nat.pow_le_pow_right (n := 2) (by decide) htw)
  have hc : zW (f_X10_whose N G 0 a1 V L) (fun r => r = if a1 = qi 0 then qi (fitS A bt bs br U.1) else if a1 = qi 1 then (if fitS A bt bs br U.1 = 0 then qm else oi (tel (fun i => mst (fitS A bt bs br U.1) A i 6 6) U.1).1) else if a1 = qi 2 then (if fitS A bt bs br U.1 = 0 then qm else tlV (tel (fun i => mst (fitS A bt bs br U.1) A i 6 6) U.1) qm) else qm) := by
    unfold f_X10_whose g_X10_whose
    rw [g2, o_bind]
    refine zW_lp (I := fun r q => ∃ i : Nat, i ≤ U.1 ∧ r = U.1 - i ∧ q = (a1, qi (fitS A bt bs br i), qi i)) ?_ FU U.1 _ ⟨0, by omega, by omega, rfl⟩ (FU_big (by omega))
    rintro k r q ⟨i, hi, rfl, rfl⟩ ih
    by_cases hend : i = U.1
    · rw [hend]
      simp (disch := omega) only [b_X10_whose_4, e0, Nat.le_refl, ↓reduceIte, o_bind, and_true, true_and, and_false, false_and, or_true, true_or, or_false, false_or, not_true, not_false_eq_true, not_false_iff, ne_eq, Nat.reduceAdd, Nat.reduceMul, Nat.reduceSub, Nat.reduceDiv, Nat.reduceMod, Nat.reduceLT, Nat.reduceLeDiff, Nat.reduceEqDiff, Nat.not_lt, Nat.not_le, q_lit, ↓q_m1, q_om, q_on, q_add, q_mul, q_sub, q_div, q_md, q_ltT, q_ltF, q_leT, q_leF, q_eqT, q_eqF, q_inT, q_inF, q_nn, q_mlt, q_ltm, q_mle, q_lem, q_nem, q_mne]
      by_cases h0 : a1 = qi 0
      · simp only [h0, ↓reduceIte]
        exact zW_some rfl
      by_cases h1 : a1 = qi 1
      · simp only [h0, ↓reduceIte]
        simp only [h1, ↓reduceIte]
        unfold f_X10_whose_51
        by_cases hz : fitS A bt bs br U.1 = 0
        · simp (disch := omega) only [hz, ↓reduceIte, o_bind, and_true, true_and, and_false, false_and, or_true, true_or, or_false, false_or, not_true, not_false_eq_true, not_false_iff, ne_eq, Nat.reduceAdd, Nat.reduceMul, Nat.reduceSub, Nat.reduceDiv, Nat.reduceMod, Nat.reduceLT, Nat.reduceLeDiff, Nat.reduceEqDiff, Nat.not_lt, Nat.not_le, q_lit, ↓q_m1, q_om, q_on, q_add, q_mul, q_sub, q_div, q_md, q_ltT, q_ltF, q_leT, q_leF, q_eqT, q_eqF, q_inT, q_inF, q_nn, q_mlt, q_ltm, q_mle, q_lem, q_nem, q_mne]
          exact zW_some rfl
        · have e := c_65 (L := L) (w := 1) hx g1 gs hU hA hS64 (Or.inl rfl)
          simp (disch := omega) only [hz, e, ↓reduceIte, o_bind, and_true, true_and, and_false, false_and, or_true, true_or, or_false, false_or, not_true, not_false_eq_true, not_false_iff, ne_eq, Nat.reduceAdd, Nat.reduceMul, Nat.reduceSub, Nat.reduceDiv, Nat.reduceMod, Nat.reduceLT, Nat.reduceLeDiff, Nat.reduceEqDiff, Nat.not_lt, Nat.not_le, q_lit, ↓q_m1, q_om, q_on, q_add, q_mul, q_sub, q_div, q_md, q_ltT, q_ltF, q_leT, q_leF, q_eqT, q_eqF, q_inT, q_inF, q_nn, q_mlt, q_ltm, q_mle, q_lem, q_nem, q_mne]
          exact zW_some rfl
      by_cases h2 : a1 = qi 2
      · simp only [h0, h1, ↓reduceIte]
        simp only [h2, ↓reduceIte]
        unfold f_X10_whose_51
        by_cases hz : fitS A bt bs br U.1 = 0
        · simp (disch := omega) only [hz, ↓reduceIte, o_bind, and_true, true_and, and_false, false_and, or_true, true_or, or_false, false_or, not_true, not_false_eq_true, not_false_iff, ne_eq, Nat.reduceAdd, Nat.reduceMul, Nat.reduceSub, Nat.reduceDiv, Nat.reduceMod, Nat.reduceLT, Nat.reduceLeDiff, Nat.reduceEqDiff, Nat.not_lt, Nat.not_le, q_lit, ↓q_m1, q_om, q_on, q_add, q_mul, q_sub, q_div, q_md, q_ltT, q_ltF, q_leT, q_leF, q_eqT, q_eqF, q_inT, q_inF, q_nn, q_mlt, q_ltm, q_mle, q_lem, q_nem, q_mne]
          exact zW_some rfl
        · have e := c_65 (L := L) (w := 2) hx g1 gs hU hA hS64 (Or.inr rfl)
          simp (disch := omega) only [hz, e, ↓reduceIte, o_bind, and_true, true_and, and_false, false_and, or_true, true_or, or_false, false_or, not_true, not_false_eq_true, not_false_iff, ne_eq, Nat.reduceAdd, Nat.reduceMul, Nat.reduceSub, Nat.reduceDiv, Nat.reduceMod, Nat.reduceLT, Nat.reduceLeDiff, Nat.reduceEqDiff, Nat.not_lt, Nat.not_le, q_lit, ↓q_m1, q_om, q_on, q_add, q_mul, q_sub, q_div, q_md, q_ltT, q_ltF, q_leT, q_leF, q_eqT, q_eqF, q_inT, q_inF, q_nn, q_mlt, q_ltm, q_mle, q_lem, q_nem, q_mne]
          exact zW_some rfl
      · simp only [h0, h1, h2, ↓reduceIte]
        exact zW_some rfl
    · have hfi := c_fits (L := L) hx gs hU hA hbC (t := i) (by omega)
      have hq := fitS_q (A := A) (bt := bt) (bs := bs) (br := br) (i := i) (by omega)
      have hq' : qi (fitS A bt bs br i) ||| (qi 1 <<< (qi i &&& qi 31)) = qi (fitS A bt bs br i + 2 ^ i) := hq
      have hgo := ih (U.1 - (i + 1)) (a1, qi (fitS A bt bs br (i + 1)), qi (i + 1)) (by omega) ⟨i + 1, by omega, rfl, rfl⟩
      have ef : fitS A bt bs br (i + 1) = if fitB A bt bs br i = true then fitS A bt bs br i + 2 ^ i else fitS A bt bs br i := rfl
      rw [ef] at hgo
      by_cases hb : fitB A bt bs br i = true
      · rw [if_pos hb] at hgo hfi
        simp (disch := omega) only [b_X10_whose_4, e0, hfi, hq', ↓reduceIte, o_bind, and_true, true_and, and_false, false_and, or_true, true_or, or_false, false_or, not_true, not_false_eq_true, not_false_iff, ne_eq, Nat.reduceAdd, Nat.reduceMul, Nat.reduceSub, Nat.reduceDiv, Nat.reduceMod, Nat.reduceLT, Nat.reduceLeDiff, Nat.reduceEqDiff, Nat.not_lt, Nat.not_le, q_lit, ↓q_m1, q_om, q_on, q_add, q_mul, q_sub, q_div, q_md, q_ltT, q_ltF, q_leT, q_leF, q_eqT, q_eqF, q_inT, q_inF, q_nn, q_mlt, q_ltm, q_mle, q_lem, q_nem, q_mne]
        exact hgo
      · rw [if_neg hb] at hgo hfi
        simp (disch := omega) only [b_X10_whose_4, e0, hfi, ↓reduceIte, o_bind, and_true, true_and, and_false, false_and, or_true, true_or, or_false, false_or, not_true, not_false_eq_true, not_false_iff, ne_eq, Nat.reduceAdd, Nat.reduceMul, Nat.reduceSub, Nat.reduceDiv, Nat.reduceMod, Nat.reduceLT, Nat.reduceLeDiff, Nat.reduceEqDiff, Nat.not_lt, Nat.not_le, q_lit, ↓q_m1, q_om, q_on, q_add, q_mul, q_sub, q_div, q_md, q_ltT, q_ltF, q_leT, q_leF, q_eqT, q_eqF, q_inT, q_inF, q_nn, q_mlt, q_ltm, q_mle, q_lem, q_nem, q_mne]
        exact hgo
  refine zX_W (zW_mono hc ?_)
  rintro y rfl
  unfold f_whose f_is
  rcases q_cases a1 with h3 | ⟨w, hw, rfl⟩
  · obtain ⟨k0, k1, k2, -⟩ := q_ne3 h3
    simp (disch := omega) only [h3, k0, k1, k2, ↓reduceIte, o_bind, and_true, true_and, and_false, false_and, or_true, true_or, or_false, false_or, not_true, not_false_eq_true, not_false_iff, ne_eq, Nat.reduceAdd, Nat.reduceMul, Nat.reduceSub, Nat.reduceDiv, Nat.reduceMod, Nat.reduceLT, Nat.reduceLeDiff, Nat.reduceEqDiff, Nat.not_lt, Nat.not_le, q_lit, ↓q_m1, q_om, q_on, q_add, q_mul, q_sub, q_div, q_md, q_ltT, q_ltF, q_leT, q_leF, q_eqT, q_eqF, q_inT, q_inF, q_nn, q_mlt, q_ltm, q_mle, q_lem, q_nem, q_mne]
    exact zW_some ⟨rfl, hp⟩
  by_cases hw2 : w ≤ 2
  · simp (disch := omega) only [↓reduceIte, o_bind, and_true, true_and, and_false, false_and, or_true, true_or, or_false, false_or, not_true, not_false_eq_true, not_false_iff, ne_eq, Nat.reduceAdd, Nat.reduceMul, Nat.reduceSub, Nat.reduceDiv, Nat.reduceMod, Nat.reduceLT, Nat.reduceLeDiff, Nat.reduceEqDiff, Nat.not_lt, Nat.not_le, q_lit, ↓q_m1, q_om, q_on, q_add, q_mul, q_sub, q_div, q_md, q_ltT, q_ltF, q_leT, q_leF, q_eqT, q_eqF, q_inT, q_inF, q_nn, q_mlt, q_ltm, q_mle, q_lem, q_nem, q_mne]
    refine zW_lp (I := fun r q => ∃ i : Nat, i ≤ U.1 ∧ r = U.1 - i ∧ q = (qi w, qi (fitS A bt bs br i), qi i, R, M)) ?_ FU U.1 _ ⟨0, by omega, by omega, rfl⟩ (FU_big (by omega))
    rintro k r q ⟨i, hi, rfl, rfl⟩ ih
    by_cases hend : i = U.1
    · rw [hend]
      by_cases w0 : w = 0
      · simp (disch := omega) only [b_whose_15, e13, e2, w0, Nat.le_refl, ↓reduceIte, o_bind, and_true, true_and, and_false, false_and, or_true, true_or, or_false, false_or, not_true, not_false_eq_true, not_false_iff, ne_eq, Nat.reduceAdd, Nat.reduceMul, Nat.reduceSub, Nat.reduceDiv, Nat.reduceMod, Nat.reduceLT, Nat.reduceLeDiff, Nat.reduceEqDiff, Nat.not_lt, Nat.not_le, q_lit, ↓q_m1, q_om, q_on, q_add, q_mul, q_sub, q_div, q_md, q_ltT, q_ltF, q_leT, q_leF, q_eqT, q_eqF, q_inT, q_inF, q_nn, q_mlt, q_ltm, q_mle, q_lem, q_nem, q_mne]
        exact zW_some ⟨rfl, hp⟩
      · have hw12 : w = 1 ∨ w = 2 := by omega
        by_cases hz : fitS A bt bs br U.1 = 0
        · have ans : zfix b_whose_68 FU (qi w, qi 0, qm, qi 100000000, qi 0, R, M) = some (qm, R, M) := by
            rw [show FU = 9999999 + 1 from rfl, z_fix1]
            by_cases ht0 : U.1 = 0
            · simp (disch := omega) only [b_whose_68, f_whose_236, e13, e2, ht0, Nat.le_refl, ↓reduceIte, o_bind, and_true, true_and, and_false, false_and, or_true, true_or, or_false, false_or, not_true, not_false_eq_true, not_false_iff, ne_eq, Nat.reduceAdd, Nat.reduceMul, Nat.reduceSub, Nat.reduceDiv, Nat.reduceMod, Nat.reduceLT, Nat.reduceLeDiff, Nat.reduceEqDiff, Nat.not_lt, Nat.not_le, q_lit, ↓q_m1, q_om, q_on, q_add, q_mul, q_sub, q_div, q_md, q_ltT, q_ltF, q_leT, q_leF, q_eqT, q_eqF, q_inT, q_inF, q_nn, q_mlt, q_ltm, q_mle, q_lem, q_nem, q_mne]
            · simp (disch := omega) only [b_whose_68, f_whose_236, e13, e2, ↓reduceIte, o_bind, and_true, true_and, and_false, false_and, or_true, true_or, or_false, false_or, not_true, not_false_eq_true, not_false_iff, ne_eq, Nat.reduceAdd, Nat.reduceMul, Nat.reduceSub, Nat.reduceDiv, Nat.reduceMod, Nat.reduceLT, Nat.reduceLeDiff, Nat.reduceEqDiff, Nat.not_lt, Nat.not_le, q_lit, ↓q_m1, q_om, q_on, q_add, q_mul, q_sub, q_div, q_md, q_ltT, q_ltF, q_leT, q_leF, q_eqT, q_eqF, q_inT, q_inF, q_nn, q_mlt, q_ltm, q_mle, q_lem, q_nem, q_mne]
          rw [hz]
          rcases hw12 with rfl | rfl
          · simp (disch := omega) only [b_whose_15, e13, e2, Nat.le_refl, ans, ↓reduceIte, o_bind, and_true, true_and, and_false, false_and, or_true, true_or, or_false, false_or, not_true, not_false_eq_true, not_false_iff, ne_eq, Nat.reduceAdd, Nat.reduceMul, Nat.reduceSub, Nat.reduceDiv, Nat.reduceMod, Nat.reduceLT, Nat.reduceLeDiff, Nat.reduceEqDiff, Nat.not_lt, Nat.not_le, q_lit, ↓q_m1, q_om, q_on, q_add, q_mul, q_sub, q_div, q_md, q_ltT, q_ltF, q_leT, q_leF, q_eqT, q_eqF, q_inT, q_inF, q_nn, q_mlt, q_ltm, q_mle, q_lem, q_nem, q_mne]
            exact zW_some ⟨rfl, hp⟩
          · simp (disch := omega) only [b_whose_15, e13, e2, Nat.le_refl, ans, ↓reduceIte, o_bind, and_true, true_and, and_false, false_and, or_true, true_or, or_false, false_or, not_true, not_false_eq_true, not_false_iff, ne_eq, Nat.reduceAdd, Nat.reduceMul, Nat.reduceSub, Nat.reduceDiv, Nat.reduceMod, Nat.reduceLT, Nat.reduceLeDiff, Nat.reduceEqDiff, Nat.not_lt, Nat.not_le, q_lit, ↓q_m1, q_om, q_on, q_add, q_mul, q_sub, q_div, q_md, q_ltT, q_ltF, q_leT, q_leF, q_eqT, q_eqF, q_inT, q_inF, q_nn, q_mlt, q_ltm, q_mle, q_lem, q_nem, q_mne]
            exact zW_some ⟨rfl, hp⟩
        · have ht1 : 1 ≤ U.1 := by
            by_cases ht0 : U.1 = 0
            · rw [ht0] at hz
              exact absurd rfl hz
            · omega
          have ans := r_68 (S := fitS A bt bs br U.1) gr gt hU hA hS64 hz hw12 ht1
          have ecg : tel (fun i => mst (fitS A bt bs br U.1) A i U.1 U.1) U.1 = tel (fun i => mst (fitS A bt bs br U.1) A i 6 6) U.1 := tel_cg (fun i => (mst_eq hSb htw).symm) U.1
          rw [ecg] at ans
          rcases hw12 with rfl | rfl
          · simp (disch := omega) only [b_whose_15, e13, e2, Nat.le_refl, ans, hz, ↓reduceIte, o_bind, and_true, true_and, and_false, false_and, or_true, true_or, or_false, false_or, not_true, not_false_eq_true, not_false_iff, ne_eq, Nat.reduceAdd, Nat.reduceMul, Nat.reduceSub, Nat.reduceDiv, Nat.reduceMod, Nat.reduceLT, Nat.reduceLeDiff, Nat.reduceEqDiff, Nat.not_lt, Nat.not_le, q_lit, ↓q_m1, q_om, q_on, q_add, q_mul, q_sub, q_div, q_md, q_ltT, q_ltF, q_leT, q_leF, q_eqT, q_eqF, q_inT, q_inF, q_nn, q_mlt, q_ltm, q_mle, q_lem, q_nem, q_mne]
            exact zW_some ⟨rfl, hp⟩
          · simp (disch := omega) only [b_whose_15, e13, e2, Nat.le_refl, ans, hz, ↓reduceIte, o_bind, and_true, true_and, and_false, false_and, or_true, true_or, or_false, false_or, not_true, not_false_eq_true, not_false_iff, ne_eq, Nat.reduceAdd, Nat.reduceMul, Nat.reduceSub, Nat.reduceDiv, Nat.reduceMod, Nat.reduceLT, Nat.reduceLeDiff, Nat.reduceEqDiff, Nat.not_lt, Nat.not_le, q_lit, ↓q_m1, q_om, q_on, q_add, q_mul, q_sub, q_div, q_md, q_ltT, q_ltF, q_leT, q_leF, q_eqT, q_eqF, q_inT, q_inF, q_nn, q_mlt, q_ltm, q_mle, q_lem, q_nem, q_mne]
            exact zW_some ⟨rfl, hp⟩
    · have hfi := r_isBg (M := M) gt hU hA hbR (t := i) (by omega)
      have hq := fitS_q (A := A) (bt := bt) (bs := bs) (br := br) (i := i) (by omega)
      have hq' : qi (fitS A bt bs br i) ||| (qi 1 <<< (qi i &&& qi 31)) = qi (fitS A bt bs br i + 2 ^ i) := hq
      have hz' : qi (fitS A bt bs br i) ||| qi 0 = qi (fitS A bt bs br i) := by
        have h1 := fitS_b (A := A) (bt := bt) (bs := bs) (br := br) i
        have h2 : 2 ^ i ≤ 2 ^ 6 := Nat.pow_le_pow_right (by decide) (by omega)
        rw [q_or (by omega) (by omega), Nat.or_zero]
      have hgo := ih (U.1 - (i + 1)) (qi w, qi (fitS A bt bs br (i + 1)), qi (i + 1), R, M) (by omega) ⟨i + 1, by omega, rfl, rfl⟩
      have ef : fitS A bt bs br (i + 1) = if fitB A bt bs br i = true then fitS A bt bs br i + 2 ^ i else fitS A bt bs br i := rfl
      rw [ef] at hgo
      by_cases hb : fitB A bt bs br i = true
      · rw [if_pos hb] at hgo hfi
        simp (disch := omega) only [b_whose_15, e13, e2, hfi, hq', ↓reduceIte, o_bind, and_true, true_and, and_false, false_and, or_true, true_or, or_false, false_or, not_true, not_false_eq_true, not_false_iff, ne_eq, Nat.reduceAdd, Nat.reduceMul, Nat.reduceSub, Nat.reduceDiv, Nat.reduceMod, Nat.reduceLT, Nat.reduceLeDiff, Nat.reduceEqDiff, Nat.not_lt, Nat.not_le, q_lit, ↓q_m1, q_om, q_on, q_add, q_mul, q_sub, q_div, q_md, q_ltT, q_ltF, q_leT, q_leF, q_eqT, q_eqF, q_inT, q_inF, q_nn, q_mlt, q_ltm, q_mle, q_lem, q_nem, q_mne]
        exact hgo
      · rw [if_neg hb] at hgo hfi
        simp (disch := omega) only [b_whose_15, e13, e2, hfi, hz', ↓reduceIte, o_bind, and_true, true_and, and_false, false_and, or_true, true_or, or_false, false_or, not_true, not_false_eq_true, not_false_iff, ne_eq, Nat.reduceAdd, Nat.reduceMul, Nat.reduceSub, Nat.reduceDiv, Nat.reduceMod, Nat.reduceLT, Nat.reduceLeDiff, Nat.reduceEqDiff, Nat.not_lt, Nat.not_le, q_lit, ↓q_m1, q_om, q_on, q_add, q_mul, q_sub, q_div, q_md, q_ltT, q_ltF, q_leT, q_leF, q_eqT, q_eqF, q_inT, q_inF, q_nn, q_mlt, q_ltm, q_mle, q_lem, q_nem, q_mne]
        exact hgo
  · simp (disch := omega) only [↓reduceIte, o_bind, and_true, true_and, and_false, false_and, or_true, true_or, or_false, false_or, not_true, not_false_eq_true, not_false_iff, ne_eq, Nat.reduceAdd, Nat.reduceMul, Nat.reduceSub, Nat.reduceDiv, Nat.reduceMod, Nat.reduceLT, Nat.reduceLeDiff, Nat.reduceEqDiff, Nat.not_lt, Nat.not_le, q_lit, ↓q_m1, q_om, q_on, q_add, q_mul, q_sub, q_div, q_md, q_ltT, q_ltF, q_leT, q_leF, q_eqT, q_eqF, q_inT, q_inF, q_nn, q_mlt, q_ltm, q_mle, q_lem, q_nem, q_mne]
    exact zW_some ⟨rfl, hp⟩
end
