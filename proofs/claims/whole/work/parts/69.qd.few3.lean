section
variable {n : Nat} {K N : Nat → Nat} {G : zG} {V R : zI} {L M : zL} {u b f0 cnt acts x : Nat} {pl : Nat → Nat} {U : aU} {A : aS} {hi : Nat → aS} {o q tw : Nat} {md : Option (Nat × Nat)} {can met : Nat → Bool}
def mdR (R : zI) (md : Option (Nat × Nat)) : Prop := match md with
  | none => R 0 57 = qm
  | some (f, g) => R 0 57 = qi f ∧ R 0 58 = qi g ∧ f < 6 ∧ g < 6
def rB (R R' : zI) : Prop := ∀ w, w ≠ 30 → w ≠ 31 → R' w = R w
theorem rB_tr {R1 R2 : zI} (h : rB R R1) (g : rB R1 R2) : rB R R2 := fun w a c => (g w a c).trans (h w a c)
theorem rB_UR {R' : zI} (h : rB R R') (hR : UR R M b U) : UR R' M b U := UR_fr hR (by rw [h 0 (by omega) (by omega)]) (fun w w1 w2 w3 w4 => h w (by omega) (by omega)) rfl
theorem rB_SR {R' : zI} (h : rB R R') (hS : SR R 0 A) : SR R' 0 A := SR_fr hS (fun w w1 w2 => h w (by omega) (by omega))
theorem rB_md {R' : zI} (h : rB R R') (hm : mdR R md) : mdR R' md := by
  unfold mdR at hm ⊢
  rw [h 0 (by omega) (by omega)]
  exact hm
theorem r_canCh {p : Nat} (hp : p < 36) (hR : UR R M b U) (hS : SR R 0 A) (hU : UB U) (hA : SB U A) (hm : mdR R md) : f_canChange (qi p) R M = some (qi (canB md U.2.2.1 (opO U A) p).toNat, R, M) := by
  have htw := UB_tw hU
  have htb := opO_tb (U := U) (A := A) hp
  have hip := f_isPair_e hR hU (x := p / 6) (y := p % 6) (by omega) (by omega)
  have epp : 6 * (p / 6) + p % 6 = p := by omega
  have hiw0 : 0 < U.1 → f_isWay (qi (p / 6)) (qi (p % 6)) R M = some (if 0 < U.2.2.1 p then qi 1 else qi 0, R, M) := fun h0 => by
    have := f_isWay_e (L := M) hR hU (x := p / 6) (y := p % 6) (by omega) (by omega) h0
    rw [epp] at this
    exact this
  have hwp := (hU.2.1 p hp).2
  have hh := SB_held hA hp
  have d : R 21 p = qi (A.2.1 p) := by have := hS.2.1 _ hp; rw [Nat.mul_zero, Nat.zero_add] at this; exact this
  unfold f_canChange
  by_cases hw0 : 0 < U.2.2.1 p
  · have hpr := hwp hw0
    have hiw := hiw0 (by omega)
    by_cases hh0 : 0 < A.2.1 p
    · have ho1 : opc U A p = true := decide_eq_true ⟨hw0, hh0⟩
      match md, hm with
      | none, hm =>
        have e : canB none U.2.2.1 (opO U A) p = false := by
          show (decide (0 < U.2.2.1 p) && !((opO U A).testBit p)) = false
          rw [htb, ho1]; simp
        have hm : R 0 57 = qm := hm
        rw [e]
        simp (disch := omega) only [hip, hpr, and_self, hiw, hw0, f_at, epp, d, f_canChange_48, f_canChange_61, hm, ↓reduceIte, o_bind, and_true, true_and, and_false, false_and, or_true, true_or, or_false, false_or, not_true, not_false_eq_true, not_false_iff, ne_eq, Nat.reduceAdd, Nat.reduceMul, Nat.reduceSub, Nat.reduceDiv, Nat.reduceMod, Nat.reduceLT, Nat.reduceLeDiff, Nat.reduceEqDiff, Nat.not_lt, Nat.not_le, Nat.add_zero, Nat.zero_add, Nat.mul_zero, Nat.zero_mul, q_lit, ↓q_m1, q_om, q_on, q_add, q_mul, q_sub, q_div, q_md, q_ltT, q_ltF, q_leT, q_leF, q_eqT, q_eqF, q_inT, q_inF, q_nn, q_mlt, q_ltm, q_mle, q_lem, q_nem, q_mne]
        rfl
      | some (f, g), hm =>
        have e : canB (some (f, g)) U.2.2.1 (opO U A) p = true := by
          show (opO U A).testBit p = true
          rw [htb, ho1]
        obtain ⟨m1, m2, m3, m4⟩ := hm
        rw [e]
        simp (disch := omega) only [hip, hpr, and_self, hiw, hw0, f_at, epp, d, f_canChange_48, f_canChange_61, m1, ↓reduceIte, o_bind, and_true, true_and, and_false, false_and, or_true, true_or, or_false, false_or, not_true, not_false_eq_true, not_false_iff, ne_eq, Nat.reduceAdd, Nat.reduceMul, Nat.reduceSub, Nat.reduceDiv, Nat.reduceMod, Nat.reduceLT, Nat.reduceLeDiff, Nat.reduceEqDiff, Nat.not_lt, Nat.not_le, Nat.add_zero, Nat.zero_add, Nat.mul_zero, Nat.zero_mul, q_lit, ↓q_m1, q_om, q_on, q_add, q_mul, q_sub, q_div, q_md, q_ltT, q_ltF, q_leT, q_leF, q_eqT, q_eqF, q_inT, q_inF, q_nn, q_mlt, q_ltm, q_mle, q_lem, q_nem, q_mne]
        rfl
    · have ho1 : opc U A p = false := decide_eq_false (fun h => hh0 h.2)
      match md, hm with
      | none, hm =>
        have e : canB none U.2.2.1 (opO U A) p = true := by
          show (decide (0 < U.2.2.1 p) && !((opO U A).testBit p)) = true
          rw [htb, ho1, decide_eq_true hw0]; rfl
        have hm : R 0 57 = qm := hm
        rw [e]
        simp (disch := omega) only [hip, hpr, and_self, hiw, hw0, f_at, epp, d, f_canChange_48, f_canChange_61, hm, ↓reduceIte, o_bind, and_true, true_and, and_false, false_and, or_true, true_or, or_false, false_or, not_true, not_false_eq_true, not_false_iff, ne_eq, Nat.reduceAdd, Nat.reduceMul, Nat.reduceSub, Nat.reduceDiv, Nat.reduceMod, Nat.reduceLT, Nat.reduceLeDiff, Nat.reduceEqDiff, Nat.not_lt, Nat.not_le, Nat.add_zero, Nat.zero_add, Nat.mul_zero, Nat.zero_mul, q_lit, ↓q_m1, q_om, q_on, q_add, q_mul, q_sub, q_div, q_md, q_ltT, q_ltF, q_leT, q_leF, q_eqT, q_eqF, q_inT, q_inF, q_nn, q_mlt, q_ltm, q_mle, q_lem, q_nem, q_mne]
        rfl
      | some (f, g), hm =>
        have e : canB (some (f, g)) U.2.2.1 (opO U A) p = false := by
          show (opO U A).testBit p = false
          rw [htb, ho1]
        obtain ⟨m1, m2, m3, m4⟩ := hm
        rw [e]
        simp (disch := omega) only [hip, hpr, and_self, hiw, hw0, f_at, epp, d, f_canChange_48, f_canChange_61, m1, ↓reduceIte, o_bind, and_true, true_and, and_false, false_and, or_true, true_or, or_false, false_or, not_true, not_false_eq_true, not_false_iff, ne_eq, Nat.reduceAdd, Nat.reduceMul, Nat.reduceSub, Nat.reduceDiv, Nat.reduceMod, Nat.reduceLT, Nat.reduceLeDiff, Nat.reduceEqDiff, Nat.not_lt, Nat.not_le, Nat.add_zero, Nat.zero_add, Nat.mul_zero, Nat.zero_mul, q_lit, ↓q_m1, q_om, q_on, q_add, q_mul, q_sub, q_div, q_md, q_ltT, q_ltF, q_leT, q_leF, q_eqT, q_eqF, q_inT, q_inF, q_nn, q_mlt, q_ltm, q_mle, q_lem, q_nem, q_mne]
        rfl
  · have ho1 : opc U A p = false := decide_eq_false (fun h => hw0 h.1)
    have e : canB md U.2.2.1 (opO U A) p = false := by
      match md with
      | none =>
        show (decide (0 < U.2.2.1 p) && !((opO U A).testBit p)) = false
        rw [decide_eq_false hw0]; rfl
      | some (f, g) =>
        show (opO U A).testBit p = false
        rw [htb, ho1]
    rw [e]
    by_cases hpr : p / 6 < U.1 ∧ p % 6 < U.1 ∧ p / 6 ≠ p % 6
    · have hiw := hiw0 (by omega)
      simp (disch := omega) only [hip, hpr, and_self, hiw, hw0, ↓reduceIte, o_bind, and_true, true_and, and_false, false_and, or_true, true_or, or_false, false_or, not_true, not_false_eq_true, not_false_iff, ne_eq, Nat.reduceAdd, Nat.reduceMul, Nat.reduceSub, Nat.reduceDiv, Nat.reduceMod, Nat.reduceLT, Nat.reduceLeDiff, Nat.reduceEqDiff, Nat.not_lt, Nat.not_le, Nat.add_zero, Nat.zero_add, Nat.mul_zero, Nat.zero_mul, q_lit, ↓q_m1, q_om, q_on, q_add, q_mul, q_sub, q_div, q_md, q_ltT, q_ltF, q_leT, q_leF, q_eqT, q_eqF, q_inT, q_inF, q_nn, q_mlt, q_ltm, q_mle, q_lem, q_nem, q_mne]
      rfl
    · simp (disch := omega) only [hip, hpr, ↓reduceIte, o_bind, and_true, true_and, and_false, false_and, or_true, true_or, or_false, false_or, not_true, not_false_eq_true, not_false_iff, ne_eq, Nat.reduceAdd, Nat.reduceMul, Nat.reduceSub, Nat.reduceDiv, Nat.reduceMod, Nat.reduceLT, Nat.reduceLeDiff, Nat.reduceEqDiff, Nat.not_lt, Nat.not_le, Nat.add_zero, Nat.zero_add, Nat.mul_zero, Nat.zero_mul, q_lit, ↓q_m1, q_om, q_on, q_add, q_mul, q_sub, q_div, q_md, q_ltT, q_ltF, q_leT, q_leF, q_eqT, q_eqF, q_inT, q_inF, q_nn, q_mlt, q_ltm, q_mle, q_lem, q_nem, q_mne]
      rfl
theorem r_isWide (hR : UR R M b U) (hU : UB U) (hg : gR R o) : f_isWide R M = some (qi (metB U.1 none o).toNat, R, M) := by
  have htw := UB_tw hU
  have hb : b < 2 := hR.1.1
  have e13 : R 0 13 = qi b := hR.1.2.1
  have e2 : R 2 b = qi U.1 := hR.1.2.2.1
  have h64 : 2 ^ U.1 ≤ 2 ^ 6 := Nat.pow_le_pow_right (by decide) htw
  have eall : (qi 1 <<< (qi U.1 &&& qi 31)) - qi 1 = qi (2 ^ U.1 - 1) := qb_all htw
  apply zW_of
  unfold f_isWide
  refine zW_lp (I := fun r s => ∃ i : Nat, i ≤ U.1 ∧ r = U.1 - i ∧ s = (qi i, R, M) ∧ ∀ t, t < i → rch o t = 2 ^ U.1 - 1) ?_ FU U.1 _ ⟨0, by omega, by omega, rfl, fun t h => absurd h (by omega)⟩ (FU_big (by omega))
  rintro k r s ⟨i, hi, rfl, rfl, hk⟩ ih
  by_cases hend : i = U.1
  · rw [hend] at hk
    simp (disch := omega) only [b_isWide_2, e13, e2, hend, Nat.le_refl, ↓reduceIte, o_bind, and_true, true_and, and_false, false_and, or_true, true_or, or_false, false_or, not_true, not_false_eq_true, not_false_iff, ne_eq, Nat.reduceAdd, Nat.reduceMul, Nat.reduceSub, Nat.reduceDiv, Nat.reduceMod, Nat.reduceLT, Nat.reduceLeDiff, Nat.reduceEqDiff, Nat.not_lt, Nat.not_le, q_lit, ↓q_m1, q_om, q_on, q_add, q_mul, q_sub, q_div, q_md, q_ltT, q_ltF, q_leT, q_leF, q_eqT, q_eqF, q_inT, q_inF, q_nn, q_mlt, q_ltm, q_mle, q_lem, q_nem, q_mne]
    refine zW_some ?_
    have : metB U.1 none o = true := by
      unfold metB
      dsimp only
      rw [List.all_eq_true]
      intro t ht
      rw [beq_iff_eq]
      exact hk t (List.mem_range.mp ht)
    rw [this]
    rfl
  · have ec := r_wordF (M := M) (t := i) (by omega) hg
    have hrb := rch_b (o := o) (t := i) (by omega)
    by_cases he : rch o i = 2 ^ U.1 - 1
    · simp (disch := omega) only [b_isWide_2, e13, e2, ec, eall, ↓reduceIte, o_bind, and_true, true_and, and_false, false_and, or_true, true_or, or_false, false_or, not_true, not_false_eq_true, not_false_iff, ne_eq, Nat.reduceAdd, Nat.reduceMul, Nat.reduceSub, Nat.reduceDiv, Nat.reduceMod, Nat.reduceLT, Nat.reduceLeDiff, Nat.reduceEqDiff, Nat.not_lt, Nat.not_le, q_lit, q_ltT, q_ltF, q_leT, q_leF, q_inT, q_nn, q_add]
      rw [if_pos (by rw [he])]
      refine ih (U.1 - (i + 1)) _ (by omega) ⟨i + 1, by omega, rfl, rfl, fun t ht => ?_⟩
      by_cases hti : t = i
      · subst hti; exact he
      · exact hk t (by omega)
    · simp (disch := omega) only [b_isWide_2, e13, e2, ec, eall, ↓reduceIte, o_bind, and_true, true_and, and_false, false_and, or_true, true_or, or_false, false_or, not_true, not_false_eq_true, not_false_iff, ne_eq, Nat.reduceAdd, Nat.reduceMul, Nat.reduceSub, Nat.reduceDiv, Nat.reduceMod, Nat.reduceLT, Nat.reduceLeDiff, Nat.reduceEqDiff, Nat.not_lt, Nat.not_le, q_lit, q_ltT, q_ltF, q_leT, q_leF, q_inT, q_nn, q_add]
      rw [if_neg (fun h => he ((q_eq (by omega) (by omega)).mp h))]
      refine zW_some ?_
      have : metB U.1 none o = false := by
        cases hm : metB U.1 none o with
        | false => rfl
        | true =>
          unfold metB at hm
          dsimp only at hm
          rw [List.all_eq_true] at hm
          have := hm i (List.mem_range.mpr (by omega))
          rw [beq_iff_eq] at this
          exact absurd this he
      rw [this]
      rfl
theorem r_isDone (hR : UR R M b U) (hU : UB U) (hm : mdR R md) (hg : gR R o) : f_isDone R M = some (qi (metB U.1 md o).toNat, R, M) := by
  unfold f_isDone
  match md, hm with
  | none, hm =>
    have hm : R 0 57 = qm := hm
    simp (disch := omega) only [hm, r_isWide hR hU hg, ↓reduceIte, o_bind, and_true, true_and, and_false, false_and, or_true, true_or, or_false, false_or, not_true, not_false_eq_true, not_false_iff, ne_eq, Nat.reduceAdd, Nat.reduceMul, Nat.reduceSub, Nat.reduceDiv, Nat.reduceMod, Nat.reduceLT, Nat.reduceLeDiff, Nat.reduceEqDiff, Nat.not_lt, Nat.not_le, q_lit, ↓q_m1, q_om, q_on, q_add, q_mul, q_sub, q_div, q_md, q_ltT, q_ltF, q_leT, q_leF, q_eqT, q_eqF, q_inT, q_inF, q_nn, q_mlt, q_ltm, q_mle, q_lem, q_nem, q_mne]
    rw [if_pos (zB_t _)]
  | some (f, g), hm =>
    obtain ⟨m1, m2, m3, m4⟩ := hm
    have hrb := rch_b (o := o) (t := f) (by omega)
    have h2 := r_has2t (s := rch o f) hrb (a := g) m4
    show _ = some (qi (!((rch o f).testBit g)).toNat, R, M)
    cases hb : (rch o f).testBit g with
    | false =>
      rw [hb] at h2
      simp (disch := omega) only [m1, m2, r_wordF m3 hg, h2, show false.toNat = 0 from rfl, ↓reduceIte, o_bind, and_true, true_and, and_false, false_and, or_true, true_or, or_false, false_or, not_true, not_false_eq_true, not_false_iff, ne_eq, Nat.reduceAdd, Nat.reduceMul, Nat.reduceSub, Nat.reduceDiv, Nat.reduceMod, Nat.reduceLT, Nat.reduceLeDiff, Nat.reduceEqDiff, Nat.not_lt, Nat.not_le, q_lit, ↓q_m1, q_om, q_on, q_add, q_mul, q_sub, q_div, q_md, q_ltT, q_ltF, q_leT, q_leF, q_eqT, q_eqF, q_inT, q_inF, q_nn, q_mlt, q_ltm, q_mle, q_lem, q_nem, q_mne]
      rfl
    | true =>
      rw [hb] at h2
      simp (disch := omega) only [m1, m2, r_wordF m3 hg, h2, show true.toNat = 1 from rfl, ↓reduceIte, o_bind, and_true, true_and, and_false, false_and, or_true, true_or, or_false, false_or, not_true, not_false_eq_true, not_false_iff, ne_eq, Nat.reduceAdd, Nat.reduceMul, Nat.reduceSub, Nat.reduceDiv, Nat.reduceMod, Nat.reduceLT, Nat.reduceLeDiff, Nat.reduceEqDiff, Nat.not_lt, Nat.not_le, q_lit, ↓q_m1, q_om, q_on, q_add, q_mul, q_sub, q_div, q_md, q_ltT, q_ltF, q_leT, q_leF, q_eqT, q_eqF, q_inT, q_inF, q_nn, q_mlt, q_ltm, q_mle, q_lem, q_nem, q_mne]
      rfl
/-! lists that grow -/
theorem inc_drop : ∀ (l : List Nat) (lo i : Nat), incL lo l → i < l.length → ∀ y ∈ l.drop (i + 1), l.getD i 0 < y := by
  intro l
  induction l with
  | nil => intro lo i _ hi; simp at hi
  | cons a l ih =>
    rintro lo i ⟨h1, h2⟩ hi y hy
    match i with
    | 0 =>
      have := incL_lt l _ h2 y hy
      exact this
    | i + 1 => exact ih _ i h2 (by simpa using hi) y hy
theorem inc_take : ∀ (l : List Nat) (lo i : Nat), incL lo l → i < l.length → ∀ y ∈ l.take i, y < l.getD i 0 := by
  intro l
  induction l with
  | nil => intro lo i _ hi; simp at hi
  | cons a l ih =>
    rintro lo i ⟨h1, h2⟩ hi y hy
    match i with
    | 0 => simp at hy
    | i + 1 =>
      have hil : i < l.length := by simpa using hi
      rcases List.mem_cons.mp hy with rfl | hy
      · have hm : l.getD i 0 ∈ l := by
          rw [List.getD_eq_getElem?_getD, List.getElem?_eq_getElem hil]
          exact List.getElem_mem hil
        have := incL_lt l _ h2 _ hm
        exact this
      · exact ih _ i h2 hil y hy
theorem l_take {l : List Nat} {i : Nat} (h : i < l.length) : l.take (i + 1) = l.take i ++ [l.getD i 0] := by
  rw [List.getD_eq_getElem?_getD, List.getElem?_eq_getElem h]
  exact (List.take_append_getElem h).symm
theorem flp_snoc : ∀ (l : List Nat) (o p : Nat), flp o (l ++ [p]) = flp o l ^^^ 2 ^ p := by
  intro l
  induction l with
  | nil => intro o p; rfl
  | cons a l ih => intro o p; exact ih _ _
theorem l_memD {l : List Nat} {i : Nat} (h : i < l.length) : l.getD i 0 ∈ l := by
  rw [List.getD_eq_getElem?_getD, List.getElem?_eq_getElem h]
  exact List.getElem_mem h
def vTry (md : Option (Nat × Nat)) : Nat := match md with
  | none => 1
  | some _ => 0
theorem can_bit {way : Nat → Nat} {p : Nat} (h : canB md way o p = true) : bitN o p = 1 - vTry md ∧ (!o.testBit p).toNat = vTry md := by
  match md, h with
  | none, h =>
    have h : (decide (0 < way p) && !(o.testBit p)) = true := h
    rw [Bool.and_eq_true] at h
    have hb : o.testBit p = false := by simpa using h.2
    exact ⟨bitN_0.mpr hb, by rw [hb]; rfl⟩
  | some _, h =>
    have h : o.testBit p = true := h
    exact ⟨bitN_1.mpr h, by rw [h]; rfl⟩
set_option maxHeartbeats 4000000 in
theorem r_191 {way : Nat → Nat} {l : List Nat} {ra r : Int32} {y : Nat} {k35 : Int32 × Int32 × Int32 × zI × zL → Option (Int32 × zI × zL)} {P : Int32 × zI × zL → Prop} (hm : mdR R md) (hl3 : l.length ≤ 3) (hinc : incL 0 l) (hcan : ∀ p ∈ l, p < 36 ∧ canB md way o p = true) (hch : ∀ k, k < l.length → R 31 k = qi (l.getD k 0)) (hg : gR R (flp o l)) (hk : ∀ R', gR R' o → (∀ w, w ≠ 30 → R' w = R w) → zW (if qi y = qi 0 then k35 (qi l.length, ra, r + qi 1, R', M) else some (qi 1, R', M)) P) : zW (zfix (b_isBy_191 k35) FU (qi l.length, ra, r, qi y, qi 0, R, M)) P := by
  refine zW_lp (I := fun rr s => ∃ (i : Nat) (R1 : zI), i ≤ l.length ∧ rr = l.length - i ∧ s = (qi l.length, ra, r, qi y, qi i, R1, M) ∧ gR R1 (flp o (l.drop i)) ∧ ∀ w, w ≠ 30 → R1 w = R w) ?_ FU l.length _ ⟨0, R, by omega, by omega, rfl, hg, fun _ _ => rfl⟩ (FU_big (by omega))
  rintro k rr s ⟨i, R1, hi, rfl, rfl, h1, hw⟩ ih
  by_cases hend : i = l.length
  · have e : l.drop i = [] := by rw [hend, List.drop_length]
    rw [e] at h1
    have g := hk R1 h1 hw
    simp (disch := omega) only [b_isBy_191, hend, Nat.le_refl, ↓reduceIte, o_bind, and_true, true_and, and_false, false_and, or_true, true_or, or_false, false_or, not_true, not_false_eq_true, not_false_iff, ne_eq, Nat.reduceAdd, Nat.reduceMul, Nat.reduceSub, Nat.reduceDiv, Nat.reduceMod, Nat.reduceLT, Nat.reduceLeDiff, Nat.reduceEqDiff, Nat.not_lt, Nat.not_le, q_lit, q_leT]
    exact g
  · have hil : i < l.length := by omega
    have hc := hcan _ (l_memD hil)
    obtain ⟨cb, -⟩ := can_bit hc.2
    have e31 : R1 31 i = qi (l.getD i 0) := by rw [hw 31 (by omega)]; exact hch i hil
    have hd := l_get hil
    rw [hd] at h1
    have hnm : l.getD i 0 ∉ l.drop (i + 1) := fun h => by have := inc_drop l 0 i hinc hil _ h; omega
    have hfx : flp o (l.getD i 0 :: l.drop (i + 1)) = flp o (l.drop (i + 1)) ^^^ 2 ^ l.getD i 0 := flp_x _ _ _
    have hset : gR (z_uI R1 30 (l.getD i 0) (qi (1 - vTry md))) (flp o (l.drop (i + 1))) := by
      refine gR_set h1 (fun k hk => ?_) ?_
      · rw [hfx, Nat.testBit_xor, Nat.testBit_two_pow, decide_eq_false (fun e => hk e.symm), Bool.xor_false]
      · rw [bitN_tb, flp_n _ _ _ hnm, ← bitN_tb, cb]
    have hgo := ih (l.length - (i + 1)) (qi l.length, ra, r, qi y, qi (i + 1), z_uI R1 30 (l.getD i 0) (qi (1 - vTry md)), M) (by omega) ⟨i + 1, _, by omega, rfl, rfl, hset, fun w hw' => by rw [z_neP hw']; exact hw w hw'⟩
    have hc36 := hc.1
    match md, hm with
    | none, hm =>
      have e57 : R1 0 57 = qm := by rw [hw 0 (by omega)]; exact hm
      simp (disch := omega) only [b_isBy_191, e31, e57, nar_q0, ↓reduceIte, o_bind, and_true, true_and, and_false, false_and, or_true, true_or, or_false, false_or, not_true, not_false_eq_true, not_false_iff, ne_eq, Nat.reduceAdd, Nat.reduceMul, Nat.reduceSub, Nat.reduceDiv, Nat.reduceMod, Nat.reduceLT, Nat.reduceLeDiff, Nat.reduceEqDiff, Nat.not_lt, Nat.not_le, q_lit, ↓q_m1, q_om, q_on, q_add, q_mul, q_sub, q_div, q_md, q_ltT, q_ltF, q_leT, q_leF, q_eqT, q_eqF, q_inT, q_inF, q_nn, q_mlt, q_ltm, q_mle, q_lem, q_nem, q_mne]
      exact hgo
    | some (f, g), hm =>
      have e57 : R1 0 57 = qi f := by rw [hw 0 (by omega)]; exact hm.1
      have hf6 := hm.2.2.1
      simp (disch := omega) only [b_isBy_191, e31, e57, nar_q1, ↓reduceIte, o_bind, and_true, true_and, and_false, false_and, or_true, true_or, or_false, false_or, not_true, not_false_eq_true, not_false_iff, ne_eq, Nat.reduceAdd, Nat.reduceMul, Nat.reduceSub, Nat.reduceDiv, Nat.reduceMod, Nat.reduceLT, Nat.reduceLeDiff, Nat.reduceEqDiff, Nat.not_lt, Nat.not_le, q_lit, ↓q_m1, q_om, q_on, q_add, q_mul, q_sub, q_div, q_md, q_ltT, q_ltF, q_leT, q_leF, q_eqT, q_eqF, q_inT, q_inF, q_nn, q_mlt, q_ltm, q_mle, q_lem, q_nem, q_mne]
      exact hgo
set_option maxHeartbeats 4000000 in
theorem r_145 {way : Nat → Nat} {l : List Nat} {ra r : Int32} {k35 : Int32 × Int32 × Int32 × zI × zL → Option (Int32 × zI × zL)} {P : Int32 × zI × zL → Prop} (hR : UR R M b U) (hU : UB U) (hm : mdR R md) (hl3 : l.length ≤ 3) (hinc : incL 0 l) (hcan : ∀ p ∈ l, p < 36 ∧ canB md way o p = true) (hch : ∀ k, k < l.length → R 31 k = qi (l.getD k 0)) (hg : gR R o) (hk : ∀ R', gR R' o → (∀ w, w ≠ 30 → R' w = R w) → zW (if qi (metB U.1 md (flp o l)).toNat = qi 0 then k35 (qi l.length, ra, r + qi 1, R', M) else some (qi 1, R', M)) P) : zW (zfix (b_isBy_145 k35) FU (qi l.length, ra, r, qi 0, R, M)) P := by
  refine zW_lp (I := fun rr s => ∃ (i : Nat) (R1 : zI), i ≤ l.length ∧ rr = l.length - i ∧ s = (qi l.length, ra, r, qi i, R1, M) ∧ gR R1 (flp o (l.take i)) ∧ ∀ w, w ≠ 30 → R1 w = R w) ?_ FU l.length _ ⟨0, R, by omega, by omega, rfl, by rw [List.take_zero]; exact hg, fun _ _ => rfl⟩ (FU_big (by omega))
  rintro k rr s ⟨i, R1, hi, rfl, rfl, h1, hw⟩ ih
  have hm1 : mdR R1 md := by
    unfold mdR at hm ⊢
    rw [hw 0 (by omega)]
    exact hm
  by_cases hend : i = l.length
  · have e : l.take i = l := by rw [hend, List.take_length]
    rw [e] at h1
    have hR1 : UR R1 M b U := UR_fr hR (by rw [hw 0 (by omega)]) (fun w w1 w2 w3 w4 => hw w (by omega)) rfl
    have hd := r_isDone hR1 hU hm1 h1
    simp (disch := omega) only [b_isBy_145, hend, Nat.le_refl, hd, ↓reduceIte, o_bind, and_true, true_and, and_false, false_and, or_true, true_or, or_false, false_or, not_true, not_false_eq_true, not_false_iff, ne_eq, Nat.reduceAdd, Nat.reduceMul, Nat.reduceSub, Nat.reduceDiv, Nat.reduceMod, Nat.reduceLT, Nat.reduceLeDiff, Nat.reduceEqDiff, Nat.not_lt, Nat.not_le, q_lit, q_leT]
    exact r_191 (way := way) hm1 hl3 hinc hcan (fun k hk' => by rw [hw 31 (by omega)]; exact hch k hk') h1 (fun R' g1 g2 => hk R' g1 (fun w hw' => (g2 w hw').trans (hw w hw')))
  · have hil : i < l.length := by omega
    have hc := hcan _ (l_memD hil)
    obtain ⟨cb, ct⟩ := can_bit hc.2
    have e31 : R1 31 i = qi (l.getD i 0) := by rw [hw 31 (by omega)]; exact hch i hil
    have hnm : l.getD i 0 ∉ l.take i := fun h => by have := inc_take l 0 i hinc hil _ h; omega
    have hset : gR (z_uI R1 30 (l.getD i 0) (qi (vTry md))) (flp o (l.take (i + 1))) := by
      rw [l_take hil, flp_snoc]
      refine gR_set h1 (fun k hk => ?_) ?_
      · rw [Nat.testBit_xor, Nat.testBit_two_pow, decide_eq_false (fun e => hk e.symm), Bool.xor_false]
      · rw [bitN_tb, Nat.testBit_xor, Nat.testBit_two_pow, flp_n _ _ _ hnm, decide_eq_true rfl, Bool.xor_true, ct]
    have hgo := ih (l.length - (i + 1)) (qi l.length, ra, r, qi (i + 1), z_uI R1 30 (l.getD i 0) (qi (vTry md)), M) (by omega) ⟨i + 1, _, by omega, rfl, rfl, hset, fun w hw' => by rw [z_neP hw']; exact hw w hw'⟩
    have hc36 := hc.1
    match md, hm with
    | none, hm =>
      have e57 : R1 0 57 = qm := by rw [hw 0 (by omega)]; exact hm
      simp (disch := omega) only [b_isBy_145, e31, e57, nar_q1, ↓reduceIte, o_bind, and_true, true_and, and_false, false_and, or_true, true_or, or_false, false_or, not_true, not_false_eq_true, not_false_iff, ne_eq, Nat.reduceAdd, Nat.reduceMul, Nat.reduceSub, Nat.reduceDiv, Nat.reduceMod, Nat.reduceLT, Nat.reduceLeDiff, Nat.reduceEqDiff, Nat.not_lt, Nat.not_le, q_lit, ↓q_m1, q_om, q_on, q_add, q_mul, q_sub, q_div, q_md, q_ltT, q_ltF, q_leT, q_leF, q_eqT, q_eqF, q_inT, q_inF, q_nn, q_mlt, q_ltm, q_mle, q_lem, q_nem, q_mne]
      exact hgo
    | some (f, g), hm =>
      have e57 : R1 0 57 = qi f := by rw [hw 0 (by omega)]; exact hm.1
      have hf6 := hm.2.2.1
      simp (disch := omega) only [b_isBy_145, e31, e57, nar_q0, ↓reduceIte, o_bind, and_true, true_and, and_false, false_and, or_true, true_or, or_false, false_or, not_true, not_false_eq_true, not_false_iff, ne_eq, Nat.reduceAdd, Nat.reduceMul, Nat.reduceSub, Nat.reduceDiv, Nat.reduceMod, Nat.reduceLT, Nat.reduceLeDiff, Nat.reduceEqDiff, Nat.not_lt, Nat.not_le, q_lit, ↓q_m1, q_om, q_on, q_add, q_mul, q_sub, q_div, q_md, q_ltT, q_ltF, q_leT, q_leF, q_eqT, q_eqF, q_inT, q_inF, q_nn, q_mlt, q_ltm, q_mle, q_lem, q_nem, q_mne]
      exact hgo
/-! rows of digits -/
def dgD (m r j : Nat) : Nat := r / 36 ^ (m - 1 - j) % 36
def dgL (m r : Nat) : List Nat := (List.range m).map (dgD m r)
def dgG (can : Nat → Bool) (m r i : Nat) : Prop := ∀ j, i ≤ j → j < m → can (dgD m r j) = true ∧ (j + 1 < m → dgD m r j < dgD m r (j + 1))
def shI (i : Nat) : Int32 := if i = 0 then qm else qi (i - 1)
theorem dgL_len {m r : Nat} : (dgL m r).length = m := by simp [dgL]
theorem dgL_get {m r j : Nat} (h : j < m) : (dgL m r).getD j 0 = dgD m r j := by
  unfold dgL
  rw [List.getD_eq_getElem?_getD, List.getElem?_map, List.getElem?_range h]
  rfl
set_option maxHeartbeats 4000000 in
theorem r_51 {m r ra : Nat} {k35 : Int32 × Int32 × Int32 × zI × zL → Option (Int32 × zI × zL)} {P : Int32 × zI × zL → Prop} (hm3 : m ≤ 3) (hr : r < 46656) (hR : UR R M b U) (hS : SR R 0 A) (hU : UB U) (hA : SB U A) (hm : mdR R md) (hbad : ¬ dgG (canB md U.2.2.1 (opO U A)) m r 0 → ∀ R', (∀ w, w ≠ 31 → R' w = R w) → zW (k35 (qi m, qi ra, qi (r + 1), R', M)) P) (hok : dgG (canB md U.2.2.1 (opO U A)) m r 0 → ∀ R', (∀ w, w ≠ 31 → R' w = R w) → (∀ j, j < m → R' 31 j = qi (dgD m r j)) → zW (zfix (b_isBy_145 k35) FU (qi m, qi ra, qi r, qi 0, R', M)) P) : zW (zfix (b_isBy_51 k35) FU (qi m, qi ra, qi r, qi r, qi 1, qi m - qi 1, R, M)) P := by
  have e0 : qi m - qi 1 = shI m := by
    unfold shI
    by_cases h : m = 0
    · rw [if_pos h, h]; rfl
    · rw [if_neg h, q_sub (by omega)]
  rw [e0]
  refine zW_lp (I := fun rr s => ∃ (i c : Nat) (R1 : zI), i ≤ m ∧ rr = i ∧ c < 2 ∧ s = (qi m, qi ra, qi r, qi (r / 36 ^ (m - i)), qi c, shI i, R1, M) ∧ (c = 1 ↔ dgG (canB md U.2.2.1 (opO U A)) m r i) ∧ (∀ w, w ≠ 31 → R1 w = R w) ∧ ∀ j, i ≤ j → j < m → R1 31 j = qi (dgD m r j)) ?_ FU m _ ⟨m, 1, R, Nat.le_refl _, rfl, by omega, by rw [Nat.sub_self, Nat.pow_zero, Nat.div_one], ⟨fun _ j h1 h2 => absurd h2 (by omega), fun _ => rfl⟩, fun _ _ => rfl, fun j h1 h2 => absurd h2 (by omega)⟩ (FU_big (by omega))
  rintro k i s ⟨_, c, R1, hi, rfl, hc, rfl, hcg, hw, hj⟩ ih
  have hdb : r / 36 ^ (m - i) ≤ r := Nat.div_le_self _ _
  match i with
  | 0 =>
    have es : shI 0 = qm := rfl
    have en : qm < qi 0 := q_mlt (by omega)
    by_cases hc1 : c = 1
    · have g := hok (hcg.mp hc1) R1 hw (fun j hjm => hj j (Nat.zero_le _) hjm)
      simp (disch := omega) only [b_isBy_51, es, en, hc1, ↓reduceIte, o_bind, and_true, true_and, and_false, false_and, or_true, true_or, or_false, false_or, not_true, not_false_eq_true, not_false_iff, ne_eq, Nat.reduceAdd, Nat.reduceMul, Nat.reduceSub, Nat.reduceDiv, Nat.reduceMod, Nat.reduceLT, Nat.reduceLeDiff, Nat.reduceEqDiff, Nat.not_lt, Nat.not_le, q_lit, q_eqF]
      exact g
    · have g := hbad (fun h => hc1 (hcg.mpr h)) R1 hw
      have hc0 : c = 0 := by omega
      simp (disch := omega) only [b_isBy_51, es, en, hc0, ↓reduceIte, o_bind, and_true, true_and, and_false, false_and, or_true, true_or, or_false, false_or, not_true, not_false_eq_true, not_false_iff, ne_eq, Nat.reduceAdd, Nat.reduceMul, Nat.reduceSub, Nat.reduceDiv, Nat.reduceMod, Nat.reduceLT, Nat.reduceLeDiff, Nat.reduceEqDiff, Nat.not_lt, Nat.not_le, q_lit, q_add]
      exact g
  | i + 1 =>
    have es : shI (i + 1) = qi i := rfl
    have em : qi i + Int32.ofInt (-1) = shI i := by
      unfold shI
      by_cases h : i = 0
      · rw [if_pos h, h]; rfl
      · rw [if_neg h]; exact q_dn1 (by omega)
    have ed : r / 36 ^ (m - (i + 1)) % 36 = dgD m r i := by
      unfold dgD
      rw [show m - 1 - i = m - (i + 1) by omega]
    have edv : r / 36 ^ (m - (i + 1)) / 36 = r / 36 ^ (m - i) := by
      rw [Nat.div_div_eq_div_mul, ← Nat.pow_succ]
      congr 2
      omega
    have er : r / 36 ^ (m - (i + 1)) - r / 36 ^ (m - i) * 36 = dgD m r i := by
      rw [← ed, ← edv]
      omega
    have hd36 : dgD m r i < 36 := Nat.mod_lt _ (by omega)
    have hgo : ∀ c' : Nat, c' < 2 → (c' = 1 ↔ dgG (canB md U.2.2.1 (opO U A)) m r i) → zW (k (qi m, qi ra, qi r, qi (r / 36 ^ (m - i)), qi c', shI i, z_uI R1 31 i (qi (dgD m r i)), M)) P := by
      intro c' hc' hcg'
      refine ih i _ (by omega) ⟨i, c', _, by omega, rfl, hc', rfl, hcg', fun w hw' => by rw [z_neP hw']; exact hw w hw', fun j h1 h2 => ?_⟩
      by_cases hji : j = i
      · subst hji; rw [z_same]
      · rw [z_neK hji]; exact hj j (by omega) h2
    have down : dgG (canB md U.2.2.1 (opO U A)) m r i → dgG (canB md U.2.2.1 (opO U A)) m r (i + 1) := fun h j h1 h2 => h j (by omega) h2
    rw [es]
    by_cases hc1 : c = 1
    · have hG1 := hcg.mp hc1
      have hrb : rB R (z_uI R1 31 i (qi (dgD m r i))) := fun w w1 w2 => by rw [z_neP w2]; exact hw w w2
      have hcc := r_canCh (p := dgD m r i) hd36 (rB_UR hrb hR) (rB_SR hrb hS) hU hA (rB_md hrb hm)
      have hsame : z_uI R1 31 i (qi (dgD m r i)) 31 i = qi (dgD m r i) := z_same
      cases hcb : canB md U.2.2.1 (opO U A) (dgD m r i) with
      | false =>
        rw [hcb] at hcc
        have g := hgo 0 (by omega) ⟨fun h => absurd h (by omega), fun h => by have := (h i (Nat.le_refl _) (by omega)).1; rw [hcb] at this; cases this⟩
        simp (disch := omega) only [b_isBy_51, hc1, er, edv, em, hsame, hcc, show false.toNat = 0 from rfl, ↓reduceIte, o_bind, and_true, true_and, and_false, false_and, or_true, true_or, or_false, false_or, not_true, not_false_eq_true, not_false_iff, ne_eq, Nat.reduceAdd, Nat.reduceMul, Nat.reduceSub, Nat.reduceDiv, Nat.reduceMod, Nat.reduceLT, Nat.reduceLeDiff, Nat.reduceEqDiff, Nat.not_lt, Nat.not_le, q_lit, ↓q_m1, q_om, q_on, q_add, q_mul, q_sub, q_div, q_md, q_ltT, q_ltF, q_leT, q_leF, q_eqT, q_eqF, q_inT, q_inF, q_nn, q_mlt, q_ltm, q_mle, q_lem, q_nem, q_mne]
        exact g
      | true =>
        rw [hcb] at hcc
        by_cases hlast : i = m - 1
        · have g := hgo 1 (by omega) ⟨fun _ j h1 h2 => by
            have hji : j = i := by omega
            subst hji
            exact ⟨hcb, fun h => absurd h (by omega)⟩, fun _ => rfl⟩
          have em1 : qi m - qi 1 = qi (m - 1) := q_sub (by omega)
          simp (disch := omega) only [b_isBy_51, hc1, er, edv, em, em1, hsame, hcc, show true.toNat = 1 from rfl, ↓reduceIte, o_bind, and_true, true_and, and_false, false_and, or_true, true_or, or_false, false_or, not_true, not_false_eq_true, not_false_iff, ne_eq, Nat.reduceAdd, Nat.reduceMul, Nat.reduceSub, Nat.reduceDiv, Nat.reduceMod, Nat.reduceLT, Nat.reduceLeDiff, Nat.reduceEqDiff, Nat.not_lt, Nat.not_le, q_lit, ↓q_m1, q_om, q_on, q_add, q_mul, q_sub, q_div, q_md, q_ltT, q_ltF, q_leT, q_leF, q_eqT, q_eqF, q_inT, q_inF, q_nn, q_mlt, q_ltm, q_mle, q_lem, q_nem, q_mne]
          exact g
        · have e31 : z_uI R1 31 i (qi (dgD m r i)) 31 (i + 1) = qi (dgD m r (i + 1)) := by rw [z_neK (by omega)]; exact hj (i + 1) (Nat.le_refl _) (by omega)
          have hd37 : dgD m r (i + 1) < 36 := Nat.mod_lt _ (by omega)
          have em1 : qi m - qi 1 = qi (m - 1) := q_sub (by omega)
          by_cases hlt : dgD m r i < dgD m r (i + 1)
          · have g := hgo 1 (by omega) ⟨fun _ j h1 h2 => by
              by_cases hji : j = i
              · subst hji
                exact ⟨hcb, fun _ => hlt⟩
              · exact hG1 j (by omega) h2, fun _ => rfl⟩
            simp (disch := omega) only [b_isBy_51, hc1, er, edv, em, em1, hsame, e31, hcc, show true.toNat = 1 from rfl, ↓reduceIte, o_bind, and_true, true_and, and_false, false_and, or_true, true_or, or_false, false_or, not_true, not_false_eq_true, not_false_iff, ne_eq, Nat.reduceAdd, Nat.reduceMul, Nat.reduceSub, Nat.reduceDiv, Nat.reduceMod, Nat.reduceLT, Nat.reduceLeDiff, Nat.reduceEqDiff, Nat.not_lt, Nat.not_le, q_lit, ↓q_m1, q_om, q_on, q_add, q_mul, q_sub, q_div, q_md, q_ltT, q_ltF, q_leT, q_leF, q_eqT, q_eqF, q_inT, q_inF, q_nn, q_mlt, q_ltm, q_mle, q_lem, q_nem, q_mne]
            exact g
          · have g := hgo 0 (by omega) ⟨fun h => absurd h (by omega), fun h => absurd ((h i (Nat.le_refl _) (by omega)).2 (by omega)) hlt⟩
            simp (disch := omega) only [b_isBy_51, hc1, er, edv, em, em1, hsame, e31, hcc, show true.toNat = 1 from rfl, ↓reduceIte, o_bind, and_true, true_and, and_false, false_and, or_true, true_or, or_false, false_or, not_true, not_false_eq_true, not_false_iff, ne_eq, Nat.reduceAdd, Nat.reduceMul, Nat.reduceSub, Nat.reduceDiv, Nat.reduceMod, Nat.reduceLT, Nat.reduceLeDiff, Nat.reduceEqDiff, Nat.not_lt, Nat.not_le, q_lit, ↓q_m1, q_om, q_on, q_add, q_mul, q_sub, q_div, q_md, q_ltT, q_ltF, q_leT, q_leF, q_eqT, q_eqF, q_inT, q_inF, q_nn, q_mlt, q_ltm, q_mle, q_lem, q_nem, q_mne]
            exact g
    · have hc0 : c = 0 := by omega
      have g := hgo 0 (by omega) ⟨fun h => absurd h (by omega), fun h => absurd (hcg.mpr (down h)) hc1⟩
      simp (disch := omega) only [b_isBy_51, hc0, er, edv, em, ↓reduceIte, o_bind, and_true, true_and, and_false, false_and, or_true, true_or, or_false, false_or, not_true, not_false_eq_true, not_false_iff, ne_eq, Nat.reduceAdd, Nat.reduceMul, Nat.reduceSub, Nat.reduceDiv, Nat.reduceMod, Nat.reduceLT, Nat.reduceLeDiff, Nat.reduceEqDiff, Nat.not_lt, Nat.not_le, q_lit, ↓q_m1, q_om, q_on, q_add, q_mul, q_sub, q_div, q_md, q_ltT, q_ltF, q_leT, q_leF, q_eqT, q_eqF, q_inT, q_inF, q_nn, q_mlt, q_ltm, q_mle, q_lem, q_nem, q_mne]
      exact g
end
