section
variable {n : Nat} {K N : Nat → Nat} {G : zG} {V R : zI} {L M : zL} {u b f0 cnt acts x : Nat} {pl : Nat → Nat} {U : aU} {A : aS} {hi : Nat → aS} {o s t a : Nat}
theorem bitN_tb (S t : Nat) : bitN S t = (S.testBit t).toNat := by
  rw [Nat.testBit_eq_decide_div_mod_eq]
  have h2 : S / 2 ^ t % 2 < 2 := Nat.mod_lt _ (by omega)
  unfold bitN
  by_cases h : S / 2 ^ t % 2 = 1
  · rw [h]; rfl
  · have h0 : S / 2 ^ t % 2 = 0 := by omega
    rw [h0]; rfl
theorem bitN_1 {S t : Nat} : bitN S t = 1 ↔ S.testBit t = true := by
  rw [bitN_tb]
  cases S.testBit t <;> decide
theorem bitN_0 {S t : Nat} : bitN S t = 0 ↔ S.testBit t = false := by
  rw [bitN_tb]
  cases S.testBit t <;> decide
def opN (c : Nat → Bool) : Nat → Nat
  | 0 => 0
  | i + 1 => if c i = true then opN c i + 2 ^ i else opN c i
theorem opN_b {c : Nat → Bool} : ∀ i, opN c i < 2 ^ i := by
  intro i
  induction i with
  | zero => exact Nat.one_pos
  | succ i ih =>
    simp only [opN]
    rw [Nat.pow_succ]
    split <;> omega
theorem opN_tb {c : Nat → Bool} : ∀ i k, k < i → (opN c i).testBit k = c k := by
  intro i
  induction i with
  | zero => intro k h; omega
  | succ i ih =>
    intro k hk
    have hb := opN_b (c := c) i
    simp only [opN]
    by_cases hki : k = i
    · subst hki
      have h0 : (opN c k).testBit k = false := Nat.testBit_lt_two_pow hb
      cases hc : c k with
      | true =>
        simp only [↓reduceIte]
        rw [← or_pow hb, Nat.testBit_or, Nat.testBit_two_pow]
        simp
      | false =>
        simp only [Bool.false_eq_true, ↓reduceIte]
        exact h0
    · have h1 := ih k (by omega)
      split
      · rw [← or_pow hb, Nat.testBit_or, Nat.testBit_two_pow, h1]
        simp [show ¬ i = k by omega]
      · exact h1
def opc (U : aU) (A : aS) (k : Nat) : Bool := decide (0 < U.2.2.1 k ∧ 0 < A.2.1 k)
def opO (U : aU) (A : aS) : Nat := opN (opc U A) 36
theorem opO_b : opO U A < 68719476736 := opN_b 36
theorem opO_tb {k : Nat} (hk : k < 36) : (opO U A).testBit k = opc U A k := opN_tb 36 k hk
theorem cs_open (hx : fxS N G) (hu : unS N G u) (hC : UC N G V u U) (hS : SC V 6 A) (hU : UB U) (hA : SB U A) : f_X6_open N G u 6 V L = some (qI (opO U A)) := by
  have n3 : N (u + 3) = 36 := hu.2.2.2.2
  have n7 : N 7 = 36 := hx.2.1.2.1
  apply zW_of
  unfold f_X6_open g_X6_open
  rw [hu.2.1.2.2, hx.2.1.1.1]
  simp only [o_bind]
  refine zW_lp (I := fun r q => ∃ i : Nat, i ≤ 36 ∧ r = 36 - i ∧ q = (qI (opN (opc U A) i), qi i)) ?_ FU 36 _ ⟨0, by omega, by omega, rfl⟩ (FU_big (by omega))
  rintro k r q ⟨i, hi, rfl, rfl⟩ ih
  by_cases hend : i = 36
  · subst hend
    simp (disch := omega) only [b_X6_open_5, ↓reduceIte, o_bind, and_true, true_and, and_false, false_and, or_true, true_or, or_false, false_or, not_true, not_false_eq_true, not_false_iff, ne_eq, Nat.reduceAdd, Nat.reduceMul, Nat.reduceSub, Nat.reduceDiv, Nat.reduceMod, Nat.reduceLT, Nat.reduceLeDiff, Nat.reduceEqDiff, Nat.not_lt, Nat.not_le, q_lit, ↓q_m1, q_om, q_on, q_add, q_mul, q_sub, q_div, q_md, q_ltT, q_ltF, q_leT, q_leF, q_eqT, q_eqF, q_inT, q_inF, q_nn, q_mlt, q_ltm, q_mle, q_lem, q_nem, q_mne]
    exact zW_some rfl
  · have e1 : V (u + 3) i = qi (U.2.2.1 i) := hC.2.1 i (by omega)
    have e2 : V 7 i = qi (A.2.1 i) := hS.2.1 i (by omega)
    have hw : U.2.2.1 i ≤ 45 := (hU.2.1 i (by omega)).1
    have hh := SB_held hA (k := i) (by omega)
    have hgo := ih (36 - (i + 1)) (qI (opN (opc U A) (i + 1)), qi (i + 1)) (by omega) ⟨i + 1, by omega, rfl, rfl⟩
    simp only [opN] at hgo
    have hb := opN_b (c := opc U A) i
    have hp : 2 ^ i ≤ 2 ^ 36 := Nat.pow_le_pow_right (by decide) (by omega)
    by_cases h1 : 0 < U.2.2.1 i
    · by_cases h2 : 0 < A.2.1 i
      · have hc : opc U A i = true := decide_eq_true ⟨h1, h2⟩
        rw [if_pos hc] at hgo
        have hq : qI (opN (opc U A) i) ||| ((1 : Int64) <<< ((qi i).toInt64 &&& 63)) = qI (opN (opc U A) i + 2 ^ i) := by
          rw [qb_L1 i (by omega), Q_or (by omega) (by omega), or_pow hb]
        simp (disch := omega) only [b_X6_open_5, n3, n7, e1, e2, hq, ↓reduceIte, o_bind, and_true, true_and, and_false, false_and, or_true, true_or, or_false, false_or, not_true, not_false_eq_true, not_false_iff, ne_eq, Nat.reduceAdd, Nat.reduceMul, Nat.reduceSub, Nat.reduceDiv, Nat.reduceMod, Nat.reduceLT, Nat.reduceLeDiff, Nat.reduceEqDiff, Nat.not_lt, Nat.not_le, q_lit, ↓q_m1, q_om, q_on, q_add, q_mul, q_sub, q_div, q_md, q_ltT, q_ltF, q_leT, q_leF, q_eqT, q_eqF, q_inT, q_inF, q_nn, q_mlt, q_ltm, q_mle, q_lem, q_nem, q_mne]
        exact hgo
      · have hc : ¬ opc U A i = true := fun h => h2 (of_decide_eq_true h).2
        rw [if_neg hc] at hgo
        simp (disch := omega) only [b_X6_open_5, n3, n7, e1, e2, ↓reduceIte, o_bind, and_true, true_and, and_false, false_and, or_true, true_or, or_false, false_or, not_true, not_false_eq_true, not_false_iff, ne_eq, Nat.reduceAdd, Nat.reduceMul, Nat.reduceSub, Nat.reduceDiv, Nat.reduceMod, Nat.reduceLT, Nat.reduceLeDiff, Nat.reduceEqDiff, Nat.not_lt, Nat.not_le, q_lit, ↓q_m1, q_om, q_on, q_add, q_mul, q_sub, q_div, q_md, q_ltT, q_ltF, q_leT, q_leF, q_eqT, q_eqF, q_inT, q_inF, q_nn, q_mlt, q_ltm, q_mle, q_lem, q_nem, q_mne]
        exact hgo
    · have hc : ¬ opc U A i = true := fun h => h1 (of_decide_eq_true h).1
      rw [if_neg hc] at hgo
      simp (disch := omega) only [b_X6_open_5, n3, e1, ↓reduceIte, o_bind, and_true, true_and, and_false, false_and, or_true, true_or, or_false, false_or, not_true, not_false_eq_true, not_false_iff, ne_eq, Nat.reduceAdd, Nat.reduceMul, Nat.reduceSub, Nat.reduceDiv, Nat.reduceMod, Nat.reduceLT, Nat.reduceLeDiff, Nat.reduceEqDiff, Nat.not_lt, Nat.not_le, q_lit, ↓q_m1, q_om, q_on, q_add, q_mul, q_sub, q_div, q_md, q_ltT, q_ltF, q_leT, q_leF, q_eqT, q_eqF, q_inT, q_inF, q_nn, q_mlt, q_ltm, q_mle, q_lem, q_nem, q_mne]
      exact hgo
theorem qb_cu : ∀ k, k < 64 → ((qi k).toInt64.toUInt64 &&& Int64.toUInt64 63) = UInt64.ofNat k := by decide +kernel
theorem Q_ushr {m k : Nat} (hn : m < 2 ^ 64) (hk : k < 64) : ((qI m).toUInt64 >>> ((qi k).toInt64.toUInt64 &&& Int64.toUInt64 63)).toInt64 = qI (m / 2 ^ k) := by
  rw [qb_cu k hk]
  apply Int64.toBitVec_inj.mp
  apply BitVec.eq_of_toNat_eq
  show ((qI m).toUInt64 >>> UInt64.ofNat k).toNat = (BitVec.ofNat 64 _).toNat
  have h1 : (UInt64.ofNat k).toNat = k := by
    show (BitVec.ofNat 64 k).toNat = k
    rw [BitVec.toNat_ofNat, Nat.mod_eq_of_lt (by omega)]
  have h2 : (qI m).toUInt64.toNat = m := by
    show (BitVec.ofNat 64 m).toNat = m
    rw [BitVec.toNat_ofNat, Nat.mod_eq_of_lt hn]
  rw [UInt64.toNat_shiftRight, h1, h2, Nat.mod_eq_of_lt hk, Nat.shiftRight_eq_div_pow, BitVec.toNat_ofNat, Nat.mod_eq_of_lt (Nat.lt_of_le_of_lt (Nat.div_le_self _ _) hn)]
theorem q_and63 (m : Nat) : qi m &&& qi 63 = qi (m % 64) := by
  apply Int32.toBitVec_inj.mp
  apply BitVec.eq_of_toNat_eq
  rw [Int32.toBitVec_and, BitVec.toNat_and, q_tb, q_tb, q_tb, BitVec.toNat_ofNat, BitVec.toNat_ofNat, BitVec.toNat_ofNat]
  rw [show 63 % 2 ^ 32 = 2 ^ 6 - 1 by decide, Nat.and_two_pow_sub_one_eq_mod]
  omega
def rowN (o a : Nat) : Nat := o / 2 ^ (6 * a) % 64
theorem rowN_b (o a : Nat) : rowN o a < 64 := Nat.mod_lt _ (by omega)
theorem rowN_tb (o a c : Nat) : (rowN o a).testBit c = (decide (c < 6) && o.testBit (6 * a + c)) := by
  unfold rowN
  rw [show (64 : Nat) = 2 ^ 6 from rfl, Nat.testBit_mod_two_pow, Nat.testBit_div_two_pow, Nat.add_comm c]
theorem cs_from (ho : o < 68719476736) (ha : a < 6) : f_X6_from (qI o) (qi a) = some (qi (rowN o a)) := by
  have e : ((qI o).toUInt64 >>> ((qi (a * 6)).toInt64.toUInt64 &&& Int64.toUInt64 63)).toInt64 = qI (o / 2 ^ (a * 6)) := Q_ushr (by omega) (by omega)
  unfold f_X6_from g_X6_from rowN
  simp only [q_lit, q_mul]
  have e' : ((qI o).toUInt64 >>> ((qi (a * 6)).toInt64.toUInt64 &&& Int64.toUInt64 63)).toInt64.toInt32 &&& qi 63 = qi (o / 2 ^ (6 * a) % 64) := by
    rw [e, Q_32, q_and63, Nat.mul_comm a 6]
  exact congrArg some e'
/-! one round -/
def stp (o a s : Nat) : Nat := if s.testBit a = true then s ||| rowN o a else s
def rdF (o s : Nat) : Nat → Nat
  | 0 => s
  | i + 1 => stp o i (rdF o s i)
theorem stp_b (hs : s < 64) : stp o a s < 64 := by
  unfold stp
  split
  · exact Nat.or_lt_two_pow (n := 6) hs (rowN_b o a)
  · exact hs
theorem rdF_b (hs : s < 64) : ∀ i, rdF o s i < 64 := by
  intro i
  induction i with
  | zero => exact hs
  | succ i ih => exact stp_b ih
theorem stp_up : s ||| stp o a s = stp o a s := by
  unfold stp
  split
  · rw [← Nat.or_assoc, Nat.or_self]
  · exact Nat.or_self s
theorem or_up {p q r : Nat} (h : p ||| q = q) (g : q ||| r = r) : p ||| r = r := by
  rw [← g, ← Nat.or_assoc, h]
theorem rdF_up : ∀ i, s ||| rdF o s i = rdF o s i := by
  intro i
  induction i with
  | zero => exact Nat.or_self s
  | succ i ih => exact or_up ih stp_up
def rd6 (o s : Nat) : Nat := rdF o s 6
def itf (f : Nat → Nat) : Nat → Nat → Nat
  | 0, s => s
  | k + 1, s => f (itf f k s)
def pc6 (s : Nat) : Nat := s % 2 + s / 2 % 2 + s / 4 % 2 + s / 8 % 2 + s / 16 % 2 + s / 32 % 2
theorem pc_lt : ∀ s, s < 64 → ∀ s', s' < 64 → s ||| s' = s' → s ≠ s' → pc6 s < pc6 s' := by decide +kernel
theorem pc_6 : ∀ s, s < 64 → pc6 s ≤ 6 := by decide +kernel
theorem pc_1 : ∀ t, t < 6 → pc6 (2 ^ t) = 1 := by decide +kernel
theorem it_cst {f : Nat → Nat} {k : Nat} (h : f (itf f k s) = itf f k s) : ∀ j, itf f (k + j) s = itf f k s := by
  intro j
  induction j with
  | zero => rfl
  | succ j ih =>
    show f (itf f (k + j) s) = _
    rw [ih, h]
theorem it_fix {f : Nat → Nat} (hf : ∀ s, s < 64 → f s < 64 ∧ s ||| f s = f s) (h0 : s < 64) (hp : 1 ≤ pc6 s) : f (itf f 5 s) = itf f 5 s := by
  have hb : ∀ k, itf f k s < 64 := by
    intro k
    induction k with
    | zero => exact h0
    | succ k ih => exact (hf _ ih).1
  by_cases h : f (itf f 5 s) = itf f 5 s
  · exact h
  · have hno : ∀ k, k ≤ 5 → f (itf f k s) ≠ itf f k s := by
      intro k hk e
      have h1 := it_cst e (5 - k)
      have h2 := it_cst e (6 - k)
      rw [show k + (5 - k) = 5 by omega] at h1
      rw [show k + (6 - k) = 6 by omega] at h2
      apply h
      show itf f 6 s = _
      rw [h2, h1]
    have hg : ∀ k, k ≤ 6 → k + 1 ≤ pc6 (itf f k s) := by
      intro k
      induction k with
      | zero => intro _; exact hp
      | succ k ih =>
        intro hk
        have h1 := ih (by omega)
        have h2 := pc_lt _ (hb k) _ (hb (k + 1)) (hf _ (hb k)).2 (fun e => hno k (by omega) e.symm)
        omega
    have h1 := hg 6 (by omega)
    have h2 := pc_6 _ (hb 6)
    omega
theorem rd6_ok : ∀ s, s < 64 → rd6 o s < 64 ∧ s ||| rd6 o s = rd6 o s := fun s hs => ⟨rdF_b hs 6, rdF_up 6⟩
def rch (o t : Nat) : Nat := itf (rd6 o) 6 (2 ^ t)
theorem p2_64 (ht : t < 6) : 2 ^ t < 64 := Nat.lt_of_le_of_lt (Nat.pow_le_pow_right (n := 2) (by decide) (show t ≤ 5 by omega)) (by decide)
theorem it_b (ht : t < 6) : ∀ k, itf (rd6 o) k (2 ^ t) < 64 := by
  intro k
  induction k with
  | zero => exact p2_64 ht
  | succ k ih => exact (rd6_ok _ ih).1
theorem rch_b (ht : t < 6) : rch o t < 64 := it_b ht 6
theorem rch_5 (ht : t < 6) : itf (rd6 o) 5 (2 ^ t) = rch o t := (it_fix rd6_ok (p2_64 ht) (by rw [pc_1 t ht]; exact Nat.le_refl _)).symm
theorem q_tbt (hs : s < 64) (ha : a < 6) : ((qi s >>> (qi a &&& qi 31)) &&& qi 1 = qi 0) ↔ s.testBit a = false := by
  have hb := bitN_b s a
  rw [q_bit (by omega) (by omega), q_eq (by omega) (by omega), bitN_0]
set_option maxHeartbeats 4000000 in
theorem cs_reach (ho : o < 68719476736) (ht : t < 6) : f_X6_reach (qI o) (qi t) = some (qi (rch o t)) := by
  apply zW_of
  unfold f_X6_reach g_X6_reach
  rw [qb_1 t (by omega)]
  refine zW_lp (I := fun r q => ∃ k : Nat, k ≤ 5 ∧ r = 5 - k ∧ q = (qI o, qi (itf (rd6 o) k (2 ^ t)), qi (k + 1))) ?_ FU 5 _ ⟨0, by omega, by omega, rfl⟩ (FU_big (by omega))
  rintro kk r q ⟨k, hk, rfl, rfl⟩ ih
  have hsb := it_b (o := o) ht k
  by_cases hend : k = 5
  · subst hend
    simp (disch := omega) only [b_X6_reach_7, ↓reduceIte, o_bind, and_true, true_and, and_false, false_and, or_true, true_or, or_false, false_or, not_true, not_false_eq_true, not_false_iff, ne_eq, Nat.reduceAdd, Nat.reduceMul, Nat.reduceSub, Nat.reduceDiv, Nat.reduceMod, Nat.reduceLT, Nat.reduceLeDiff, Nat.reduceEqDiff, Nat.not_lt, Nat.not_le, q_lit, ↓q_m1, q_om, q_on, q_add, q_mul, q_sub, q_div, q_md, q_ltT, q_ltF, q_leT, q_leF, q_eqT, q_eqF, q_inT, q_inF, q_nn, q_mlt, q_ltm, q_mle, q_lem, q_nem, q_mne]
    exact zW_some (by rw [rch_5 ht])
  · simp (disch := omega) only [b_X6_reach_7, ↓reduceIte, o_bind, and_true, true_and, and_false, false_and, or_true, true_or, or_false, false_or, not_true, not_false_eq_true, not_false_iff, ne_eq, Nat.reduceAdd, Nat.reduceMul, Nat.reduceSub, Nat.reduceDiv, Nat.reduceMod, Nat.reduceLT, Nat.reduceLeDiff, Nat.reduceEqDiff, Nat.not_lt, Nat.not_le, q_lit, ↓q_m1, q_om, q_on, q_add, q_mul, q_sub, q_div, q_md, q_ltT, q_ltF, q_leT, q_leF, q_eqT, q_eqF, q_inT, q_inF, q_nn, q_mlt, q_ltm, q_mle, q_lem, q_nem, q_mne]
    refine zW_lp (I := fun r q => ∃ i : Nat, i ≤ 6 ∧ r = 6 - i ∧ q = (qI o, qi (rdF o (itf (rd6 o) k (2 ^ t)) i), qi (k + 1), qi (itf (rd6 o) k (2 ^ t)), qi i)) ?_ FU 6 _ ⟨0, by omega, by omega, rfl⟩ (FU_big (by omega))
    rintro k2 r q ⟨i, hi, rfl, rfl⟩ ih2
    have hib := rdF_b (o := o) hsb i
    by_cases hend2 : i = 6
    · subst hend2
      by_cases he : rdF o (itf (rd6 o) k (2 ^ t)) 6 = itf (rd6 o) k (2 ^ t)
      · have h1 := it_cst (f := rd6 o) (s := 2 ^ t) (k := k) he (6 - k)
        rw [show k + (6 - k) = 6 by omega] at h1
        simp (disch := omega) only [b_X6_reach_20, he, ↓reduceIte, o_bind, and_true, true_and, and_false, false_and, or_true, true_or, or_false, false_or, not_true, not_false_eq_true, not_false_iff, ne_eq, Nat.reduceAdd, Nat.reduceMul, Nat.reduceSub, Nat.reduceDiv, Nat.reduceMod, Nat.reduceLT, Nat.reduceLeDiff, Nat.reduceEqDiff, Nat.not_lt, Nat.not_le, q_lit, ↓q_m1, q_om, q_on, q_add, q_mul, q_sub, q_div, q_md, q_ltT, q_ltF, q_leT, q_leF, q_eqT, q_eqF, q_inT, q_inF, q_nn, q_mlt, q_ltm, q_mle, q_lem, q_nem, q_mne]
        exact zW_some (by rw [← h1]; rfl)
      · have hgo := ih (5 - (k + 1)) (qI o, qi (itf (rd6 o) (k + 1) (2 ^ t)), qi (k + 1 + 1)) (by omega) ⟨k + 1, by omega, rfl, rfl⟩
        simp (disch := omega) only [b_X6_reach_20, ↓reduceIte, o_bind, and_true, true_and, and_false, false_and, or_true, true_or, or_false, false_or, not_true, not_false_eq_true, not_false_iff, ne_eq, Nat.reduceAdd, Nat.reduceMul, Nat.reduceSub, Nat.reduceDiv, Nat.reduceMod, Nat.reduceLT, Nat.reduceLeDiff, Nat.reduceEqDiff, Nat.not_lt, Nat.not_le, q_lit, ↓q_m1, q_om, q_on, q_add, q_mul, q_sub, q_div, q_md, q_ltT, q_ltF, q_leT, q_leF, q_eqT, q_eqF, q_inT, q_inF, q_nn, q_mlt, q_ltm, q_mle, q_lem, q_nem, q_mne]
        exact hgo
    · have hgo := ih2 (6 - (i + 1)) (qI o, qi (rdF o (itf (rd6 o) k (2 ^ t)) (i + 1)), qi (k + 1), qi (itf (rd6 o) k (2 ^ t)), qi (i + 1)) (by omega) ⟨i + 1, by omega, rfl, rfl⟩
      simp only [rdF, stp] at hgo
      have hq := q_tbt hib (a := i) (by omega)
      cases hbt : (rdF o (itf (rd6 o) k (2 ^ t)) i).testBit i with
      | true =>
        have hq' : ¬ ((qi (rdF o (itf (rd6 o) k (2 ^ t)) i) >>> (qi i &&& qi 31)) &&& qi 1 = qi 0) := fun h => by rw [hq.mp h] at hbt; cases hbt
        have hor : qi (rdF o (itf (rd6 o) k (2 ^ t)) i) ||| qi (rowN o i) = qi (rdF o (itf (rd6 o) k (2 ^ t)) i ||| rowN o i) := q_or (by omega) (by have := rowN_b o i; omega)
        simp only [hbt, ↓reduceIte] at hgo
        simp (disch := omega) only [b_X6_reach_20, hq', cs_from ho, hor, ↓reduceIte, o_bind, and_true, true_and, and_false, false_and, or_true, true_or, or_false, false_or, not_true, not_false_eq_true, not_false_iff, ne_eq, Nat.reduceAdd, Nat.reduceMul, Nat.reduceSub, Nat.reduceDiv, Nat.reduceMod, Nat.reduceLT, Nat.reduceLeDiff, Nat.reduceEqDiff, Nat.not_lt, Nat.not_le, q_lit, ↓q_m1, q_om, q_on, q_add, q_mul, q_sub, q_div, q_md, q_ltT, q_ltF, q_leT, q_leF, q_eqT, q_eqF, q_inT, q_inF, q_nn, q_mlt, q_ltm, q_mle, q_lem, q_nem, q_mne]
        exact hgo
      | false =>
        have hq' := hq.mpr hbt
        simp only [hbt, Bool.false_eq_true, ↓reduceIte] at hgo
        simp (disch := omega) only [b_X6_reach_20, hq', ↓reduceIte, o_bind, and_true, true_and, and_false, false_and, or_true, true_or, or_false, false_or, not_true, not_false_eq_true, not_false_iff, ne_eq, Nat.reduceAdd, Nat.reduceMul, Nat.reduceSub, Nat.reduceDiv, Nat.reduceMod, Nat.reduceLT, Nat.reduceLeDiff, Nat.reduceEqDiff, Nat.not_lt, Nat.not_le, q_lit, ↓q_m1, q_om, q_on, q_add, q_mul, q_sub, q_div, q_md, q_ltT, q_ltF, q_leT, q_leF, q_eqT, q_eqF, q_inT, q_inF, q_nn, q_mlt, q_ltm, q_mle, q_lem, q_nem, q_mne]
        exact hgo
/-! the reference's words -/
def gR (R : zI) (o : Nat) : Prop := ∀ k, k < 36 → R 30 k = qi (bitN o k)
theorem r_has2t (hs : s < 64) (ha : a < 6) : f_has2 (qi s) (qi a) = some (qi (s.testBit a).toNat) := by
  rw [r_has2 hs ha, bitN_tb]
set_option maxHeartbeats 4000000 in
theorem r_25 {c : Int32} {k6 : Int32 × Int32 × zI × zL → Option (Int32 × zI × zL)} {k15 : Int32 × Int32 × Int32 × zI × zL → Option (Int32 × zI × zL)} {P : Int32 × zI × zL → Prop} (hs : s < 64) (ha : a < 6) (hg : gR R o) (hk : zW (k15 (qi (stp o a s), c, qi (a + 1), R, M)) P) : zW (zfix (b_wordFrom_25 k6 k15) FU (qi s, c, qi a, qi 0, R, M)) P := by
  have hrb := rowN_b o a
  have hmb : ∀ i, rowN o a % 2 ^ i ≤ rowN o a := fun i => Nat.mod_le _ _
  have h64 : ∀ i, s ||| rowN o a % 2 ^ i < 64 := fun i => Nat.or_lt_two_pow (n := 6) hs (by have := hmb i; omega)
  refine zW_lp (I := fun r q => ∃ i : Nat, i ≤ 6 ∧ r = 6 - i ∧ q = (qi (if s.testBit a = true then s ||| rowN o a % 2 ^ i else s), c, qi a, qi i, R, M)) ?_ FU 6 _ ⟨0, by omega, by omega, by simp [Nat.mod_one]⟩ (FU_big (by omega))
  rintro k r q ⟨i, hi, rfl, rfl⟩ ih
  have h6i := h64 i
  by_cases hend : i = 6
  · subst hend
    have e6 : rowN o a % 2 ^ 6 = rowN o a := Nat.mod_eq_of_lt hrb
    rw [e6]
    simp (disch := omega) only [b_wordFrom_25, ↓reduceIte, o_bind, and_true, true_and, and_false, false_and, or_true, true_or, or_false, false_or, not_true, not_false_eq_true, not_false_iff, ne_eq, Nat.reduceAdd, Nat.reduceMul, Nat.reduceSub, Nat.reduceDiv, Nat.reduceMod, Nat.reduceLT, Nat.reduceLeDiff, Nat.reduceEqDiff, Nat.not_lt, Nat.not_le, q_lit, ↓q_m1, q_om, q_on, q_add, q_mul, q_sub, q_div, q_md, q_ltT, q_ltF, q_leT, q_leF, q_eqT, q_eqF, q_inT, q_inF, q_nn, q_mlt, q_ltm, q_mle, q_lem, q_nem, q_mne]
    exact hk
  · have hgo := ih (6 - (i + 1)) (qi (if s.testBit a = true then s ||| rowN o a % 2 ^ (i + 1) else s), c, qi a, qi (i + 1), R, M) (by omega) ⟨i + 1, by omega, rfl, rfl⟩
    cases hbt : s.testBit a with
    | false =>
      have h2 := r_has2t hs ha
      rw [hbt] at h2
      simp only [hbt, Bool.false_eq_true, ↓reduceIte] at hgo ⊢
      rw [show (false.toNat) = 0 from rfl] at h2
      simp (disch := omega) only [b_wordFrom_25, h2, ↓reduceIte, o_bind, and_true, true_and, and_false, false_and, or_true, true_or, or_false, false_or, not_true, not_false_eq_true, not_false_iff, ne_eq, Nat.reduceAdd, Nat.reduceMul, Nat.reduceSub, Nat.reduceDiv, Nat.reduceMod, Nat.reduceLT, Nat.reduceLeDiff, Nat.reduceEqDiff, Nat.not_lt, Nat.not_le, q_lit, ↓q_m1, q_om, q_on, q_add, q_mul, q_sub, q_div, q_md, q_ltT, q_ltF, q_leT, q_leF, q_eqT, q_eqF, q_inT, q_inF, q_nn, q_mlt, q_ltm, q_mle, q_lem, q_nem, q_mne]
      exact hgo
    | true =>
      have h2 := r_has2t (a := a) h6i ha
      have hb1 : (s ||| rowN o a % 2 ^ i).testBit a = true := by rw [Nat.testBit_or, hbt]; rfl
      rw [hb1, show (true.toNat) = 1 from rfl] at h2
      simp only [hbt, ↓reduceIte] at hgo ⊢
      have hgk := hg (6 * a + i) (by omega)
      have hbb := bitN_b o (6 * a + i)
      have hrt := rowN_tb o a i
      rw [show decide (i < 6) = true from decide_eq_true (by omega), Bool.true_and] at hrt
      have hmod : rowN o a % 2 ^ (i + 1) = if o.testBit (6 * a + i) = true then rowN o a % 2 ^ i ||| 2 ^ i else rowN o a % 2 ^ i := by
        apply Nat.eq_of_testBit_eq
        intro j
        rw [Nat.testBit_mod_two_pow]
        by_cases hj : j = i
        · subst hj
          rw [hrt]
          have hz : (rowN o a % 2 ^ j).testBit j = false := by rw [Nat.testBit_mod_two_pow]; simp
          cases hc : o.testBit (6 * a + j) with
          | true => simp only [↓reduceIte]; rw [Nat.testBit_or, Nat.testBit_two_pow]; simp
          | false => simp only [Bool.false_eq_true, ↓reduceIte]; rw [hz]; simp
        · have hd : decide (j < i + 1) = decide (j < i) := by
            by_cases h : j < i
            · rw [decide_eq_true h, decide_eq_true (by omega)]
            · rw [decide_eq_false h, decide_eq_false (by omega)]
          rw [hd]
          split
          · rw [Nat.testBit_or, Nat.testBit_two_pow, Nat.testBit_mod_two_pow]
            simp [show ¬ i = j by omega]
          · rw [Nat.testBit_mod_two_pow]
      rw [hmod] at hgo
      cases hc : o.testBit (6 * a + i) with
      | true =>
        have hk1 : bitN o (6 * a + i) = 1 := bitN_1.mpr hc
        rw [hk1] at hgk
        simp only [hc, ↓reduceIte] at hgo
        have hp64 : 2 ^ i < 64 := p2_64 (by omega)
        have hor : qi (s ||| rowN o a % 2 ^ i) ||| (qi 1 <<< (qi i &&& qi 31)) = qi (s ||| (rowN o a % 2 ^ i ||| 2 ^ i)) := by
          have e1 : (qi 1 <<< (qi i &&& qi 31)) = qi (2 ^ i) := qb_1 i (by omega)
          rw [e1, q_or (by omega) (by omega), Nat.or_assoc]
        simp (disch := omega) only [b_wordFrom_25, h2, hgk, hor, ↓reduceIte, o_bind, and_true, true_and, and_false, false_and, or_true, true_or, or_false, false_or, not_true, not_false_eq_true, not_false_iff, ne_eq, Nat.reduceAdd, Nat.reduceMul, Nat.reduceSub, Nat.reduceDiv, Nat.reduceMod, Nat.reduceLT, Nat.reduceLeDiff, Nat.reduceEqDiff, Nat.not_lt, Nat.not_le, q_lit, ↓q_m1, q_om, q_on, q_add, q_mul, q_sub, q_div, q_md, q_ltT, q_ltF, q_leT, q_leF, q_eqT, q_eqF, q_inT, q_inF, q_nn, q_mlt, q_ltm, q_mle, q_lem, q_nem, q_mne]
        exact hgo
      | false =>
        have hk1 : bitN o (6 * a + i) = 0 := bitN_0.mpr hc
        rw [hk1] at hgk
        simp only [hc, Bool.false_eq_true, ↓reduceIte] at hgo
        simp (disch := omega) only [b_wordFrom_25, h2, hgk, ↓reduceIte, o_bind, and_true, true_and, and_false, false_and, or_true, true_or, or_false, false_or, not_true, not_false_eq_true, not_false_iff, ne_eq, Nat.reduceAdd, Nat.reduceMul, Nat.reduceSub, Nat.reduceDiv, Nat.reduceMod, Nat.reduceLT, Nat.reduceLeDiff, Nat.reduceEqDiff, Nat.not_lt, Nat.not_le, q_lit, ↓q_m1, q_om, q_on, q_add, q_mul, q_sub, q_div, q_md, q_ltT, q_ltF, q_leT, q_leF, q_eqT, q_eqF, q_inT, q_inF, q_nn, q_mlt, q_ltm, q_mle, q_lem, q_nem, q_mne]
        exact hgo
theorem r_wordF (ht : t < 6) (hg : gR R o) : f_wordFrom (qi t) R M = some (qi (rch o t), R, M) := by
  apply zW_of
  unfold f_wordFrom
  rw [qb_1 t (by omega)]
  refine zW_lp (I := fun r q => ∃ k : Nat, k ≤ 6 ∧ r = 6 - k ∧ q = (qi (itf (rd6 o) k (2 ^ t)), qi k, R, M)) ?_ FU 6 _ ⟨0, by omega, by omega, rfl⟩ (FU_big (by omega))
  rintro kk r q ⟨k, hk, rfl, rfl⟩ ih
  have hsb := it_b (o := o) ht k
  by_cases hend : k = 6
  · subst hend
    simp (disch := omega) only [b_wordFrom_6, ↓reduceIte, o_bind, and_true, true_and, and_false, false_and, or_true, true_or, or_false, false_or, not_true, not_false_eq_true, not_false_iff, ne_eq, Nat.reduceAdd, Nat.reduceMul, Nat.reduceSub, Nat.reduceDiv, Nat.reduceMod, Nat.reduceLT, Nat.reduceLeDiff, Nat.reduceEqDiff, Nat.not_lt, Nat.not_le, q_lit, ↓q_m1, q_om, q_on, q_add, q_mul, q_sub, q_div, q_md, q_ltT, q_ltF, q_leT, q_leF, q_eqT, q_eqF, q_inT, q_inF, q_nn, q_mlt, q_ltm, q_mle, q_lem, q_nem, q_mne]
    exact zW_some rfl
  · simp (disch := omega) only [b_wordFrom_6, ↓reduceIte, o_bind, and_true, true_and, and_false, false_and, or_true, true_or, or_false, false_or, not_true, not_false_eq_true, not_false_iff, ne_eq, Nat.reduceAdd, Nat.reduceMul, Nat.reduceSub, Nat.reduceDiv, Nat.reduceMod, Nat.reduceLT, Nat.reduceLeDiff, Nat.reduceEqDiff, Nat.not_lt, Nat.not_le, q_lit, ↓q_m1, q_om, q_on, q_add, q_mul, q_sub, q_div, q_md, q_ltT, q_ltF, q_leT, q_leF, q_eqT, q_eqF, q_inT, q_inF, q_nn, q_mlt, q_ltm, q_mle, q_lem, q_nem, q_mne]
    refine zW_lp (I := fun r q => ∃ i : Nat, i ≤ 6 ∧ r = 6 - i ∧ q = (qi (rdF o (itf (rd6 o) k (2 ^ t)) i), qi k, qi i, R, M)) ?_ FU 6 _ ⟨0, by omega, by omega, rfl⟩ (FU_big (by omega))
    rintro k2 r q ⟨i, hi, rfl, rfl⟩ ih2
    have hib := rdF_b (o := o) hsb i
    by_cases hend2 : i = 6
    · subst hend2
      have hgo := ih (6 - (k + 1)) (qi (itf (rd6 o) (k + 1) (2 ^ t)), qi (k + 1), R, M) (by omega) ⟨k + 1, by omega, rfl, rfl⟩
      simp (disch := omega) only [b_wordFrom_15, ↓reduceIte, o_bind, and_true, true_and, and_false, false_and, or_true, true_or, or_false, false_or, not_true, not_false_eq_true, not_false_iff, ne_eq, Nat.reduceAdd, Nat.reduceMul, Nat.reduceSub, Nat.reduceDiv, Nat.reduceMod, Nat.reduceLT, Nat.reduceLeDiff, Nat.reduceEqDiff, Nat.not_lt, Nat.not_le, q_lit, ↓q_m1, q_om, q_on, q_add, q_mul, q_sub, q_div, q_md, q_ltT, q_ltF, q_leT, q_leF, q_eqT, q_eqF, q_inT, q_inF, q_nn, q_mlt, q_ltm, q_mle, q_lem, q_nem, q_mne]
      exact hgo
    · simp (disch := omega) only [b_wordFrom_15, ↓reduceIte, o_bind, and_true, true_and, and_false, false_and, or_true, true_or, or_false, false_or, not_true, not_false_eq_true, not_false_iff, ne_eq, Nat.reduceAdd, Nat.reduceMul, Nat.reduceSub, Nat.reduceDiv, Nat.reduceMod, Nat.reduceLT, Nat.reduceLeDiff, Nat.reduceEqDiff, Nat.not_lt, Nat.not_le, q_lit, ↓q_m1, q_om, q_on, q_add, q_mul, q_sub, q_div, q_md, q_ltT, q_ltF, q_leT, q_leF, q_eqT, q_eqF, q_inT, q_inF, q_nn, q_mlt, q_ltm, q_mle, q_lem, q_nem, q_mne]
      exact r_25 hib (by omega) hg (ih2 (6 - (i + 1)) _ (by omega) ⟨i + 1, by omega, rfl, rfl⟩)
theorem nar_0 : vp_nar .boolean 0 = qi 0 := rfl
theorem nar_1 : vp_nar .boolean 1 = qi 1 := rfl
theorem nar_q0 : vp_nar .boolean (qi 0) = qi 0 := rfl
theorem nar_q1 : vp_nar .boolean (qi 1) = qi 1 := rfl
set_option maxHeartbeats 4000000 in
theorem r_asHeld (hR : UR R M b U) (hS : SR R 0 A) (hU : UB U) (hA : SB U A) : zW (f_isAsHeld R M) (fun r => gR r.1 (opO U A) ∧ (∀ w, w ≠ 30 → r.1 w = R w) ∧ r.2 = M) := by
  have htw := UB_tw hU
  unfold f_isAsHeld
  refine zW_lp (I := fun r q => ∃ (a : Nat) (R1 : zI), a ≤ 6 ∧ r = 6 - a ∧ q = (qi a, R1, M) ∧ (∀ k, k < 6 * a → R1 30 k = qi (bitN (opO U A) k)) ∧ ∀ w, w ≠ 30 → R1 w = R w) ?_ FU 6 _ ⟨0, R, by omega, by omega, rfl, fun k hk => absurd hk (by omega), fun _ _ => rfl⟩ (FU_big (by omega))
  rintro kk r q ⟨a, R1, ha, rfl, rfl, h1, hw⟩ ih
  by_cases hend : a = 6
  · subst hend
    simp (disch := omega) only [b_isAsHeld_2, ↓reduceIte, o_bind, and_true, true_and, and_false, false_and, or_true, true_or, or_false, false_or, not_true, not_false_eq_true, not_false_iff, ne_eq, Nat.reduceAdd, Nat.reduceMul, Nat.reduceSub, Nat.reduceDiv, Nat.reduceMod, Nat.reduceLT, Nat.reduceLeDiff, Nat.reduceEqDiff, Nat.not_lt, Nat.not_le, q_lit, ↓q_m1, q_om, q_on, q_add, q_mul, q_sub, q_div, q_md, q_ltT, q_ltF, q_leT, q_leF, q_eqT, q_eqF, q_inT, q_inF, q_nn, q_mlt, q_ltm, q_mle, q_lem, q_nem, q_mne]
    exact zW_some ⟨h1, hw, rfl⟩
  simp (disch := omega) only [b_isAsHeld_2, ↓reduceIte, o_bind, and_true, true_and, and_false, false_and, or_true, true_or, or_false, false_or, not_true, not_false_eq_true, not_false_iff, ne_eq, Nat.reduceAdd, Nat.reduceMul, Nat.reduceSub, Nat.reduceDiv, Nat.reduceMod, Nat.reduceLT, Nat.reduceLeDiff, Nat.reduceEqDiff, Nat.not_lt, Nat.not_le, q_lit, ↓q_m1, q_om, q_on, q_add, q_mul, q_sub, q_div, q_md, q_ltT, q_ltF, q_leT, q_leF, q_eqT, q_eqF, q_inT, q_inF, q_nn, q_mlt, q_ltm, q_mle, q_lem, q_nem, q_mne]
  refine zW_lp (I := fun r q => ∃ (c : Nat) (R2 : zI), c ≤ 6 ∧ r = 6 - c ∧ q = (qi a, qi c, R2, M) ∧ (∀ k, k < 6 * a + c → R2 30 k = qi (bitN (opO U A) k)) ∧ ∀ w, w ≠ 30 → R2 w = R w) ?_ FU 6 _ ⟨0, R1, by omega, by omega, rfl, h1, hw⟩ (FU_big (by omega))
  rintro k2 r q ⟨c, R2, hc, rfl, rfl, h2, hw2⟩ ih2
  by_cases hend2 : c = 6
  · subst hend2
    simp (disch := omega) only [b_isAsHeld_10, ↓reduceIte, o_bind, and_true, true_and, and_false, false_and, or_true, true_or, or_false, false_or, not_true, not_false_eq_true, not_false_iff, ne_eq, Nat.reduceAdd, Nat.reduceMul, Nat.reduceSub, Nat.reduceDiv, Nat.reduceMod, Nat.reduceLT, Nat.reduceLeDiff, Nat.reduceEqDiff, Nat.not_lt, Nat.not_le, q_lit, ↓q_m1, q_om, q_on, q_add, q_mul, q_sub, q_div, q_md, q_ltT, q_ltF, q_leT, q_leF, q_eqT, q_eqF, q_inT, q_inF, q_nn, q_mlt, q_ltm, q_mle, q_lem, q_nem, q_mne]
    exact ih (6 - (a + 1)) _ (by omega) ⟨a + 1, R2, by omega, rfl, rfl, fun k hk => h2 k (by omega), hw2⟩
  have hp : 6 * a + c < 36 := by omega
  have hR2 : UR R2 M b U := UR_fr hR (by rw [hw2 0 (by omega)]) (fun w w1 w2 w3 w4 => hw2 w (by omega)) rfl
  have hgo : ∀ v : Nat, v = bitN (opO U A) (6 * a + c) → zW (k2 (qi a, qi (c + 1), z_uI R2 30 (6 * a + c) (qi v), M)) (fun r => gR r.1 (opO U A) ∧ (∀ w, w ≠ 30 → r.1 w = R w) ∧ r.2 = M) := by
    intro v hv
    refine ih2 (6 - (c + 1)) _ (by omega) ⟨c + 1, _, by omega, rfl, rfl, fun k hk => ?_, fun w hw' => by rw [z_neP hw']; exact hw2 w hw'⟩
    by_cases hkk : k = 6 * a + c
    · subst hkk; rw [z_same, hv]
    · rw [z_neK hkk]; exact h2 k (by omega)
  have htb := opO_tb (U := U) (A := A) hp
  have no : ¬ (0 < U.2.2.1 (6 * a + c) ∧ 0 < A.2.1 (6 * a + c)) → 0 = bitN (opO U A) (6 * a + c) := by
    intro h
    rw [eq_comm, bitN_0, htb]
    exact decide_eq_false h
  have hip := f_isPair_e hR2 hU (x := a) (y := c) (by omega) (by omega)
  have hiw0 := f_isWay_e (L := M) hR2 hU (x := a) (y := c) (by omega) (by omega)
  have hy : (6 * a + c) / 6 = a ∧ (6 * a + c) % 6 = c := by omega
  have hwp := (hU.2.1 (6 * a + c) hp).2
  rw [hy.1, hy.2] at hwp
  by_cases hpr : a < U.1 ∧ c < U.1 ∧ a ≠ c
  · have hiw := hiw0 (by omega)
    by_cases hw0 : 0 < U.2.2.1 (6 * a + c)
    · have d : R2 21 (6 * a + c) = qi (A.2.1 (6 * a + c)) := by rw [hw2 21 (by omega)]; have := hS.2.1 _ hp; rw [Nat.mul_zero, Nat.zero_add] at this; exact this
      have hh := SB_held hA hp
      by_cases hh0 : 0 < A.2.1 (6 * a + c)
      · have g := hgo 1 (by rw [eq_comm, bitN_1, htb]; exact decide_eq_true ⟨hw0, hh0⟩)
        simp (disch := omega) only [b_isAsHeld_10, hip, hpr, and_self, hiw, hw0, f_at, d, nar_q1, ↓reduceIte, o_bind, and_true, true_and, and_false, false_and, or_true, true_or, or_false, false_or, not_true, not_false_eq_true, not_false_iff, ne_eq, Nat.reduceAdd, Nat.reduceMul, Nat.reduceSub, Nat.reduceDiv, Nat.reduceMod, Nat.reduceLT, Nat.reduceLeDiff, Nat.reduceEqDiff, Nat.not_lt, Nat.not_le, Nat.add_zero, Nat.zero_add, Nat.mul_zero, Nat.zero_mul, q_lit, ↓q_m1, q_om, q_on, q_add, q_mul, q_sub, q_div, q_md, q_ltT, q_ltF, q_leT, q_leF, q_eqT, q_eqF, q_inT, q_inF, q_nn, q_mlt, q_ltm, q_mle, q_lem, q_nem, q_mne]
        exact g
      · have g := hgo 0 (no (fun h => hh0 h.2))
        simp (disch := omega) only [b_isAsHeld_10, hip, hpr, and_self, hiw, hw0, f_at, d, nar_q0, ↓reduceIte, o_bind, and_true, true_and, and_false, false_and, or_true, true_or, or_false, false_or, not_true, not_false_eq_true, not_false_iff, ne_eq, Nat.reduceAdd, Nat.reduceMul, Nat.reduceSub, Nat.reduceDiv, Nat.reduceMod, Nat.reduceLT, Nat.reduceLeDiff, Nat.reduceEqDiff, Nat.not_lt, Nat.not_le, Nat.add_zero, Nat.zero_add, Nat.mul_zero, Nat.zero_mul, q_lit, ↓q_m1, q_om, q_on, q_add, q_mul, q_sub, q_div, q_md, q_ltT, q_ltF, q_leT, q_leF, q_eqT, q_eqF, q_inT, q_inF, q_nn, q_mlt, q_ltm, q_mle, q_lem, q_nem, q_mne]
        exact g
    · have g := hgo 0 (no (fun h => hw0 h.1))
      simp (disch := omega) only [b_isAsHeld_10, hip, hpr, and_self, hiw, hw0, nar_q0, ↓reduceIte, o_bind, and_true, true_and, and_false, false_and, or_true, true_or, or_false, false_or, not_true, not_false_eq_true, not_false_iff, ne_eq, Nat.reduceAdd, Nat.reduceMul, Nat.reduceSub, Nat.reduceDiv, Nat.reduceMod, Nat.reduceLT, Nat.reduceLeDiff, Nat.reduceEqDiff, Nat.not_lt, Nat.not_le, Nat.add_zero, Nat.zero_add, Nat.mul_zero, Nat.zero_mul, q_lit, ↓q_m1, q_om, q_on, q_add, q_mul, q_sub, q_div, q_md, q_ltT, q_ltF, q_leT, q_leF, q_eqT, q_eqF, q_inT, q_inF, q_nn, q_mlt, q_ltm, q_mle, q_lem, q_nem, q_mne]
      exact g
  · have g := hgo 0 (no (fun h => hpr (hwp h.1)))
    simp (disch := omega) only [b_isAsHeld_10, hip, hpr, nar_q0, ↓reduceIte, o_bind, and_true, true_and, and_false, false_and, or_true, true_or, or_false, false_or, not_true, not_false_eq_true, not_false_iff, ne_eq, Nat.reduceAdd, Nat.reduceMul, Nat.reduceSub, Nat.reduceDiv, Nat.reduceMod, Nat.reduceLT, Nat.reduceLeDiff, Nat.reduceEqDiff, Nat.not_lt, Nat.not_le, Nat.add_zero, Nat.zero_add, Nat.mul_zero, Nat.zero_mul, q_lit, ↓q_m1, q_om, q_on, q_add, q_mul, q_sub, q_div, q_md, q_ltT, q_ltF, q_leT, q_leF, q_eqT, q_eqF, q_inT, q_inF, q_nn, q_mlt, q_ltm, q_mle, q_lem, q_nem, q_mne]
    exact g
theorem m_word {a1 : Int32} (h : JP n K N G V R M) : zX (f_X10_word N G 0 a1 V L) (f_word a1 R M) (fun r r' => r = r'.1 ∧ JP n K N G V r'.2.1 r'.2.2) := by
  obtain ⟨u, b, f0, cnt, acts, x, pl, U, A, hi, h⟩ := h
  have hp : JP n K N G V R M := ⟨u, b, f0, cnt, acts, x, pl, U, A, hi, h⟩
  obtain ⟨⟨hn, -, hx, g2, hu, -⟩, -⟩ := id h.1
  obtain ⟨⟨g1, gs, gr, gt⟩, ⟨hU, hA⟩, -⟩ := id h.2.1
  have htw := UB_tw hU
  unfold f_X10_word g_X10_word f_word
  rw [g2, hx.1.2.1]
  simp only [o_bind]
  rcases x_isTown (L := L) g1 gr hU a1 with ⟨e1, e2⟩ | ⟨a, rfl, ha, e1, e2⟩
  · simp (disch := omega) only [e1, e2, ↓reduceIte, o_bind, and_true, true_and, and_false, false_and, or_true, true_or, or_false, false_or, not_true, not_false_eq_true, not_false_iff, ne_eq, Nat.reduceAdd, Nat.reduceMul, Nat.reduceSub, Nat.reduceDiv, Nat.reduceMod, Nat.reduceLT, Nat.reduceLeDiff, Nat.reduceEqDiff, Nat.not_lt, Nat.not_le, Nat.add_zero, Nat.zero_add, Nat.mul_zero, Nat.zero_mul, q_lit, ↓q_m1, q_om, q_on, q_add, q_mul, q_sub, q_div, q_md, q_ltT, q_ltF, q_leT, q_leF, q_eqT, q_eqF, q_inT, q_inF, q_nn, q_mlt, q_ltm, q_mle, q_lem, q_nem, q_mne]
    exact zX_some ⟨rfl, hp⟩
  · have ec := cs_reach (o := opO U A) opO_b (t := a) (by omega)
    simp (disch := omega) only [e1, e2, cs_open hx hu g1 gs hU hA, ec, ↓reduceIte, o_bind, and_true, true_and, and_false, false_and, or_true, true_or, or_false, false_or, not_true, not_false_eq_true, not_false_iff, ne_eq, Nat.reduceAdd, Nat.reduceMul, Nat.reduceSub, Nat.reduceDiv, Nat.reduceMod, Nat.reduceLT, Nat.reduceLeDiff, Nat.reduceEqDiff, Nat.not_lt, Nat.not_le, Nat.add_zero, Nat.zero_add, Nat.mul_zero, Nat.zero_mul, q_lit, ↓q_m1, q_om, q_on, q_add, q_mul, q_sub, q_div, q_md, q_ltT, q_ltF, q_leT, q_leF, q_eqT, q_eqF, q_inT, q_inF, q_nn, q_mlt, q_ltm, q_mle, q_lem, q_nem, q_mne]
    refine zX_callR (r_asHeld gr gt hU hA) ?_
    rintro ⟨R1, M1⟩ ⟨p1, p2, p3⟩
    dsimp only at p1 p2 p3 ⊢
    subst p3
    rw [r_wordF (by omega) p1, o_bind]
    refine zX_some ?_
    dsimp only
    exact ⟨rfl, u, b, f0, cnt, acts, x, pl, U, A, hi, JJ_core h (fun _ _ _ => rfl) (cR_pl (fun w hw => p2 w (by omega))) ⟨rfl, rfl⟩⟩
end
