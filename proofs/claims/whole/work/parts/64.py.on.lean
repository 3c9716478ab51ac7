section
variable {n : Nat} {K N : Nat → Nat} {G : zG} {V R : zI} {L M : zL} {u b f0 cnt acts x : Nat} {pl : Nat → Nat} {U : aU} {A : aS} {hi : Nat → aS} {t : Nat → Nat} {tl : Nat}
theorem cs_begin {s p : Nat} (hs : stS N G s) (hp : p < s ∨ s + 7 ≤ p) (hN : N p = 36) : zW (f_X7_begin N G s p V L) (fun r => (∀ k, k < 36 → r.1 (s + 1) k = V p k ∧ r.1 (s + 2) k = qi 0 ∧ r.1 (s + 3) k = qi 0) ∧ (r.1 s 0 = qi 0 ∧ r.1 s 4 = qi 0 ∧ r.1 s 7 = qi 0) ∧ (∀ w, w ≠ s → w ≠ s + 1 → w ≠ s + 2 → w ≠ s + 3 → r.1 w = V w) ∧ r.2 = L) := by
  obtain ⟨⟨g1, g2, g3, -⟩, n1, n2, n3, -⟩ := hs
  unfold f_X7_begin g_X7_begin
  rw [g1, g2, g3]
  simp only [o_bind]
  refine zW_lp (I := fun r q => ∃ (i : Nat) (V1 : zI), i ≤ 36 ∧ r = 36 - i ∧ q = (qi i, V1, L) ∧ (∀ k, k < i → V1 (s + 1) k = V p k ∧ V1 (s + 2) k = qi 0 ∧ V1 (s + 3) k = qi 0) ∧ (V1 s 0 = qi 0 ∧ V1 s 4 = qi 0 ∧ V1 s 7 = qi 0) ∧ ∀ w, w ≠ s → w ≠ s + 1 → w ≠ s + 2 → w ≠ s + 3 → V1 w = V w) ?_ FU 36 _ ⟨0, _, by omega, by omega, rfl, fun k hk => absurd hk (by omega), ⟨?_, ?_, ?_⟩, fun w w0 _ _ _ => ?_⟩ (FU_big (by omega))
  rotate_left
  · simp (disch := omega) only [z_same, z_neP, z_neK, zL_same, zL_neP, zL_neK, zr_same, zr_ne]; rfl
  · simp (disch := omega) only [z_same, z_neP, z_neK, zL_same, zL_neP, zL_neK, zr_same, zr_ne]; rfl
  · simp (disch := omega) only [z_same, z_neP, z_neK, zL_same, zL_neP, zL_neK, zr_same, zr_ne]; rfl
  · simp (disch := omega) only [z_same, z_neP, z_neK, zL_same, zL_neP, zL_neK, zr_same, zr_ne]
  rintro k r q ⟨i, V1, hi, rfl, rfl, h1, h2, h3⟩ ih
  by_cases hend : i = 36
  · subst hend
    simp (disch := omega) only [b_X7_begin_17, ↓reduceIte, o_bind, and_true, true_and, and_false, false_and, or_true, true_or, or_false, false_or, not_true, not_false_eq_true, not_false_iff, ne_eq, Nat.reduceAdd, Nat.reduceMul, Nat.reduceSub, Nat.reduceDiv, Nat.reduceMod, Nat.reduceLT, Nat.reduceLeDiff, Nat.reduceEqDiff, Nat.not_lt, Nat.not_le, q_lit, ↓q_m1, q_om, q_on, q_add, q_mul, q_sub, q_div, q_md, q_ltT, q_ltF, q_leT, q_leF, q_eqT, q_eqF, q_inT, q_inF, q_nn, q_mlt, q_ltm, q_mle, q_lem, q_nem, q_mne]
    exact zW_some ⟨h1, h2, h3, rfl⟩
  · have e : V1 p i = V p i := by rw [h3 p (by omega) (by omega) (by omega) (by omega)]
    simp (disch := omega) only [b_X7_begin_17, f_X7_begin_41, hN, n1, n2, n3, e, ↓reduceIte, o_bind, and_true, true_and, and_false, false_and, or_true, true_or, or_false, false_or, not_true, not_false_eq_true, not_false_iff, ne_eq, Nat.reduceAdd, Nat.reduceMul, Nat.reduceSub, Nat.reduceDiv, Nat.reduceMod, Nat.reduceLT, Nat.reduceLeDiff, Nat.reduceEqDiff, Nat.not_lt, Nat.not_le, q_lit, ↓q_m1, q_om, q_on, q_add, q_mul, q_sub, q_div, q_md, q_ltT, q_ltF, q_leT, q_leF, q_eqT, q_eqF, q_inT, q_inF, q_nn, q_mlt, q_ltm, q_mle, q_lem, q_nem, q_mne]
    refine ih (36 - (i + 1)) _ (by omega) ⟨i + 1, _, by omega, rfl, rfl, fun k hk => ?_, ?_, fun w w0 w1 w2 w3 => ?_⟩
    · by_cases hki : k = i
      · subst hki; simp (disch := omega) only [z_same, z_neP, z_neK, zL_same, zL_neP, zL_neK, zr_same, zr_ne, and_self]
      · simp (disch := omega) only [z_same, z_neP, z_neK, zL_same, zL_neP, zL_neK, zr_same, zr_ne]; exact h1 k (by omega)
    · simp (disch := omega) only [z_same, z_neP, z_neK, zL_same, zL_neP, zL_neK, zr_same, zr_ne]; exact h2
    · simp (disch := omega) only [z_same, z_neP, z_neK, zL_same, zL_neP, zL_neK, zr_same, zr_ne]; exact h3 w w0 w1 w2 w3
/-! The bytes of an image. -/
def rkP (tw : Nat) : Nat → Nat
  | 0 => 0
  | p + 1 => rkP tw p + (if p / 6 < tw ∧ p % 6 < tw ∧ p / 6 ≠ p % 6 then 1 else 0)
theorem rkP_b {tw : Nat} : ∀ p, p ≤ 36 → rkP tw p ≤ p := by
  intro p
  induction p with
  | zero => intro _; exact Nat.le_refl _
  | succ p ih =>
    intro hp
    have := ih (by omega)
    simp only [rkP]
    split <;> omega
theorem rkP_36 : ∀ tw, tw ≤ 6 → rkP tw 36 = tw * (tw - 1) := by decide
theorem rkP_mono {tw p : Nat} : ∀ q, p ≤ q → rkP tw p ≤ rkP tw q := by
  intro q
  induction q with
  | zero => intro h; rw [show p = 0 by omega]; exact Nat.le_refl _
  | succ q ih =>
    intro h
    by_cases e : p = q + 1
    · rw [e]; exact Nat.le_refl _
    · have := ih (by omega)
      simp only [rkP]
      split <;> omega
theorem rkP_skip {tw p : Nat} : ∀ q, p ≤ q → (∀ k, p ≤ k → k < q → ¬ (k / 6 < tw ∧ k % 6 < tw ∧ k / 6 ≠ k % 6)) → rkP tw q = rkP tw p := by
  intro q
  induction q with
  | zero => intro h _; rw [show p = 0 by omega]
  | succ q ih =>
    intro h hk
    by_cases e : p = q + 1
    · rw [e]
    · have h1 := ih (by omega) (fun k a c => hk k a (by omega))
      simp only [rkP]
      rw [if_neg (hk q (by omega) (by omega)), h1, Nat.add_zero]
def chT (t : Nat → Nat) : Nat → Nat
  | 0 => 191
  | i + 1 => (5 * chT t i + t i) % 251
theorem chT_b (t : Nat → Nat) : ∀ i, chT t i < 251 := by
  intro i
  cases i with
  | zero => show 191 < 251; decide
  | succ i => exact Nat.mod_lt _ (by omega)
def cnP (tw : Nat) (t : Nat → Nat) (p : Nat) : Prop := t (2 + 3 * rkP tw p) ≤ 99 ∧ t (2 + 3 * rkP tw p + 1) ≤ 99 ∧ t (2 + 3 * rkP tw p + 2) ≤ 99
def ltP (U : aU) (t : Nat → Nat) (at' k : Nat) : Prop := (t (at' + 3 * k) < U.1 ∧ t (at' + 3 * k + 1) < U.1 ∧ t (at' + 3 * k) ≠ t (at' + 3 * k + 1)) ∧ 1 ≤ t (at' + 3 * k + 2) ∧ t (at' + 3 * k + 2) ≤ U.2.2.1 (6 * t (at' + 3 * k) + t (at' + 3 * k + 1))
def isQ (tw p : Nat) : Prop := p / 6 < tw ∧ p % 6 < tw ∧ p / 6 ≠ p % 6
def onP (U : aU) (t : Nat → Nat) (tl : Nat) : Prop := (3 * (U.1 * (U.1 - 1)) + 4 ≤ tl ∧ t 0 * 256 + t 1 ≤ 999 ∧ t (2 + 3 * (U.1 * (U.1 - 1))) ≤ 60 ∧ tl = 3 * (U.1 * (U.1 - 1)) + 4 + 3 * t (2 + 3 * (U.1 * (U.1 - 1))) ∧ chT t (tl - 1) = t (tl - 1)) ∧ (∀ p, p < 36 → isQ U.1 p → cnP U.1 t p) ∧ ∀ k, k < t (2 + 3 * (U.1 * (U.1 - 1))) → ltP U t (3 + 3 * (U.1 * (U.1 - 1))) k
/-- what an image tells -/
def onA (U : aU) (t : Nat → Nat) (A : aS) : Prop := (A.1 = t 0 * 256 + t 1 ∧ A.2.2.2.2.1 = t (2 + 3 * (U.1 * (U.1 - 1))) ∧ A.2.2.2.2.2.2.2.1 = 0) ∧ (∀ p, p < 36 → isQ U.1 p → A.2.1 p = t (2 + 3 * rkP U.1 p) ∧ A.2.2.1 p = t (2 + 3 * rkP U.1 p + 1) ∧ A.2.2.2.1 p = t (2 + 3 * rkP U.1 p + 2)) ∧ (∀ p, p < 36 → ¬ isQ U.1 p → A.2.1 p = 0 ∧ A.2.2.1 p = 0 ∧ A.2.2.2.1 p = 0) ∧ ∀ k, k < t (2 + 3 * (U.1 * (U.1 - 1))) → A.2.2.2.2.2.1 k = 6 * t (3 + 3 * (U.1 * (U.1 - 1)) + 3 * k) + t (3 + 3 * (U.1 * (U.1 - 1)) + 3 * k + 1) ∧ A.2.2.2.2.2.2.1 k = t (3 + 3 * (U.1 * (U.1 - 1)) + 3 * k + 2)
theorem q_tri {tw : Nat} (h : tw ≤ 6) : qi tw * (qi tw - qi 1) = qi (tw * (tw - 1)) := by
  rcases (by omega : tw = 0 ∨ tw = 1 ∨ tw = 2 ∨ tw = 3 ∨ tw = 4 ∨ tw = 5 ∨ tw = 6) with rfl | rfl | rfl | rfl | rfl | rfl | rfl <;> rfl
theorem tri_b {tw : Nat} (h : tw ≤ 6) : tw * (tw - 1) ≤ 30 := by
  rcases (by omega : tw = 0 ∨ tw = 1 ∨ tw = 2 ∨ tw = 3 ∨ tw = 4 ∨ tw = 5 ∨ tw = 6) with rfl | rfl | rfl | rfl | rfl | rfl | rfl <;> decide
theorem q_shl8 : ∀ k, k < 256 → qi k <<< (qi 8 &&& qi 31) = qi (256 * k) := by decide +kernel
theorem q_day {a c : Nat} (ha : a < 256) (hc : c < 256) : (qi a <<< (qi 8 &&& qi 31)) ||| qi c = qi (a * 256 + c) := by
  rw [q_shl8 a ha, q_or (by omega) (by omega)]
  have e := Nat.two_pow_add_eq_or_of_lt (i := 8) hc a
  rw [show (2 : Nat) ^ 8 = 256 from rfl] at e
  rw [← e, Nat.mul_comm]
def byC (V : zI) (t : Nat → Nat) (tl : Nat) : Prop := ∀ k, k < tl → t k < 256 ∧ V 1 k &&& qi 255 = qi (t k)
theorem c_chkF (hx : fxS N G) (h1 : 1 ≤ tl) (h2 : tl ≤ 1600) (ht : byC V t tl) : f_X3_checkFits N G 1 (qi tl) V L = some (qi (if chT t (tl - 1) = t (tl - 1) then 1 else 0)) := by
  have n1 : N 1 = 1600 := hx.2.2.2.1
  apply zW_of
  unfold f_X3_checkFits g_X3_checkFits
  refine zW_lp (I := fun r q => ∃ i : Nat, i ≤ tl - 1 ∧ r = tl - 1 - i ∧ q = (qi tl, qi (chT t i), qi i)) ?_ FU (tl - 1) _ ⟨0, by omega, by omega, rfl⟩ (FU_big (by omega))
  rintro k r q ⟨i, hi, rfl, rfl⟩ ih
  have hcb := chT_b t i
  by_cases hend : i = tl - 1
  · obtain ⟨d1, d2⟩ := ht (tl - 1) (by omega)
    rw [hend] at hcb ⊢
    by_cases he : chT t (tl - 1) = t (tl - 1)
    · simp (disch := omega) only [b_X3_checkFits_6, f_X3_checkFits_37, n1, d2, he, Nat.le_refl, ↓reduceIte, o_bind, and_true, true_and, and_false, false_and, or_true, true_or, or_false, false_or, not_true, not_false_eq_true, not_false_iff, ne_eq, Nat.reduceAdd, Nat.reduceMul, Nat.reduceSub, Nat.reduceDiv, Nat.reduceMod, Nat.reduceLT, Nat.reduceLeDiff, Nat.reduceEqDiff, Nat.not_lt, Nat.not_le, q_lit, ↓q_m1, q_om, q_on, q_add, q_mul, q_sub, q_div, q_md, q_ltT, q_ltF, q_leT, q_leF, q_eqT, q_eqF, q_inT, q_inF, q_nn, q_mlt, q_ltm, q_mle, q_lem, q_nem, q_mne]
      exact zW_some rfl
    · simp (disch := omega) only [b_X3_checkFits_6, f_X3_checkFits_37, n1, d2, he, Nat.le_refl, ↓reduceIte, o_bind, and_true, true_and, and_false, false_and, or_true, true_or, or_false, false_or, not_true, not_false_eq_true, not_false_iff, ne_eq, Nat.reduceAdd, Nat.reduceMul, Nat.reduceSub, Nat.reduceDiv, Nat.reduceMod, Nat.reduceLT, Nat.reduceLeDiff, Nat.reduceEqDiff, Nat.not_lt, Nat.not_le, q_lit, ↓q_m1, q_om, q_on, q_add, q_mul, q_sub, q_div, q_md, q_ltT, q_ltF, q_leT, q_leF, q_eqT, q_eqF, q_inT, q_inF, q_nn, q_mlt, q_ltm, q_mle, q_lem, q_nem, q_mne]
      exact zW_some rfl
  · obtain ⟨d1, d2⟩ := ht i (by omega)
    simp (disch := omega) only [b_X3_checkFits_6, n1, d2, f_X3_checkOn, g_X3_checkOn, ↓reduceIte, o_bind, and_true, true_and, and_false, false_and, or_true, true_or, or_false, false_or, not_true, not_false_eq_true, not_false_iff, ne_eq, Nat.reduceAdd, Nat.reduceMul, Nat.reduceSub, Nat.reduceDiv, Nat.reduceMod, Nat.reduceLT, Nat.reduceLeDiff, Nat.reduceEqDiff, Nat.not_lt, Nat.not_le, q_lit, ↓q_m1, q_om, q_on, q_add, q_mul, q_sub, q_div, q_md, q_ltT, q_ltF, q_leT, q_leF, q_eqT, q_eqF, q_inT, q_inF, q_nn, q_mlt, q_ltm, q_mle, q_lem, q_nem, q_mne]
    exact ih (tl - 1 - (i + 1)) _ (by omega) ⟨i + 1, by omega, rfl, rfl⟩
theorem q_mx {a c d : Nat} (ha : a < 256) (hc : c < 256) (hd : d < 256) : ((if qi a < (if qi c < qi d then qi d else qi c) then (if qi c < qi d then qi d else qi c) else qi a) ≤ qi 99) ↔ (a ≤ 99 ∧ c ≤ 99 ∧ d ≤ 99) := by
  by_cases h1 : c < d
  · rw [if_pos ((q_lt (by omega) (by omega)).mpr h1)]
    by_cases h2 : a < d
    · rw [if_pos ((q_lt (by omega) (by omega)).mpr h2), q_le (by omega) (by omega)]
      omega
    · rw [if_neg (fun h => h2 ((q_lt (by omega) (by omega)).mp h)), q_le (by omega) (by omega)]
      omega
  · rw [if_neg (fun h => h1 ((q_lt (by omega) (by omega)).mp h))]
    by_cases h2 : a < c
    · rw [if_pos ((q_lt (by omega) (by omega)).mpr h2), q_le (by omega) (by omega)]
      omega
    · rw [if_neg (fun h => h2 ((q_lt (by omega) (by omega)).mp h)), q_le (by omega) (by omega)]
      omega
set_option maxHeartbeats 4000000 in
theorem c_rdC (hx : fxS N G) (hu : unS N G u) (hC : UC N G V u U) (hU : UB U) (ht : byC V t (3 * (U.1 * (U.1 - 1)) + 2)) : zW (f_X3_readCounts N G 1 u 13 V L) (fun r => ((r.1 = qi 1 ∧ (∀ p, p < 36 → isQ U.1 p → cnP U.1 t p) ∧ (∀ p, p < 36 → isQ U.1 p → r.2.1 14 p = qi (t (2 + 3 * rkP U.1 p)) ∧ r.2.1 15 p = qi (t (2 + 3 * rkP U.1 p + 1)) ∧ r.2.1 16 p = qi (t (2 + 3 * rkP U.1 p + 2)))) ∨ (r.1 = qi 0 ∧ ¬ ∀ p, p < 36 → isQ U.1 p → cnP U.1 t p)) ∧ (∀ p, p < 36 → ¬ isQ U.1 p → r.2.1 14 p = V 14 p ∧ r.2.1 15 p = V 15 p ∧ r.2.1 16 p = V 16 p) ∧ (∀ w, w ≠ 14 → w ≠ 15 → w ≠ 16 → r.2.1 w = V w) ∧ r.2.2 = L) := by
  have htw := UB_tw hU
  have hu1 := hu.1
  have htri := tri_b htw
  have h36 := rkP_36 U.1 htw
  have n1 : N 1 = 1600 := hx.2.2.2.1
  obtain ⟨⟨k1, k2, k3, -⟩, m1, m2, m3, -⟩ := id hx.2.2.1
  unfold f_X3_readCounts g_X3_readCounts
  rw [k1, k2, k3]
  simp only [o_bind]
  refine zW_lp (I := fun r q => ∃ (p : Nat) (V1 : zI), p ≤ 36 ∧ r = 36 - p ∧ q = (qi (2 + 3 * rkP U.1 p), qi p, V1, L) ∧ (∀ j, j < p → isQ U.1 j → cnP U.1 t j ∧ V1 14 j = qi (t (2 + 3 * rkP U.1 j)) ∧ V1 15 j = qi (t (2 + 3 * rkP U.1 j + 1)) ∧ V1 16 j = qi (t (2 + 3 * rkP U.1 j + 2))) ∧ (∀ j, j < 36 → ¬ isQ U.1 j → V1 14 j = V 14 j ∧ V1 15 j = V 15 j ∧ V1 16 j = V 16 j) ∧ ∀ w, w ≠ 14 → w ≠ 15 → w ≠ 16 → V1 w = V w) ?_ FU 36 _ ⟨0, V, by omega, by omega, rfl, fun j hj => absurd hj (by omega), fun _ _ _ => ⟨rfl, rfl, rfl⟩, fun _ _ _ _ => rfl⟩ (FU_big (by omega))
  rintro k r q ⟨p, V1, hp, rfl, rfl, h1, h2, hw⟩ ih
  have hC1 : UC N G V1 u U := UC_fr2 hu hC (fun w hw' => hw w (by omega) (by omega) (by omega))
  have hrk := rkP_b (tw := U.1) p hp
  by_cases hend : p = 36
  · subst hend
    simp (disch := omega) only [b_X3_readCounts_5, ↓reduceIte, o_bind, and_true, true_and, and_false, false_and, or_true, true_or, or_false, false_or, not_true, not_false_eq_true, not_false_iff, ne_eq, Nat.reduceAdd, Nat.reduceMul, Nat.reduceSub, Nat.reduceDiv, Nat.reduceMod, Nat.reduceLT, Nat.reduceLeDiff, Nat.reduceEqDiff, Nat.not_lt, Nat.not_le, q_lit, ↓q_m1, q_om, q_on, q_add, q_mul, q_sub, q_div, q_md, q_ltT, q_ltF, q_leT, q_leF, q_eqT, q_eqF, q_inT, q_inF, q_nn, q_mlt, q_ltm, q_mle, q_lem, q_nem, q_mne]
    exact zW_some ⟨Or.inl ⟨rfl, fun j hj hq => (h1 j hj hq).1, fun j hj hq => (h1 j hj hq).2⟩, h2, hw, rfl⟩
  have hip := f_X9_isPair_e (L := L) hC1 hU (x := p / 6) (y := p % 6) (by omega) (by omega)
  by_cases hc : p / 6 < U.1 ∧ p % 6 < U.1 ∧ p / 6 ≠ p % 6
  · have ers : rkP U.1 (p + 1) = rkP U.1 p + 1 := by simp only [rkP]; rw [if_pos hc]
    have hmo := rkP_mono (tw := U.1) (p := p + 1) 36 (by omega)
    have hb0 : 2 + 3 * rkP U.1 p + 2 < 3 * (U.1 * (U.1 - 1)) + 2 := by omega
    have w1 : V1 1 = V 1 := hw 1 (by omega) (by omega) (by omega)
    obtain ⟨a1, a2⟩ := ht (2 + 3 * rkP U.1 p) (by omega)
    obtain ⟨b1, b2⟩ := ht (2 + 3 * rkP U.1 p + 1) (by omega)
    obtain ⟨c1, c2⟩ := ht (2 + 3 * rkP U.1 p + 2) (by omega)
    rw [← w1] at a2 b2 c2
    generalize ea : 2 + 3 * rkP U.1 p = at' at *
    have emx := q_mx a1 b1 c1
    simp (maxSteps := 4000000) (disch := omega) only [b_X3_readCounts_5, hip, hc, and_self, n1, m1, m2, m3, a2, b2, c2, ↓reduceIte, o_bind, and_true, true_and, and_false, false_and, or_true, true_or, or_false, false_or, not_true, not_false_eq_true, not_false_iff, ne_eq, Nat.reduceAdd, Nat.reduceMul, Nat.reduceSub, Nat.reduceDiv, Nat.reduceMod, Nat.reduceLT, Nat.reduceLeDiff, Nat.reduceEqDiff, Nat.not_lt, Nat.not_le, q_lit, ↓q_m1, q_om, q_on, q_add, q_mul, q_sub, q_div, q_md, q_ltT, q_ltF, q_leT, q_leF, q_eqT, q_eqF, q_inT, q_inF, q_nn, q_mlt, q_ltm, q_mle, q_lem, q_nem, q_mne, z_same, z_neP, z_neK, zL_same, zL_neP, zL_neK, zr_same, zr_ne]
    by_cases hcn : t at' ≤ 99 ∧ t (at' + 1) ≤ 99 ∧ t (at' + 2) ≤ 99
    · rw [if_pos (emx.mpr hcn)]
      have eat : at' + 3 = 2 + 3 * rkP U.1 (p + 1) := by omega
      rw [eat]
      refine ih (36 - (p + 1)) _ (by omega) ⟨p + 1, _, by omega, rfl, rfl, fun j hj hq => ?_, fun j hj hq => ?_, fun w w4 w5 w6 => by rw [z_neP w6, z_neP w5, z_neP w4]; exact hw w w4 w5 w6⟩
      · by_cases hjp : j = p
        · subst hjp
          unfold cnP
          rw [ea]
          refine ⟨hcn, ?_, ?_, ?_⟩
          · simp (disch := omega) only [z_same, z_neP, z_neK, zL_same, zL_neP, zL_neK, zr_same, zr_ne]
          · simp (disch := omega) only [z_same, z_neP, z_neK, zL_same, zL_neP, zL_neK, zr_same, zr_ne]
          · simp (disch := omega) only [z_same, z_neP, z_neK, zL_same, zL_neP, zL_neK, zr_same, zr_ne]
        · have g := h1 j (by omega) hq
          simp (disch := omega) only [z_same, z_neP, z_neK, zL_same, zL_neP, zL_neK, zr_same, zr_ne]
          exact g
      · have hjp : j ≠ p := fun e => hq (by rw [e]; exact hc)
        simp (disch := omega) only [z_same, z_neP, z_neK, zL_same, zL_neP, zL_neK, zr_same, zr_ne]
        exact h2 j hj hq
    · rw [if_neg (fun h => hcn (emx.mp h))]
      refine zW_some ?_
      dsimp only
      refine ⟨Or.inr ⟨rfl, fun h => ?_⟩, fun j hj hq => ?_, fun w w4 w5 w6 => by rw [z_neP w6, z_neP w5, z_neP w4]; exact hw w w4 w5 w6, rfl⟩
      · have g := h p (by omega) hc
        unfold cnP at g
        rw [ea] at g
        exact hcn g
      · have hjp : j ≠ p := fun e => hq (by rw [e]; exact hc)
        simp (disch := omega) only [z_same, z_neP, z_neK, zL_same, zL_neP, zL_neK, zr_same, zr_ne]
        exact h2 j hj hq
  · have ers : rkP U.1 (p + 1) = rkP U.1 p := by simp only [rkP]; rw [if_neg hc, Nat.add_zero]
    rw [if_neg hc] at hip
    have hip2 : f_X9_isPair N G u (qi p / 6) (qi p - qi p / 6 * 6) V1 L = some (qi 0) := by
      rw [← hip]
      congr 1
      · show qi p / qi 6 = qi (p / 6)
        exact q_div (by omega) (by omega)
      · show qi p - qi p / qi 6 * qi 6 = _
        rw [q_div (by omega) (by omega), q_mul, q_sub (Nat.div_mul_le_self _ _), q_md]
    have estep : b_X3_readCounts_5 N G 1 u 13 (13 + 1) (13 + 2) (13 + 3) k (qi (2 + 3 * rkP U.1 p), qi p, V1, L) = k (qi (2 + 3 * rkP U.1 p), qi (p + 1), V1, L) := by
      unfold b_X3_readCounts_5
      dsimp only
      rw [if_neg (fun h => by have := (q_le (a := 36) (b := p) (by omega) (by omega)).mp h; omega), hip2, o_bind, if_pos (show qi 0 = 0 from rfl), show qi p + 1 = qi (p + 1) from q_add p 1]
    rw [estep]
    refine ih (36 - (p + 1)) _ (by omega) ⟨p + 1, V1, by omega, rfl, by rw [ers], fun j hj hq => ?_, h2, hw⟩
    by_cases hjp : j = p
    · subst hjp; exact absurd hq hc
    · exact h1 j (by omega) hq
set_option maxHeartbeats 4000000 in
theorem c_rdL {at' m : Nat} (hx : fxS N G) (hu : unS N G u) (hC : UC N G V u U) (hU : UB U) (hm : m ≤ 60) (ham : at' + 3 * m + 1 ≤ 1600) (e4 : V 13 4 = qi m) (ht : byC V t (at' + 3 * m)) : zW (f_X3_readLetters N G 1 u 13 (qi at') V L) (fun r => ((r.1 = qi 1 ∧ (∀ k, k < m → ltP U t at' k) ∧ (∀ k, k < m → r.2.1 17 k = qi (6 * t (at' + 3 * k) + t (at' + 3 * k + 1)) ∧ r.2.1 18 k = qi (t (at' + 3 * k + 2)))) ∨ (r.1 = qi 0 ∧ ¬ ∀ k, k < m → ltP U t at' k)) ∧ (∀ w, w ≠ 17 → w ≠ 18 → r.2.1 w = V w) ∧ r.2.2 = L) := by
  have htw := UB_tw hU
  have hu1 := hu.1
  have n1 : N 1 = 1600 := hx.2.2.2.1
  have n3 : N (u + 3) = 36 := hu.2.2.2.2
  obtain ⟨⟨-, -, -, k5, k6, -⟩, -, -, -, m4, m5, -⟩ := id hx.2.2.1
  unfold f_X3_readLetters g_X3_readLetters
  rw [hu.2.1.2.2, k5, k6]
  simp only [o_bind]
  refine zW_lp (I := fun r q => ∃ (k : Nat) (V1 : zI), k ≤ m ∧ r = m - k ∧ q = (qi (at' + 3 * k), qi k, V1, L) ∧ (∀ j, j < k → ltP U t at' j ∧ V1 17 j = qi (6 * t (at' + 3 * j) + t (at' + 3 * j + 1)) ∧ V1 18 j = qi (t (at' + 3 * j + 2))) ∧ ∀ w, w ≠ 17 → w ≠ 18 → V1 w = V w) ?_ FU m _ ⟨0, V, by omega, by omega, rfl, fun j hj => absurd hj (by omega), fun _ _ _ => rfl⟩ (FU_big (by omega))
  rintro kk r q ⟨k, V1, hk, rfl, rfl, h1, hw⟩ ih
  have hC1 : UC N G V1 u U := UC_fr2 hu hC (fun w hw' => hw w (by omega) (by omega))
  have e41 : V1 13 4 = qi m := by rw [hw 13 (by omega) (by omega)]; exact e4
  by_cases hend : k = m
  · subst hend
    simp (disch := omega) only [b_X3_readLetters_6, e41, Nat.le_refl, ↓reduceIte, o_bind, and_true, true_and, and_false, false_and, or_true, true_or, or_false, false_or, not_true, not_false_eq_true, not_false_iff, ne_eq, Nat.reduceAdd, Nat.reduceMul, Nat.reduceSub, Nat.reduceDiv, Nat.reduceMod, Nat.reduceLT, Nat.reduceLeDiff, Nat.reduceEqDiff, Nat.not_lt, Nat.not_le, q_lit, ↓q_m1, q_om, q_on, q_add, q_mul, q_sub, q_div, q_md, q_ltT, q_ltF, q_leT, q_leF, q_eqT, q_eqF, q_inT, q_inF, q_nn, q_mlt, q_ltm, q_mle, q_lem, q_nem, q_mne]
    exact zW_some ⟨Or.inl ⟨rfl, fun j hj => (h1 j hj).1, fun j hj => (h1 j hj).2⟩, hw, rfl⟩
  have w1 : V1 1 = V 1 := hw 1 (by omega) (by omega)
  obtain ⟨a1, a2⟩ := ht (at' + 3 * k) (by omega)
  obtain ⟨b1, b2⟩ := ht (at' + 3 * k + 1) (by omega)
  obtain ⟨c1, c2⟩ := ht (at' + 3 * k + 2) (by omega)
  rw [← w1] at a2 b2 c2
  have hip := f_X9_isPair_e (L := L) hC1 hU (x := t (at' + 3 * k)) (y := t (at' + 3 * k + 1)) (by omega) (by omega)
  by_cases hc : t (at' + 3 * k) < U.1 ∧ t (at' + 3 * k + 1) < U.1 ∧ t (at' + 3 * k) ≠ t (at' + 3 * k + 1)
  · have ew : V1 (u + 3) (6 * t (at' + 3 * k) + t (at' + 3 * k + 1)) = qi (U.2.2.1 (6 * t (at' + 3 * k) + t (at' + 3 * k + 1))) := hC1.2.1 _ (by omega)
    have hwb : U.2.2.1 (6 * t (at' + 3 * k) + t (at' + 3 * k + 1)) ≤ 45 := (hU.2.1 _ (by omega)).1
    have ei : t (at' + 3 * k) * 6 + t (at' + 3 * k + 1) = 6 * t (at' + 3 * k) + t (at' + 3 * k + 1) := by omega
    by_cases hl1 : 1 ≤ t (at' + 3 * k + 2)
    · by_cases hl2 : t (at' + 3 * k + 2) ≤ U.2.2.1 (6 * t (at' + 3 * k) + t (at' + 3 * k + 1))
      · simp (disch := omega) only [b_X3_readLetters_6, e41, n1, a2, b2, c2, hip, hc, and_self, ei, n3, ew, m4, m5, ↓reduceIte, o_bind, and_true, true_and, and_false, false_and, or_true, true_or, or_false, false_or, not_true, not_false_eq_true, not_false_iff, ne_eq, Nat.reduceAdd, Nat.reduceMul, Nat.reduceSub, Nat.reduceDiv, Nat.reduceMod, Nat.reduceLT, Nat.reduceLeDiff, Nat.reduceEqDiff, Nat.not_lt, Nat.not_le, q_lit, ↓q_m1, q_om, q_on, q_add, q_mul, q_sub, q_div, q_md, q_ltT, q_ltF, q_leT, q_leF, q_eqT, q_eqF, q_inT, q_inF, q_nn, q_mlt, q_ltm, q_mle, q_lem, q_nem, q_mne, z_same, z_neP, z_neK, zL_same, zL_neP, zL_neK, zr_same, zr_ne]
        have eat : at' + 3 * k + 3 = at' + 3 * (k + 1) := by omega
        rw [eat]
        refine ih (m - (k + 1)) _ (by omega) ⟨k + 1, _, by omega, rfl, rfl, fun j hj => ?_, fun w w7 w8 => by rw [z_neP w8, z_neP w7]; exact hw w w7 w8⟩
        by_cases hjk : j = k
        · subst hjk
          refine ⟨⟨hc, hl1, hl2⟩, ?_, ?_⟩
          · simp (disch := omega) only [z_same, z_neP, z_neK, zL_same, zL_neP, zL_neK, zr_same, zr_ne]
          · simp (disch := omega) only [z_same, z_neP, z_neK, zL_same, zL_neP, zL_neK, zr_same, zr_ne]
        · have g := h1 j (by omega)
          simp (disch := omega) only [z_same, z_neP, z_neK, zL_same, zL_neP, zL_neK, zr_same, zr_ne]
          exact g
      · simp (disch := omega) only [b_X3_readLetters_6, e41, n1, a2, b2, c2, hip, hc, and_self, ei, n3, ew, ↓reduceIte, o_bind, and_true, true_and, and_false, false_and, or_true, true_or, or_false, false_or, not_true, not_false_eq_true, not_false_iff, ne_eq, Nat.reduceAdd, Nat.reduceMul, Nat.reduceSub, Nat.reduceDiv, Nat.reduceMod, Nat.reduceLT, Nat.reduceLeDiff, Nat.reduceEqDiff, Nat.not_lt, Nat.not_le, q_lit, ↓q_m1, q_om, q_on, q_add, q_mul, q_sub, q_div, q_md, q_ltT, q_ltF, q_leT, q_leF, q_eqT, q_eqF, q_inT, q_inF, q_nn, q_mlt, q_ltm, q_mle, q_lem, q_nem, q_mne]
        exact zW_some ⟨Or.inr ⟨rfl, fun h => hl2 (h k (by omega)).2.2⟩, hw, rfl⟩
    · simp (disch := omega) only [b_X3_readLetters_6, e41, n1, a2, b2, c2, hip, hc, and_self, ↓reduceIte, o_bind, and_true, true_and, and_false, false_and, or_true, true_or, or_false, false_or, not_true, not_false_eq_true, not_false_iff, ne_eq, Nat.reduceAdd, Nat.reduceMul, Nat.reduceSub, Nat.reduceDiv, Nat.reduceMod, Nat.reduceLT, Nat.reduceLeDiff, Nat.reduceEqDiff, Nat.not_lt, Nat.not_le, q_lit, ↓q_m1, q_om, q_on, q_add, q_mul, q_sub, q_div, q_md, q_ltT, q_ltF, q_leT, q_leF, q_eqT, q_eqF, q_inT, q_inF, q_nn, q_mlt, q_ltm, q_mle, q_lem, q_nem, q_mne]
      exact zW_some ⟨Or.inr ⟨rfl, fun h => hl1 (h k (by omega)).2.1⟩, hw, rfl⟩
  · simp (disch := omega) only [b_X3_readLetters_6, e41, n1, a2, b2, c2, hip, hc, ↓reduceIte, o_bind, and_true, true_and, and_false, false_and, or_true, true_or, or_false, false_or, not_true, not_false_eq_true, not_false_iff, ne_eq, Nat.reduceAdd, Nat.reduceMul, Nat.reduceSub, Nat.reduceDiv, Nat.reduceMod, Nat.reduceLT, Nat.reduceLeDiff, Nat.reduceEqDiff, Nat.not_lt, Nat.not_le, q_lit, ↓q_m1, q_om, q_on, q_add, q_mul, q_sub, q_div, q_md, q_ltT, q_ltF, q_leT, q_leF, q_eqT, q_eqF, q_inT, q_inF, q_nn, q_mlt, q_ltm, q_mle, q_lem, q_nem, q_mne]
    exact zW_some ⟨Or.inr ⟨rfl, fun h => hc (h k (by omega)).1⟩, hw, rfl⟩
set_option maxHeartbeats 4000000 in
theorem c_read (hx : fxS N G) (hu : unS N G u) (hC : UC N G V u U) (hU : UB U) (htl : tl ≤ 1600) (ht : byC V t tl) : zW (f_X3_read N G 1 u 13 (qi tl) V L) (fun r => ((r.1 = qi 1 ∧ onP U t tl ∧ ∀ B, onA U t B → SC r.2.1 13 B) ∨ (r.1 = qi 0 ∧ ¬ onP U t tl)) ∧ ∀ w, (w < 13 ∨ 20 ≤ w) → r.2.1 w = V w) := by
  have htw := UB_tw hU
  have hu1 := hu.1
  have htri := tri_b htw
  have n1 : N 1 = 1600 := hx.2.2.2.1
  have n2 : N (u + 2) = 36 := hu.2.2.2.1
  have e0 : V u 0 = qi U.1 := hC.1.1
  have hst := hC.2.2.1.2
  have z0 : (0 : Int32).toNatClampNeg = 0 := rfl
  have z1 : (1 : Int32).toNatClampNeg = 1 := rfl
  have zq0 : (qi 0).toNatClampNeg = 0 := rfl
  have zq1 : (qi 1).toNatClampNeg = 1 := rfl
  have eT := q_tri htw
  have ecn : 2 + U.1 * (U.1 - 1) * 3 = 2 + 3 * (U.1 * (U.1 - 1)) := by omega
  unfold f_X3_read g_X3_read
  rw [hu.2.1.2.1]
  simp (disch := omega) only [n1, e0, eT, ecn, ↓reduceIte, o_bind, and_true, true_and, and_false, false_and, or_true, true_or, or_false, false_or, not_true, not_false_eq_true, not_false_iff, ne_eq, Nat.reduceAdd, Nat.reduceMul, Nat.reduceSub, Nat.reduceDiv, Nat.reduceMod, Nat.reduceLT, Nat.reduceLeDiff, Nat.reduceEqDiff, Nat.not_lt, Nat.not_le, q_lit, ↓q_m1, q_om, q_on, q_add, q_mul, q_sub, q_div, q_md, q_ltT, q_ltF, q_leT, q_leF, q_eqT, q_eqF, q_inT, q_inF, q_nn, q_mlt, q_ltm, q_mle, q_lem, q_nem, q_mne]
  by_cases hlen : 2 + 3 * (U.1 * (U.1 - 1)) + 2 ≤ tl
  · simp (disch := omega) only [↓reduceIte, o_bind, and_true, true_and, and_false, false_and, or_true, true_or, or_false, false_or, not_true, not_false_eq_true, not_false_iff, ne_eq, Nat.reduceAdd, Nat.reduceMul, Nat.reduceSub, Nat.reduceDiv, Nat.reduceMod, Nat.reduceLT, Nat.reduceLeDiff, Nat.reduceEqDiff, Nat.not_lt, Nat.not_le, q_lit, ↓q_m1, q_om, q_on, q_add, q_mul, q_sub, q_div, q_md, q_ltT, q_ltF, q_leT, q_leF, q_eqT, q_eqF, q_inT, q_inF, q_nn, q_mlt, q_ltm, q_mle, q_lem, q_nem, q_mne]
    refine zW_call (cs_begin (L := L) hx.2.2.1 (p := u + 2) (by omega) n2) ?_
    rintro ⟨V1, L1⟩ ⟨p1, p2, p3, p4⟩
    dsimp only at p1 p2 p3 p4 ⊢
    have w1 : V1 1 = V 1 := p3 1 (by omega) (by omega) (by omega) (by omega)
    obtain ⟨a1, a2⟩ := ht 0 (by omega)
    obtain ⟨b1, b2⟩ := ht 1 (by omega)
    obtain ⟨c1, c2⟩ := ht (2 + 3 * (U.1 * (U.1 - 1))) (by omega)
    rw [← w1] at a2 b2 c2
    have hdy := q_day a1 b1
    have hV2 : ∀ w, w ≠ 13 → z_uI (z_uI V1 13 0 (qi (t 0 * 256 + t 1))) 13 4 (qi (t (2 + 3 * (U.1 * (U.1 - 1))))) w = V1 w := fun w h => by rw [z_neP h, z_neP h]
    have d0 : z_uI (z_uI V1 13 0 (qi (t 0 * 256 + t 1))) 13 4 (qi (t (2 + 3 * (U.1 * (U.1 - 1))))) 13 0 = qi (t 0 * 256 + t 1) := by rw [z_neK (by omega), z_same]
    have d4 : z_uI (z_uI V1 13 0 (qi (t 0 * 256 + t 1))) 13 4 (qi (t (2 + 3 * (U.1 * (U.1 - 1))))) 13 4 = qi (t (2 + 3 * (U.1 * (U.1 - 1)))) := z_same
    have d7 : z_uI (z_uI V1 13 0 (qi (t 0 * 256 + t 1))) 13 4 (qi (t (2 + 3 * (U.1 * (U.1 - 1))))) 13 7 = qi 0 := by rw [z_neK (by omega), z_neK (by omega)]; exact p2.2.2
    simp (disch := omega) only [z0, z1, zq0, zq1, a2, b2, hdy, c2, ↓reduceIte, o_bind, and_true, true_and, and_false, false_and, or_true, true_or, or_false, false_or, not_true, not_false_eq_true, not_false_iff, ne_eq, Nat.reduceAdd, Nat.reduceMul, Nat.reduceSub, Nat.reduceDiv, Nat.reduceMod, Nat.reduceLT, Nat.reduceLeDiff, Nat.reduceEqDiff, Nat.not_lt, Nat.not_le, q_lit, ↓q_m1, q_om, q_on, q_add, q_mul, q_sub, q_div, q_md, q_ltT, q_ltF, q_leT, q_leF, q_eqT, q_eqF, q_inT, q_inF, q_nn, q_mlt, q_ltm, q_mle, q_lem, q_nem, q_mne, z_same, z_neP, z_neK, zL_same, zL_neP, zL_neK, zr_same, zr_ne]
    have hno : ∀ (s0 : Nat), (s0 = 0 → ¬ tl = 2 + 3 * (U.1 * (U.1 - 1)) + 2 + t (2 + 3 * (U.1 * (U.1 - 1))) * 3) → s0 < 2 → (s0 = 1 → tl = 2 + 3 * (U.1 * (U.1 - 1)) + 2 + t (2 + 3 * (U.1 * (U.1 - 1))) * 3) → zW (f_X3_read_99 N G 1 u 13 (u + 2) (qi tl) (qi (2 + 3 * (U.1 * (U.1 - 1)))) (qi s0) (z_uI (z_uI V1 13 0 (qi (t 0 * 256 + t 1))) 13 4 (qi (t (2 + 3 * (U.1 * (U.1 - 1)))))) L1) (fun r => ((r.1 = qi 1 ∧ onP U t tl ∧ ∀ B, onA U t B → SC r.2.1 13 B) ∨ (r.1 = qi 0 ∧ ¬ onP U t tl)) ∧ ∀ w, (w < 13 ∨ 20 ≤ w) → r.2.1 w = V w) := by
      intro s0 hs0 hs2 hs1
      generalize z_uI (z_uI V1 13 0 (qi (t 0 * 256 + t 1))) 13 4 (qi (t (2 + 3 * (U.1 * (U.1 - 1))))) = V2 at *
      have hf2 : ∀ w, (w < 13 ∨ 20 ≤ w) → V2 w = V w := fun w hw => by rw [hV2 w (by omega), p3 w (by omega) (by omega) (by omega) (by omega)]
      have bad : ¬ onP U t tl → zW (some (qi 0, V2, L1)) (fun r => ((r.1 = qi 1 ∧ onP U t tl ∧ ∀ B, onA U t B → SC r.2.1 13 B) ∨ (r.1 = qi 0 ∧ ¬ onP U t tl)) ∧ ∀ w, (w < 13 ∨ 20 ≤ w) → r.2.1 w = V w) := fun h => zW_some ⟨Or.inr ⟨rfl, h⟩, hf2⟩
      unfold f_X3_read_99
      by_cases hday : t 0 * 256 + t 1 ≤ 999
      rotate_left
      · simp (disch := omega) only [d0, ↓reduceIte, o_bind, and_true, true_and, and_false, false_and, or_true, true_or, or_false, false_or, not_true, not_false_eq_true, not_false_iff, ne_eq, Nat.reduceAdd, Nat.reduceMul, Nat.reduceSub, Nat.reduceDiv, Nat.reduceMod, Nat.reduceLT, Nat.reduceLeDiff, Nat.reduceEqDiff, Nat.not_lt, Nat.not_le, q_lit, ↓q_m1, q_om, q_on, q_add, q_mul, q_sub, q_div, q_md, q_ltT, q_ltF, q_leT, q_leF, q_eqT, q_eqF, q_inT, q_inF, q_nn, q_mlt, q_ltm, q_mle, q_lem, q_nem, q_mne]
        exact bad (fun h => hday h.1.2.1)
      by_cases hm : t (2 + 3 * (U.1 * (U.1 - 1))) ≤ 60
      rotate_left
      · simp (disch := omega) only [d0, d4, ↓reduceIte, o_bind, and_true, true_and, and_false, false_and, or_true, true_or, or_false, false_or, not_true, not_false_eq_true, not_false_iff, ne_eq, Nat.reduceAdd, Nat.reduceMul, Nat.reduceSub, Nat.reduceDiv, Nat.reduceMod, Nat.reduceLT, Nat.reduceLeDiff, Nat.reduceEqDiff, Nat.not_lt, Nat.not_le, q_lit, ↓q_m1, q_om, q_on, q_add, q_mul, q_sub, q_div, q_md, q_ltT, q_ltF, q_leT, q_leF, q_eqT, q_eqF, q_inT, q_inF, q_nn, q_mlt, q_ltm, q_mle, q_lem, q_nem, q_mne]
        exact bad (fun h => hm h.1.2.2.1)
      by_cases hs : s0 = 0
      · simp (disch := omega) only [d0, d4, hs, ↓reduceIte, o_bind, and_true, true_and, and_false, false_and, or_true, true_or, or_false, false_or, not_true, not_false_eq_true, not_false_iff, ne_eq, Nat.reduceAdd, Nat.reduceMul, Nat.reduceSub, Nat.reduceDiv, Nat.reduceMod, Nat.reduceLT, Nat.reduceLeDiff, Nat.reduceEqDiff, Nat.not_lt, Nat.not_le, q_lit, ↓q_m1, q_om, q_on, q_add, q_mul, q_sub, q_div, q_md, q_ltT, q_ltF, q_leT, q_leF, q_eqT, q_eqF, q_inT, q_inF, q_nn, q_mlt, q_ltm, q_mle, q_lem, q_nem, q_mne]
        exact bad (fun h => hs0 hs (by have := h.1.2.2.2.1; omega))
      have hsz := hs1 (by omega)
      have w12 : V2 1 = V 1 := hf2 1 (by omega)
      have ht2 : byC V2 t tl := fun k hk => by rw [w12]; exact ht k hk
      have hck := c_chkF (L := L1) hx (show 1 ≤ tl by omega) htl ht2
      by_cases hch : chT t (tl - 1) = t (tl - 1)
      rotate_left
      · simp (disch := omega) only [d0, d4, hck, hch, ↓reduceIte, o_bind, and_true, true_and, and_false, false_and, or_true, true_or, or_false, false_or, not_true, not_false_eq_true, not_false_iff, ne_eq, Nat.reduceAdd, Nat.reduceMul, Nat.reduceSub, Nat.reduceDiv, Nat.reduceMod, Nat.reduceLT, Nat.reduceLeDiff, Nat.reduceEqDiff, Nat.not_lt, Nat.not_le, q_lit, ↓q_m1, q_om, q_on, q_add, q_mul, q_sub, q_div, q_md, q_ltT, q_ltF, q_leT, q_leF, q_eqT, q_eqF, q_inT, q_inF, q_nn, q_mlt, q_ltm, q_mle, q_lem, q_nem, q_mne]
        exact bad (fun h => hch h.1.2.2.2.2)
      have hC2 : UC N G V2 u U := UC_fr2 hu hC (fun w hw => hf2 w (by omega))
      simp (disch := omega) only [d0, d4, hck, hch, ↓reduceIte, o_bind, and_true, true_and, and_false, false_and, or_true, true_or, or_false, false_or, not_true, not_false_eq_true, not_false_iff, ne_eq, Nat.reduceAdd, Nat.reduceMul, Nat.reduceSub, Nat.reduceDiv, Nat.reduceMod, Nat.reduceLT, Nat.reduceLeDiff, Nat.reduceEqDiff, Nat.not_lt, Nat.not_le, q_lit, ↓q_m1, q_om, q_on, q_add, q_mul, q_sub, q_div, q_md, q_ltT, q_ltF, q_leT, q_leF, q_eqT, q_eqF, q_inT, q_inF, q_nn, q_mlt, q_ltm, q_mle, q_lem, q_nem, q_mne]
      refine zW_call (c_rdC (L := L1) (t := t) hx hu hC2 hU (fun k hk => ht2 k (by omega))) ?_
      rintro ⟨y, V3, L3⟩ ⟨q1, q2, q3, q4⟩
      dsimp only at q1 q2 q3 q4 ⊢
      have hf3 : ∀ w, (w < 13 ∨ 20 ≤ w) → V3 w = V w := fun w hw => by rw [q3 w (by omega) (by omega) (by omega)]; exact hf2 w hw
      rcases q1 with ⟨rfl, q5, q6⟩ | ⟨rfl, q5⟩
      rotate_left
      · simp (disch := omega) only [↓reduceIte, o_bind, and_true, true_and, and_false, false_and, or_true, true_or, or_false, false_or, not_true, not_false_eq_true, not_false_iff, ne_eq, Nat.reduceAdd, Nat.reduceMul, Nat.reduceSub, Nat.reduceDiv, Nat.reduceMod, Nat.reduceLT, Nat.reduceLeDiff, Nat.reduceEqDiff, Nat.not_lt, Nat.not_le, q_lit, ↓q_m1, q_om, q_on, q_add, q_mul, q_sub, q_div, q_md, q_ltT, q_ltF, q_leT, q_leF, q_eqT, q_eqF, q_inT, q_inF, q_nn, q_mlt, q_ltm, q_mle, q_lem, q_nem, q_mne]
        exact zW_some ⟨Or.inr ⟨rfl, fun h => q5 h.2.1⟩, hf3⟩
      have hC3 : UC N G V3 u U := UC_fr2 hu hC (fun w hw => hf3 w (by omega))
      have w13 : V3 1 = V 1 := hf3 1 (by omega)
      have ht3 : byC V3 t tl := fun k hk => by rw [w13]; exact ht k hk
      have e43 : V3 13 4 = qi (t (2 + 3 * (U.1 * (U.1 - 1)))) := by rw [q3 13 (by omega) (by omega) (by omega)]; exact d4
      have eat : 2 + 3 * (U.1 * (U.1 - 1)) + 1 = 3 + 3 * (U.1 * (U.1 - 1)) := by omega
      simp (disch := omega) only [eat, ↓reduceIte, o_bind, and_true, true_and, and_false, false_and, or_true, true_or, or_false, false_or, not_true, not_false_eq_true, not_false_iff, ne_eq, Nat.reduceAdd, Nat.reduceMul, Nat.reduceSub, Nat.reduceDiv, Nat.reduceMod, Nat.reduceLT, Nat.reduceLeDiff, Nat.reduceEqDiff, Nat.not_lt, Nat.not_le, q_lit, ↓q_m1, q_om, q_on, q_add, q_mul, q_sub, q_div, q_md, q_ltT, q_ltF, q_leT, q_leF, q_eqT, q_eqF, q_inT, q_inF, q_nn, q_mlt, q_ltm, q_mle, q_lem, q_nem, q_mne]
      refine zW_call (c_rdL (L := L3) (t := t) (at' := 3 + 3 * (U.1 * (U.1 - 1))) hx hu hC3 hU hm (by omega) e43 (fun k hk => ht3 k (by omega))) ?_
      rintro ⟨y, V4, L4⟩ ⟨s1, s2, s3⟩
      dsimp only at s1 s2 s3 ⊢
      have hf4 : ∀ w, (w < 13 ∨ 20 ≤ w) → V4 w = V w := fun w hw => by rw [s2 w (by omega) (by omega)]; exact hf3 w hw
      rcases s1 with ⟨rfl, s5, s6⟩ | ⟨rfl, s5⟩
      rotate_left
      · simp (disch := omega) only [↓reduceIte, o_bind, and_true, true_and, and_false, false_and, or_true, true_or, or_false, false_or, not_true, not_false_eq_true, not_false_iff, ne_eq, Nat.reduceAdd, Nat.reduceMul, Nat.reduceSub, Nat.reduceDiv, Nat.reduceMod, Nat.reduceLT, Nat.reduceLeDiff, Nat.reduceEqDiff, Nat.not_lt, Nat.not_le, q_lit, ↓q_m1, q_om, q_on, q_add, q_mul, q_sub, q_div, q_md, q_ltT, q_ltF, q_leT, q_leF, q_eqT, q_eqF, q_inT, q_inF, q_nn, q_mlt, q_ltm, q_mle, q_lem, q_nem, q_mne]
        exact zW_some ⟨Or.inr ⟨rfl, fun h => s5 h.2.2⟩, hf4⟩
      simp (disch := omega) only [↓reduceIte, o_bind, and_true, true_and, and_false, false_and, or_true, true_or, or_false, false_or, not_true, not_false_eq_true, not_false_iff, ne_eq, Nat.reduceAdd, Nat.reduceMul, Nat.reduceSub, Nat.reduceDiv, Nat.reduceMod, Nat.reduceLT, Nat.reduceLeDiff, Nat.reduceEqDiff, Nat.not_lt, Nat.not_le, q_lit, ↓q_m1, q_om, q_on, q_add, q_mul, q_sub, q_div, q_md, q_ltT, q_ltF, q_leT, q_leF, q_eqT, q_eqF, q_inT, q_inF, q_nn, q_mlt, q_ltm, q_mle, q_lem, q_nem, q_mne]
      refine zW_some ?_
      dsimp only
      refine ⟨Or.inl ⟨rfl, ⟨⟨by omega, hday, hm, by omega, hch⟩, q5, s5⟩, fun B hB => ?_⟩, hf4⟩
      obtain ⟨day, held, sent, got, m, mp, ml, kn, kc⟩ := B
      obtain ⟨⟨x1, x2, x3⟩, x4, x5, x6⟩ := hB
      dsimp only at x1 x2 x3 x4 x5 x6
      have f13 : V4 13 = V2 13 := by rw [s2 13 (by omega) (by omega), q3 13 (by omega) (by omega) (by omega)]
      have hcase : ∀ p, p < 36 → V4 14 p = qi (held p) ∧ V4 15 p = qi (sent p) ∧ V4 16 p = qi (got p) := by
        intro p hp
        rw [s2 14 (by omega) (by omega), s2 15 (by omega) (by omega), s2 16 (by omega) (by omega)]
        by_cases hq : isQ U.1 p
        · obtain ⟨v1, v2, v3⟩ := x4 p hp hq
          rw [v1, v2, v3]
          exact q6 p hp hq
        · obtain ⟨v1, v2, v3⟩ := x5 p hp hq
          obtain ⟨r1, r2, r3⟩ := q2 p hp hq
          obtain ⟨o1, o2, o3⟩ := p1 p hp
          rw [v1, v2, v3, r1, r2, r3, hV2 14 (by omega), hV2 15 (by omega), hV2 16 (by omega)]
          exact ⟨o1.trans (hst p hp hq), o2, o3⟩
      refine ⟨⟨?_, ?_, ?_⟩, fun p hp => (hcase p hp).1, fun p hp => (hcase p hp).2.1, fun p hp => (hcase p hp).2.2, fun k hk => ?_, fun k hk => ?_, fun k hk => ?_⟩
      · rw [f13, x1]; exact d0
      · rw [f13, x2]; exact d4
      · rw [f13, x3]; exact d7
      · rw [x2] at hk
        rw [(x6 k hk).1]
        exact (s6 k hk).1
      · rw [x2] at hk
        rw [(x6 k hk).2]
        exact (s6 k hk).2
      · omega
    by_cases hsz : tl = 2 + 3 * (U.1 * (U.1 - 1)) + 2 + t (2 + 3 * (U.1 * (U.1 - 1))) * 3
    · rw [if_pos (by rw [← hsz])]
      exact hno 1 (fun h => absurd h (by omega)) (by omega) (fun _ => hsz)
    · rw [if_neg (fun h => hsz ((q_eq (by omega) (by omega)).mp h))]
      exact hno 0 (fun _ => hsz) (by omega) (fun h => absurd h (by omega))
  · simp (disch := omega) only [↓reduceIte, o_bind, and_true, true_and, and_false, false_and, or_true, true_or, or_false, false_or, not_true, not_false_eq_true, not_false_iff, ne_eq, Nat.reduceAdd, Nat.reduceMul, Nat.reduceSub, Nat.reduceDiv, Nat.reduceMod, Nat.reduceLT, Nat.reduceLeDiff, Nat.reduceEqDiff, Nat.not_lt, Nat.not_le, q_lit, ↓q_m1, q_om, q_on, q_add, q_mul, q_sub, q_div, q_md, q_ltT, q_ltF, q_leT, q_leF, q_eqT, q_eqF, q_inT, q_inF, q_nn, q_mlt, q_ltm, q_mle, q_lem, q_nem, q_mne]
    exact zW_some ⟨Or.inr ⟨rfl, fun h => by have := h.1.1; omega⟩, fun _ _ => rfl⟩
end
