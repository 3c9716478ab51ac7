section
/-! Letters are written. -/
def wrS (U : aU) (a : Nat) (A : aS) : aS := match tgt U A a with
  | none => A
  | some b => posS A (6 * a + b) (U.2.2.1 (6 * a + b))
def wrF (U : aU) (A : aS) : Nat → aS
  | 0 => A
  | a + 1 => wrS U a (wrF U A a)
def bX (U : aU) (dr : Bool) (A : aS) (x : Nat) : aX := brF U.2.2.2.1 U.2.2.2.2.1 dr (A, 0, x, 0, 0, 0) A.2.2.2.2.1
def dayW (U : aU) (dr : Bool) (A : aS) (x : Nat) : aS := wrF U (mS (bX U dr A x).1 (bX U dr A x).2.1) U.1
theorem wrS_n {U : aU} {a : Nat} {A : aS} (h : tgt U A a = none) : wrS U a A = A := by
  unfold wrS; rw [h]
theorem wrS_s {U : aU} {a b : Nat} {A : aS} (h : tgt U A a = some b) : wrS U a A = posS A (6 * a + b) (U.2.2.1 (6 * a + b)) := by
  unfold wrS; rw [h]
theorem SB_pos {U : aU} {A : aS} {a b : Nat} (hU : UB U) (hA : SB U A) (ha : a < U.1) (h : tgt U A a = some b) : SB U (posS A (6 * a + b) (U.2.2.1 (6 * a + b))) := by
  obtain ⟨h1, h2, h3, h4⟩ := tgt_b hU hA ha h
  have htw := UB_tw hU
  obtain ⟨tw, ct, way, encl, lost, rul, nam⟩ := U
  obtain ⟨day, held, sent, got, m, mp, ml, kn, kc⟩ := A
  obtain ⟨⟨d1, d2, d3⟩, c2, c3, c4, c5⟩ := hA
  dsimp only at h1 h2 h3 h4 ha htw ⊢
  have hw := (hU.2.1 (6 * a + b) (by omega)).2 h3
  have hp := c2 (6 * a + b) (by omega)
  refine ⟨⟨d1, by omega, d3⟩, fun k hk => ?_, fun k hk hn => ?_, fun k hk => ?_, c5⟩
  · have hk2 := c2 k hk
    unfold nu
    by_cases hkk : k = 6 * a + b
    · subst hkk
      simp only [↓reduceIte]
      refine ⟨by omega, ?_, hk2.2.2⟩
      split <;> omega
    · simp only [hkk, ↓reduceIte]; exact hk2
  · have hne : k ≠ 6 * a + b := by
      rintro rfl
      exact hn hw
    simp only [nu, hne, ↓reduceIte]
    exact c3 k hk hn
  · unfold nu
    by_cases hkk : k = m
    · simp only [hkk, ↓reduceIte]
      exact ⟨by omega, h3, h3, Nat.le_refl _⟩
    · simp only [hkk, ↓reduceIte]
      exact c4 k (by omega)
theorem wr_SB {U : aU} {A : aS} (hU : UB U) (hA : SB U A) : ∀ a, a ≤ U.1 → SB U (wrF U A a) ∧ (wrF U A a).1 = A.1 := by
  intro a
  induction a with
  | zero => intro _; exact ⟨hA, rfl⟩
  | succ a ih =>
    intro ha
    obtain ⟨h1, h2⟩ := ih (by omega)
    show SB U (wrS U a (wrF U A a)) ∧ (wrS U a (wrF U A a)).1 = A.1
    cases ht : tgt U (wrF U A a) a with
    | none => rw [wrS_n ht]; exact ⟨h1, h2⟩
    | some b => rw [wrS_s ht]; exact ⟨SB_pos hU h1 (by omega) ht, h2⟩
theorem SR_day {V : zI} {v d : Nat} {A : aS} (h : SR V v A) : SR (z_uI V 20 v (qi d)) v (dS A d) := by
  obtain ⟨day, held, sent, got, m, mp, ml, kn, kc⟩ := A
  obtain ⟨⟨a0, a4, a7⟩, s1, s2, s3, s4, s5, s6, s7, s8, s9, s10⟩ := h
  refine ⟨⟨z_same, ?_, ?_⟩, ?_, ?_, ?_, ?_, ?_, ?_, ?_, ?_, ?_, ?_⟩ <;> simp (disch := omega) only [z_neP] <;> assumption
set_option maxHeartbeats 4000000 in
theorem r_wrL {V : zI} {L : zL} {v b : Nat} {U : aU} {A : aS} (hv : v < 22) (hR : UR V L b U) (hS : SR V v A) (hU : UB U) (hA : SB U A) : zW (zfix b_passes_156 FU (qi v, 0, V, L)) (fun r => SR r.1 v (dS (wrF U A U.1) (A.1 + 1)) ∧ RFr v V r.1 ∧ (∀ w, w < 20 → r.1 w = V w) ∧ ∀ w, w ≠ 28 → r.2 w = L w) := by
  have htw := UB_tw hU
  have hb : b < 2 := hR.1.1
  refine zW_lp (I := fun r q => ∃ (a : Nat) (V1 : zI) (L1 : zL), a ≤ U.1 ∧ r = U.1 - a ∧ q = (qi v, qi a, V1, L1) ∧ SR V1 v (wrF U A a) ∧ RFr v V V1 ∧ (∀ w, w < 20 → V1 w = V w) ∧ ∀ w, w ≠ 28 → L1 w = L w) ?_ FU U.1 _ ⟨0, V, L, by omega, by omega, rfl, hS, RFr_rf, fun _ _ => rfl, fun _ _ => rfl⟩ (FU_big (by omega))
  rintro k r q ⟨a, V1, L1, ha, rfl, rfl, hS1, hfr, hw, hl⟩ ih
  have hR1 : UR V1 L1 b U := RFr_UR hfr (hl 12 (by omega)) hR
  have e13 : V1 0 13 = qi b := hR1.1.2.1
  have e2 : V1 2 b = qi U.1 := hR1.1.2.2.1
  obtain ⟨hB, hB1⟩ := wr_SB hU hA a ha
  by_cases hend : a = U.1
  · have e20 : V1 20 v = qi A.1 := by rw [← hB1]; exact hS1.1.1
    simp (disch := omega) only [b_passes_156, e13, e2, e20, hend, ↓reduceIte, o_bind, and_true, true_and, and_false, false_and, or_true, true_or, or_false, false_or, not_true, not_false_eq_true, not_false_iff, ne_eq, Nat.reduceAdd, Nat.reduceMul, Nat.reduceSub, Nat.reduceDiv, Nat.reduceMod, Nat.reduceLT, Nat.reduceLeDiff, Nat.reduceEqDiff, Nat.not_lt, Nat.not_le, q_lit, ↓q_m1, q_om, q_on, q_add, q_mul, q_sub, q_div, q_md, q_ltT, q_ltF, q_leT, q_leF, q_eqT, q_eqF, q_inT, q_inF, q_nn, q_mlt, q_ltm, q_mle, q_lem, q_nem, q_mne, z_same, z_neP, z_neK, zL_same, zL_neP, zL_neK, zr_same, zr_ne, Nat.le_refl]
    rw [hend] at hS1
    exact zW_some ⟨SR_day hS1, RFr_tr hfr (RFr_z (by omega)), fun w h => (z_neP (by omega)).trans (hw w h), hl⟩
  have ha' : a < U.1 := by omega
  have hn : ¬ U.1 ≤ a := by omega
  simp (disch := omega) only [b_passes_156, e13, e2, hn, ↓reduceIte, o_bind, and_true, true_and, and_false, false_and, or_true, true_or, or_false, false_or, not_true, not_false_eq_true, not_false_iff, ne_eq, Nat.reduceAdd, Nat.reduceMul, Nat.reduceSub, Nat.reduceDiv, Nat.reduceMod, Nat.reduceLT, Nat.reduceLeDiff, Nat.reduceEqDiff, Nat.not_lt, Nat.not_le, q_lit, ↓q_m1, q_om, q_on, q_add, q_mul, q_sub, q_div, q_md, q_ltT, q_ltF, q_leT, q_leF, q_eqT, q_eqF, q_inT, q_inF, q_nn, q_mlt, q_ltm, q_mle, q_lem, q_nem, q_mne, z_same, z_neP, z_neK, zL_same, zL_neP, zL_neK, zr_same, zr_ne]
  refine zW_call (r_next hv hR1 hS1 hU hB ha' (fun _ _ => rfl) (fun _ _ => rfl)) ?_
  rintro ⟨y, V2, L2⟩ ⟨q1, q2, q3⟩
  dsimp only at q1 q2 q3 ⊢
  subst q1
  have hl2 : ∀ w, w ≠ 28 → L2 w = L w := fun w h => by rw [q3 w h]; exact hl w h
  have hfr2 : RFr v V V2 := RFr_tr hfr (RFr_29 q2)
  have hw2 : ∀ w, w < 20 → V2 w = V w := fun w h => by rw [q2 w (by omega)]; exact hw w h
  have hS2 : SR V2 v (wrF U A a) := SR_fr hS1 (fun w h1 h2 => q2 w (by omega))
  cases ht : tgt U (wrF U A a) a with
  | none =>
    simp only [oi, q_lit, ↓q_m1, q_om, q_on, q_add, q_mul, q_sub, q_div, q_md, q_ltT, q_ltF, q_leT, q_leF, q_eqT, q_eqF, q_inT, q_inF, q_nn, q_mlt, q_ltm, q_mle, q_lem, q_nem, q_mne, ↓reduceIte]
    exact ih (U.1 - (a + 1)) _ (by omega) ⟨a + 1, V2, L2, by omega, rfl, rfl, by rw [show wrF U A (a + 1) = wrS U a (wrF U A a) from rfl, wrS_n ht]; exact hS2, hfr2, hw2, hl2⟩
  | some c =>
    obtain ⟨t1, t2, t3, t4⟩ := tgt_b hU hB ha' ht
    have hgo := fun V3 L3 g1 g2 g3 g4 => ih (U.1 - (a + 1)) (qi v, qi (a + 1), V3, L3) (by omega) ⟨a + 1, V3, L3, by omega, rfl, rfl, g1, g2, g3, g4⟩
    rw [show wrF U A (a + 1) = wrS U a (wrF U A a) from rfl, wrS_s ht] at hgo
    have hR2 : UR V2 L2 b U := RFr_UR hfr2 (hl2 12 (by omega)) hR
    have hk5 := hR2.2.1 (Nat.lt_of_le_of_lt (Nat.zero_le _) ha') (6 * a + c) (by omega)
    have hwp := (hU.2.1 (6 * a + c) (by omega)).2 t3
    have hwm := (hU.2.1 (6 * a + c) (by omega)).1
    have hy : (6 * a + c) / 6 = a ∧ (6 * a + c) % 6 = c := by omega
    rw [if_neg hwp.2.2, if_neg (Nat.ne_of_gt t3)] at hk5
    have hsb := hB.2.1 (6 * a + c) (by omega)
    have f13 : V2 0 13 = qi b := hR2.1.2.1
    clear ht hB hS1 ih hk5
    have hk5 : V2 5 (36 * b + (6 * a + c)) = qi (U.2.2.1 (6 * a + c)) := by
      have := hR2.2.1 (Nat.lt_of_le_of_lt (Nat.zero_le _) ha') (6 * a + c) (by omega)
      rw [if_neg hwp.2.2, if_neg (Nat.ne_of_gt t3)] at this
      exact this
    generalize wrF U A a = B at *
    obtain ⟨day, held, sent, got, m, mp, ml, kn, kc⟩ := B
    obtain ⟨⟨a0, a4, a7⟩, s1, s2, s3, s4, s5, s6, s7, s8, s9, s10⟩ := hS2
    dsimp only at t1 t4 hsb hgo
    have b1 := s1 (6 * a + c) (by omega)
    have b2 := s2 (6 * a + c) (by omega)
    have ei : 36 * v + 6 * a + c = 36 * v + (6 * a + c) := by omega
    have ej : 36 * b + 6 * a + c = 36 * b + (6 * a + c) := by omega
    have e3 : 3 * (60 * v + m) = 180 * v + 3 * m := by omega
    have hfin : ∀ x : Nat, zW (k (qi v, qi (a + 1), z_uI (z_uI (z_uI (z_uI (z_uI (z_uI V2 21 (36 * v + (6 * a + c)) (qi (held (6 * a + c) - 1))) 22 (36 * v + (6 * a + c)) (qi x)) 25 (180 * v + 3 * m) (qi a)) 25 (180 * v + 3 * m + 1) (qi c)) 25 (180 * v + 3 * m + 2) (qi (U.2.2.1 (6 * a + c)))) 24 v (qi (m + 1)), L2)) (fun r => SR r.1 v (dS (wrF U A U.1) (A.1 + 1)) ∧ RFr v V r.1 ∧ (∀ w, w < 20 → r.1 w = V w) ∧ ∀ w, w ≠ 28 → r.2 w = L w) ∨ x ≠ (if sent (6 * a + c) + 1 < 99 then sent (6 * a + c) + 1 else 99) := by
      intro x
      by_cases hx : x = (if sent (6 * a + c) + 1 < 99 then sent (6 * a + c) + 1 else 99)
      · left
        refine hgo _ _ ⟨⟨?_, ?_, ?_⟩, ?_, ?_, ?_, ?_, ?_, ?_, ?_, ?_, ?_, ?_⟩ ?_ ?_ hl2
        · simp (disch := omega) only [z_same, z_neP, z_neK, zL_same, zL_neP, zL_neK, zr_same, zr_ne]; exact a0
        · simp (disch := omega) only [z_same, z_neP, z_neK, zL_same, zL_neP, zL_neK, zr_same, zr_ne]
        · simp (disch := omega) only [z_same, z_neP, z_neK, zL_same, zL_neP, zL_neK, zr_same, zr_ne]; exact a7
        · intro k hk
          by_cases hkk : k = 6 * a + c
          · subst hkk; simp (disch := omega) only [z_same, z_neP, z_neK, zL_same, zL_neP, zL_neK, zr_same, zr_ne, nu, ↓reduceIte]
          · simp (disch := omega) only [z_same, z_neP, z_neK, zL_same, zL_neP, zL_neK, zr_same, zr_ne, nu, hkk, ↓reduceIte]; exact s1 k hk
        · intro k hk
          by_cases hkk : k = 6 * a + c
          · subst hkk; simp (disch := omega) only [z_same, z_neP, z_neK, zL_same, zL_neP, zL_neK, zr_same, zr_ne, nu, ↓reduceIte, hx]
          · simp (disch := omega) only [z_same, z_neP, z_neK, zL_same, zL_neP, zL_neK, zr_same, zr_ne, nu, hkk, ↓reduceIte]; exact s2 k hk
        · intro k hk; simp (disch := omega) only [z_same, z_neP, z_neK, zL_same, zL_neP, zL_neK, zr_same, zr_ne]; exact s3 k hk
        · intro k hk
          by_cases hkk : k = m
          · subst hkk; simp (disch := omega) only [z_same, z_neP, z_neK, zL_same, zL_neP, zL_neK, zr_same, zr_ne, nu, ↓reduceIte, hy.1]
          · simp (disch := omega) only [z_same, z_neP, z_neK, zL_same, zL_neP, zL_neK, zr_same, zr_ne, nu, hkk, ↓reduceIte]; exact s4 k (by omega)
        · intro k hk
          by_cases hkk : k = m
          · subst hkk; simp (disch := omega) only [z_same, z_neP, z_neK, zL_same, zL_neP, zL_neK, zr_same, zr_ne, nu, ↓reduceIte, hy.2]
          · simp (disch := omega) only [z_same, z_neP, z_neK, zL_same, zL_neP, zL_neK, zr_same, zr_ne, nu, hkk, ↓reduceIte]; exact s5 k (by omega)
        · intro k hk
          by_cases hkk : k = m
          · subst hkk; simp (disch := omega) only [z_same, z_neP, z_neK, zL_same, zL_neP, zL_neK, zr_same, zr_ne, nu, ↓reduceIte]
          · simp (disch := omega) only [z_same, z_neP, z_neK, zL_same, zL_neP, zL_neK, zr_same, zr_ne, nu, hkk, ↓reduceIte]; exact s6 k (by omega)
        · intro k hk; simp (disch := omega) only [z_same, z_neP, z_neK, zL_same, zL_neP, zL_neK, zr_same, zr_ne]; exact s7 k hk
        · intro k hk; simp (disch := omega) only [z_same, z_neP, z_neK, zL_same, zL_neP, zL_neK, zr_same, zr_ne]; exact s8 k hk
        · intro k hk; simp (disch := omega) only [z_same, z_neP, z_neK, zL_same, zL_neP, zL_neK, zr_same, zr_ne]; exact s9 k hk
        · intro k hk; simp (disch := omega) only [z_same, z_neP, z_neK, zL_same, zL_neP, zL_neK, zr_same, zr_ne]; exact s10 k hk
        · exact RFr_tr hfr2 (RFr_tr (RFr_tr (RFr_tr (RFr_tr (RFr_tr (RFr_z (by omega)) (RFr_z (by omega))) (RFr_z (by omega))) (RFr_z (by omega))) (RFr_z (by omega))) (RFr_z (by omega)))
        · intro w h; simp (disch := omega) only [z_same, z_neP, z_neK, zL_same, zL_neP, zL_neK, zr_same, zr_ne]; exact hw2 w h
      · right; exact hx
    by_cases c1 : sent (6 * a + c) + 1 ≤ 99
    · have hf := hfin (sent (6 * a + c) + 1)
      have hx : sent (6 * a + c) + 1 = (if sent (6 * a + c) + 1 < 99 then sent (6 * a + c) + 1 else 99) := by split <;> omega
      rcases hf with hf | hf
      · simp (disch := omega) only [oi, f_at, f_upTo, f_wayBy, f13, hk5, ei, ej, e3, a4, b1, b2, c1, ↓reduceIte, o_bind, and_true, true_and, and_false, false_and, or_true, true_or, or_false, false_or, not_true, not_false_eq_true, not_false_iff, ne_eq, Nat.reduceAdd, Nat.reduceMul, Nat.reduceSub, Nat.reduceDiv, Nat.reduceMod, Nat.reduceLT, Nat.reduceLeDiff, Nat.reduceEqDiff, Nat.not_lt, Nat.not_le, q_lit, ↓q_m1, q_om, q_on, q_add, q_mul, q_sub, q_div, q_md, q_ltT, q_ltF, q_leT, q_leF, q_eqT, q_eqF, q_inT, q_inF, q_nn, q_mlt, q_ltm, q_mle, q_lem, q_nem, q_mne, z_same, z_neP, z_neK, zL_same, zL_neP, zL_neK, zr_same, zr_ne]
        exact hf
      · exact absurd hx hf
    · have hf := hfin 99
      have hx : 99 = (if sent (6 * a + c) + 1 < 99 then sent (6 * a + c) + 1 else 99) := by split <;> omega
      rcases hf with hf | hf
      · simp (disch := omega) only [oi, f_at, f_upTo, f_wayBy, f13, hk5, ei, ej, e3, a4, b1, b2, c1, ↓reduceIte, o_bind, and_true, true_and, and_false, false_and, or_true, true_or, or_false, false_or, not_true, not_false_eq_true, not_false_iff, ne_eq, Nat.reduceAdd, Nat.reduceMul, Nat.reduceSub, Nat.reduceDiv, Nat.reduceMod, Nat.reduceLT, Nat.reduceLeDiff, Nat.reduceEqDiff, Nat.not_lt, Nat.not_le, q_lit, ↓q_m1, q_om, q_on, q_add, q_mul, q_sub, q_div, q_md, q_ltT, q_ltF, q_leT, q_leF, q_eqT, q_eqF, q_inT, q_inF, q_nn, q_mlt, q_ltm, q_mle, q_lem, q_nem, q_mne, z_same, z_neP, z_neK, zL_same, zL_neP, zL_neK, zr_same, zr_ne]
        exact hf
      · exact absurd hx hf
set_option maxHeartbeats 4000000 in
theorem r_passes {V : zI} {L : zL} {v b x : Nat} {U : aU} {A : aS} {dr : Bool} (hv : v < 22) (hR : UR V L b U) (hS : SR V v A) (hU : UB U) (hA : SB U A) (hx : L 0 49 = qI x) (hxb : x < 2147483648) : zW (f_passes (qi v) (qi (if dr = true then 1 else 0)) V L) (fun r => SR r.1 v (dS (dayW U dr A x) (A.1 + 1)) ∧ r.1 0 52 = qi (bX U dr A x).2.2.2.1 ∧ r.1 0 53 = qi (bX U dr A x).2.2.2.2.1 ∧ r.2 0 54 = (bX U dr A x).2.2.2.2.2 ∧ r.2 0 49 = qI (bX U dr A x).2.2.1 ∧ RFr v V r.1 ∧ ∀ w, w ≠ 0 → w ≠ 28 → r.2 w = L w) := by
  have hm := SB_m hA
  have hb : b < 2 := hR.1.1
  unfold f_passes dayW bX
  refine zW_lp (I := fun r q => ∃ (i : Nat) (V1 : zI) (L1 : zL) (X : aX), i ≤ A.2.2.2.2.1 ∧ r = A.2.2.2.2.1 - i ∧ X = brF U.2.2.2.1 U.2.2.2.2.1 dr (A, 0, x, 0, 0, 0) i ∧ q = (qi v, qi (if dr = true then 1 else 0), qi X.2.1, qi i, V1, L1) ∧ SRk V1 v X.1 (fun k => k < X.2.1 ∨ i ≤ k) ∧ V1 0 52 = qi X.2.2.2.1 ∧ V1 0 53 = qi X.2.2.2.2.1 ∧ L1 0 54 = X.2.2.2.2.2 ∧ L1 0 49 = qI X.2.2.1 ∧ RFr v V V1 ∧ ∀ w, w ≠ 0 → w ≠ 28 → L1 w = L w) ?_ FU A.2.2.2.2.1 _ ⟨0, _, _, _, by omega, by omega, rfl, rfl, ?_, ?_, ?_, ?_, ?_, ?_, ?_⟩ (FU_big (by omega))
  rotate_left
  · refine SRk_of (SR_fr hS (fun w h1 h2 => by simp (disch := omega) only [z_same, z_neP, z_neK, zL_same, zL_neP, zL_neK, zr_same, zr_ne]))
  · simp (disch := omega) only [z_same, z_neP, z_neK, zL_same, zL_neP, zL_neK, zr_same, zr_ne]; rfl
  · simp (disch := omega) only [z_same, z_neP, z_neK, zL_same, zL_neP, zL_neK, zr_same, zr_ne]; rfl
  · simp (disch := omega) only [z_same, z_neP, z_neK, zL_same, zL_neP, zL_neK, zr_same, zr_ne]; rfl
  · simp (disch := omega) only [z_same, z_neP, z_neK, zL_same, zL_neP, zL_neK, zr_same, zr_ne]; exact hx
  · exact RFr_tr (RFr_z (by omega)) (RFr_z (by omega))
  · intro w h1 h2; simp (disch := omega) only [z_same, z_neP, z_neK, zL_same, zL_neP, zL_neK, zr_same, zr_ne]
  rintro k r q ⟨i, V1, L1, X, hi, rfl, hX, rfl, hS1, h52, h53, h54, h49, hfr, hl⟩ ih
  obtain ⟨b1, b2, b3, b4, b5, b6, b7, b8⟩ := br_inv (e := U.2.2.2.1) (lo := U.2.2.2.2.1) (dr := dr) hU hA hxb i hi X hX
  have hR1 : UR V1 L1 b U := RFr_UR hfr (hl 12 (by omega) (by omega)) hR
  have hnext := fun hi1 : i + 1 ≤ A.2.2.2.2.1 => fun V2 L2 a1 a2 a3 a4 a5 a6 a7 => ih (A.2.2.2.2.1 - (i + 1)) (qi v, qi (if dr = true then 1 else 0), qi (brS U.2.2.2.1 U.2.2.2.2.1 dr i X).2.1, qi (i + 1), V2, L2) (by omega) ⟨i + 1, V2, L2, brS U.2.2.2.1 U.2.2.2.2.1 dr i X, hi1, rfl, by rw [hX]; rfl, rfl, a1, a2, a3, a4, a5, a6, a7⟩
  by_cases hend : i = A.2.2.2.2.1
  · subst hend
    have hbe := SBi_end (by rw [b3]; exact b1) (by rw [b3]; exact b5)
    rw [← hX] at ⊢
    have e24 : V1 24 v = qi A.2.2.2.2.1 := by rw [← b3]; exact hS1.1.2.1
    have hS2 : SR (z_uI V1 24 v (qi X.2.1)) v (mS X.1 X.2.1) := by
      obtain ⟨B, st, y, cm, ls, bt⟩ := X
      obtain ⟨day, held, sent, got, m, mp, ml, kn, kc⟩ := B
      dsimp only at b3 b5
      obtain ⟨⟨a0, a4, a7⟩, s1, s2, s3, s4, s5, s6, s7, s8, s9, s10⟩ := hS1
      refine ⟨⟨?_, z_same, ?_⟩, ?_, ?_, ?_, ?_, ?_, ?_, ?_, ?_, ?_, ?_⟩
      · simp (disch := omega) only [z_same, z_neP, z_neK, zL_same, zL_neP, zL_neK, zr_same, zr_ne]; exact a0
      · simp (disch := omega) only [z_same, z_neP, z_neK, zL_same, zL_neP, zL_neK, zr_same, zr_ne]; exact a7
      · intro k hk; simp (disch := omega) only [z_same, z_neP, z_neK, zL_same, zL_neP, zL_neK, zr_same, zr_ne]; exact s1 k hk
      · intro k hk; simp (disch := omega) only [z_same, z_neP, z_neK, zL_same, zL_neP, zL_neK, zr_same, zr_ne]; exact s2 k hk
      · intro k hk; simp (disch := omega) only [z_same, z_neP, z_neK, zL_same, zL_neP, zL_neK, zr_same, zr_ne]; exact s3 k hk
      · intro k (hk : k < st); simp (disch := omega) only [z_same, z_neP, z_neK, zL_same, zL_neP, zL_neK, zr_same, zr_ne]; exact s4 k (by omega) (Or.inl hk)
      · intro k (hk : k < st); simp (disch := omega) only [z_same, z_neP, z_neK, zL_same, zL_neP, zL_neK, zr_same, zr_ne]; exact s5 k (by omega) (Or.inl hk)
      · intro k (hk : k < st); simp (disch := omega) only [z_same, z_neP, z_neK, zL_same, zL_neP, zL_neK, zr_same, zr_ne]; exact s6 k (by omega) (Or.inl hk)
      · intro k hk; simp (disch := omega) only [z_same, z_neP, z_neK, zL_same, zL_neP, zL_neK, zr_same, zr_ne]; exact s7 k hk
      · intro k hk; simp (disch := omega) only [z_same, z_neP, z_neK, zL_same, zL_neP, zL_neK, zr_same, zr_ne]; exact s8 k hk
      · intro k hk; simp (disch := omega) only [z_same, z_neP, z_neK, zL_same, zL_neP, zL_neK, zr_same, zr_ne]; exact s9 k hk
      · intro k hk; simp (disch := omega) only [z_same, z_neP, z_neK, zL_same, zL_neP, zL_neK, zr_same, zr_ne]; exact s10 k hk
    have hR2 : UR (z_uI V1 24 v (qi X.2.1)) L1 b U := UR_fr hR1 (by rw [z_neP (by omega)]) (fun w h1 h2 h3 h4 => z_neP (by omega)) rfl
    have hwl := r_wrL hv hR2 hS2 hU hbe
    have hd : (mS X.1 X.2.1).1 = A.1 := b2
    rw [hd] at hwl
    simp (disch := omega) only [b_passes_20, e24, ↓reduceIte, o_bind, and_true, true_and, and_false, false_and, or_true, true_or, or_false, false_or, not_true, not_false_eq_true, not_false_iff, ne_eq, Nat.reduceAdd, Nat.reduceMul, Nat.reduceSub, Nat.reduceDiv, Nat.reduceMod, Nat.reduceLT, Nat.reduceLeDiff, Nat.reduceEqDiff, Nat.not_lt, Nat.not_le, q_lit, ↓q_m1, q_om, q_on, q_add, q_mul, q_sub, q_div, q_md, q_ltT, q_ltF, q_leT, q_leF, q_eqT, q_eqF, q_inT, q_inF, q_nn, q_mlt, q_ltm, q_mle, q_lem, q_nem, q_mne, z_same, z_neP, z_neK, zL_same, zL_neP, zL_neK, zr_same, zr_ne, Nat.le_refl]
    refine zW_mono hwl (fun r hr => ?_)
    obtain ⟨q1, q2, q3, q4⟩ := hr
    refine ⟨q1, ?_, ?_, ?_, ?_, RFr_tr (RFr_tr hfr (RFr_z (by omega))) q2, fun w h1 h2 => by rw [q4 w h2]; exact hl w h1 h2⟩
    · rw [q3 0 (by omega), z_neP (by omega)]; exact h52
    · rw [q3 0 (by omega), z_neP (by omega)]; exact h53
    · rw [q4 0 (by omega)]; exact h54
    · rw [q4 0 (by omega)]; exact h49
  · replace hnext := hnext (by omega)
    obtain ⟨B, st, y, cm, ls, bt⟩ := X
    obtain ⟨day, held, sent, got, m, mp, ml, kn, kc⟩ := B
    dsimp only at b1 b2 b3 b4 b5 b6 b7 b8 hS1 h52 h53 h54 h49 hnext ⊢
    have him : i < m := by omega
    have hm60 : m ≤ 60 := by omega
    have hii := b1.2.2.2.1 i him (Or.inr (Nat.le_refl _))
    have hwi := (hU.2.1 (mp i) hii.1).1
    have hli : ml i ≤ 45 := by have := hii.2.2.2; omega
    have hli1 : 1 ≤ ml i := hii.2.2.1
    have hpi : mp i < 36 := hii.1
    have hS1' := hS1
    obtain ⟨⟨a0, a4, a7⟩, s1, s2, s3, s4, s5, s6, s7, s8, s9, s10⟩ := hS1
    have d4 := s4 i him (Or.inr (Nat.le_refl _))
    have d5 := s5 i him (Or.inr (Nat.le_refl _))
    have d6 := s6 i him (Or.inr (Nat.le_refl _))
    have e3 : 3 * (60 * v + i) = 180 * v + 3 * i := by omega
    have e3s : 3 * (60 * v + st) = 180 * v + 3 * st := by omega
    have hi' : ¬ m ≤ i := by omega
    have hSd : SRk (z_uI V1 25 (180 * v + 3 * i + 2) (qi (ml i - 1))) v (day, held, sent, got, m, mp, ml, kn, kc) (fun k => k < st ∨ i + 1 ≤ k) := by
      refine ⟨⟨?_, ?_, ?_⟩, ?_, ?_, ?_, ?_, ?_, ?_, ?_, ?_, ?_, ?_⟩
      · simp (disch := omega) only [z_same, z_neP, z_neK, zL_same, zL_neP, zL_neK, zr_same, zr_ne]; exact a0
      · simp (disch := omega) only [z_same, z_neP, z_neK, zL_same, zL_neP, zL_neK, zr_same, zr_ne]; exact a4
      · simp (disch := omega) only [z_same, z_neP, z_neK, zL_same, zL_neP, zL_neK, zr_same, zr_ne]; exact a7
      · intro k hk; simp (disch := omega) only [z_same, z_neP, z_neK, zL_same, zL_neP, zL_neK, zr_same, zr_ne]; exact s1 k hk
      · intro k hk; simp (disch := omega) only [z_same, z_neP, z_neK, zL_same, zL_neP, zL_neK, zr_same, zr_ne]; exact s2 k hk
      · intro k hk; simp (disch := omega) only [z_same, z_neP, z_neK, zL_same, zL_neP, zL_neK, zr_same, zr_ne]; exact s3 k hk
      · intro k hk hp; simp (disch := omega) only [z_same, z_neP, z_neK, zL_same, zL_neP, zL_neK, zr_same, zr_ne]; exact s4 k hk (by omega)
      · intro k hk hp; simp (disch := omega) only [z_same, z_neP, z_neK, zL_same, zL_neP, zL_neK, zr_same, zr_ne]; exact s5 k hk (by omega)
      · intro k hk hp; simp (disch := omega) only [z_same, z_neP, z_neK, zL_same, zL_neP, zL_neK, zr_same, zr_ne]; exact s6 k hk (by omega)
      · intro k hk; simp (disch := omega) only [z_same, z_neP, z_neK, zL_same, zL_neP, zL_neK, zr_same, zr_ne]; exact s7 k hk
      · intro k hk; simp (disch := omega) only [z_same, z_neP, z_neK, zL_same, zL_neP, zL_neK, zr_same, zr_ne]; exact s8 k hk
      · intro k hk; simp (disch := omega) only [z_same, z_neP, z_neK, zL_same, zL_neP, zL_neK, zr_same, zr_ne]; exact s9 k hk
      · intro k hk; simp (disch := omega) only [z_same, z_neP, z_neK, zL_same, zL_neP, zL_neK, zr_same, zr_ne]; exact s10 k hk
    have hfr1 : RFr v V (z_uI V1 25 (180 * v + 3 * i + 2) (qi (ml i - 1))) := RFr_tr hfr (RFr_z (by omega))
    by_cases hl1 : 1 < ml i
    · simp only [brS, hl1, ↓reduceIte] at hnext
      have hz : ¬ ml i - 1 = 0 := by omega
      simp (disch := omega) only [b_passes_20, a4, hi', e3, e3s, d6, ↓reduceIte, o_bind, and_true, true_and, and_false, false_and, or_true, true_or, or_false, false_or, not_true, not_false_eq_true, not_false_iff, ne_eq, Nat.reduceAdd, Nat.reduceMul, Nat.reduceSub, Nat.reduceDiv, Nat.reduceMod, Nat.reduceLT, Nat.reduceLeDiff, Nat.reduceEqDiff, Nat.not_lt, Nat.not_le, q_lit, ↓q_m1, q_om, q_on, q_add, q_mul, q_sub, q_div, q_md, q_ltT, q_ltF, q_leT, q_leF, q_eqT, q_eqF, q_inT, q_inF, q_nn, q_mlt, q_ltm, q_mle, q_lem, q_nem, q_mne, z_same, z_neP, z_neK, zL_same, zL_neP, zL_neK, zr_same, zr_ne, hz]
      rw [r_copy3 (a := 180 * v + 3 * i) (c := 180 * v + 3 * st) (by omega) (by omega)]
      simp (disch := omega) only [z_same, z_neP, z_neK, zL_same, zL_neP, zL_neK, zr_same, zr_ne, d4, d5, q_lit, ↓q_m1, q_om, q_on, q_add, q_mul, q_sub, q_div, q_md, q_ltT, q_ltF, q_leT, q_leF, q_eqT, q_eqF, q_inT, q_inF, q_nn, q_mlt, q_ltm, q_mle, q_lem, q_nem, q_mne]
      refine hnext _ _ ⟨⟨?_, ?_, ?_⟩, ?_, ?_, ?_, ?_, ?_, ?_, ?_, ?_, ?_, ?_⟩ ?_ ?_ h54 h49 ?_ hl
      · simp (disch := omega) only [z_same, z_neP, z_neK, zL_same, zL_neP, zL_neK, zr_same, zr_ne]; exact a0
      · simp (disch := omega) only [z_same, z_neP, z_neK, zL_same, zL_neP, zL_neK, zr_same, zr_ne]; exact a4
      · simp (disch := omega) only [z_same, z_neP, z_neK, zL_same, zL_neP, zL_neK, zr_same, zr_ne]; exact a7
      · intro k hk; simp (disch := omega) only [z_same, z_neP, z_neK, zL_same, zL_neP, zL_neK, zr_same, zr_ne]; exact s1 k hk
      · intro k hk; simp (disch := omega) only [z_same, z_neP, z_neK, zL_same, zL_neP, zL_neK, zr_same, zr_ne]; exact s2 k hk
      · intro k hk; simp (disch := omega) only [z_same, z_neP, z_neK, zL_same, zL_neP, zL_neK, zr_same, zr_ne]; exact s3 k hk
      · intro k hk hp
        by_cases hkk : k = st
        · subst hkk; simp (disch := omega) only [z_same, z_neP, z_neK, zL_same, zL_neP, zL_neK, zr_same, zr_ne, nu, ↓reduceIte]
        · simp (disch := omega) only [z_same, z_neP, z_neK, zL_same, zL_neP, zL_neK, zr_same, zr_ne, nu, hkk, ↓reduceIte]; exact s4 k hk (by omega)
      · intro k hk hp
        by_cases hkk : k = st
        · subst hkk; simp (disch := omega) only [z_same, z_neP, z_neK, zL_same, zL_neP, zL_neK, zr_same, zr_ne, nu, ↓reduceIte]
        · simp (disch := omega) only [z_same, z_neP, z_neK, zL_same, zL_neP, zL_neK, zr_same, zr_ne, nu, hkk, ↓reduceIte]; exact s5 k hk (by omega)
      · intro k hk hp
        by_cases hkk : k = st
        · subst hkk; simp (disch := omega) only [z_same, z_neP, z_neK, zL_same, zL_neP, zL_neK, zr_same, zr_ne, nu, ↓reduceIte]
        · simp (disch := omega) only [z_same, z_neP, z_neK, zL_same, zL_neP, zL_neK, zr_same, zr_ne, nu, hkk, ↓reduceIte]; exact s6 k hk (by omega)
      · intro k hk; simp (disch := omega) only [z_same, z_neP, z_neK, zL_same, zL_neP, zL_neK, zr_same, zr_ne]; exact s7 k hk
      · intro k hk; simp (disch := omega) only [z_same, z_neP, z_neK, zL_same, zL_neP, zL_neK, zr_same, zr_ne]; exact s8 k hk
      · intro k hk; simp (disch := omega) only [z_same, z_neP, z_neK, zL_same, zL_neP, zL_neK, zr_same, zr_ne]; exact s9 k hk
      · intro k hk; simp (disch := omega) only [z_same, z_neP, z_neK, zL_same, zL_neP, zL_neK, zr_same, zr_ne]; exact s10 k hk
      · simp (disch := omega) only [z_same, z_neP, z_neK, zL_same, zL_neP, zL_neK, zr_same, zr_ne]; exact h52
      · simp (disch := omega) only [z_same, z_neP, z_neK, zL_same, zL_neP, zL_neK, zr_same, zr_ne]; exact h53
      · exact RFr_tr hfr1 (RFr_tr (RFr_tr (RFr_z (by omega)) (RFr_z (by omega))) (RFr_z (by omega)))
    · simp only [brS, hl1, ↓reduceIte] at hnext
      have hz : ml i - 1 = 0 := by omega
      have hR2 : UR (z_uI V1 25 (180 * v + 3 * i + 2) (qi (ml i - 1))) L1 b U := RFr_UR hfr1 (hl 12 (by omega) (by omega)) hR
      have har := r_arrives (L := L1) (f := mp i / 6) (t := mp i % 6) (cm := cm) (ls := ls) (x := y) (dr := dr) hv hR2 hU hSd b1.1.1 hm60 b1.1.2.2 (fun k hk => (b1.2.1 k hk).1) (fun k hk => (b1.2.1 k hk).2.2) (by omega) (by omega) (by rw [z_neP (by omega)]; exact h52) (by rw [z_neP (by omega)]; exact h53) h49 b6
      have hpe : 6 * (mp i / 6) + mp i % 6 = mp i := by omega
      rw [hpe] at har
      rw [hz] at har hfr1 hSd
      have d4' : z_uI V1 25 (180 * v + 3 * i + 2) (qi 0) 25 (180 * v + 3 * i) = qi (mp i / 6) := by rw [z_neK (by omega)]; exact d4
      have d5' : z_uI V1 25 (180 * v + 3 * i + 2) (qi 0) 25 (180 * v + 3 * i + 1) = qi (mp i % 6) := by rw [z_neK (by omega)]; exact d5
      simp (disch := omega) only [b_passes_20, a4, hi', e3, d6, hz, d4', d5', ↓reduceIte, o_bind, and_true, true_and, and_false, false_and, or_true, true_or, or_false, false_or, not_true, not_false_eq_true, not_false_iff, ne_eq, Nat.reduceAdd, Nat.reduceMul, Nat.reduceSub, Nat.reduceDiv, Nat.reduceMod, Nat.reduceLT, Nat.reduceLeDiff, Nat.reduceEqDiff, Nat.not_lt, Nat.not_le, q_lit, ↓q_m1, q_om, q_on, q_add, q_mul, q_sub, q_div, q_md, q_ltT, q_ltF, q_leT, q_leF, q_eqT, q_eqF, q_inT, q_inF, q_nn, q_mlt, q_ltm, q_mle, q_lem, q_nem, q_mne, z_same]
      refine zW_call har ?_
      rintro ⟨V2, L2⟩ ⟨q1, q2, q3, q4, q5, q6, q7⟩
      dsimp only at q1 q2 q3 q4 q5 q6 q7 ⊢
      exact hnext V2 L2 q1 q2 q3 (by rw [q4, h54]) q5 (RFr_tr hfr1 q7) (fun w h1 h2 => by rw [q6 w h1]; exact hl w h1 h2)
end
