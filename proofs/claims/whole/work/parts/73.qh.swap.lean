section
variable {n : Nat} {K N : Nat → Nat} {G : zG} {V R : zI} {L M : zL} {u b f0 cnt acts x : Nat} {pl : Nat → Nat} {U : aU} {A : aS} {hi : Nat → aS} {q p : Nat} {h : Int}
/-! worth -/
def wth (U : aU) (A : aS) (p : Nat) (h : Int) : Int := rv U A 2 p h * h
theorem wth_b (hU : UB U) (hA : SB U A) (hk : p < 36) (hh : -1 ≤ h ∧ h ≤ 100) : -100000000 ≤ wth U A p h ∧ wth U A p h ≤ 100000000 := by
  have hb := (rv_b (r := 2) (by omega) hU hA hk hh).1
  unfold wth
  generalize rv U A 2 p h = z at hb
  by_cases h0 : 0 ≤ h
  · have h1 : z * h ≤ 1000000 * h := Int.mul_le_mul_of_nonneg_right hb.2 h0
    have h2 : (-1000000) * h ≤ z * h := Int.mul_le_mul_of_nonneg_right hb.1 h0
    omega
  · have e : h = -1 := by omega
    rw [e]
    omega
theorem cs_worth (hx : fxS N G) (hu : unS N G u) (hC : UC N G V u U) (hS : SC V 6 A) (hU : UB U) (hA : SB U A) (hk : p < 36) (hh : -1 ≤ h ∧ h ≤ 100) : zW (f_X0_worthOf N G u 6 20 (qi p) (qz h) V L) (fun r => r.1 = qZ (wth U A p h) ∧ r.2.2 = L ∧ ∀ w, w ≠ 21 → r.2.1 w = V w) := by
  have hb := (rv_b (r := 2) (by omega) hU hA hk hh).1
  have e64 : (qz h).toInt64 = qZ h := qz_64 (by omega) (by omega)
  unfold f_X0_worthOf g_X0_worthOf
  cases hl : U.2.2.2.2.2.1 2 with
  | none =>
    have g10 : G u 10 = none := (hC.2.2.2 2 (by omega)).1 hl
    have hz : rv U A 2 p h = 1 := by rw [rv_n hl]; rfl
    simp only [g10, zopt_n, f_X4_reckon_n, g_X4_reckon_n, o_bind]
    refine zW_some ⟨?_, rfl, fun _ _ => rfl⟩
    show (1 : Int32).toInt64 * (qz h).toInt64 = _
    unfold wth
    rw [hz, e64, show (1 : Int32).toInt64 = qZ 1 from rfl, qZ_mul]
  | some l =>
    obtain ⟨p', g10, -⟩ := (hC.2.2.2 2 (by omega)).2 l hl
    have g10' : G u 10 = some p' := g10
    simp only [g10', zopt_s]
    refine zW_call (c_rule (r := 2) (V1 := V) hx hu hx.2.1 (by omega) hC hS hU hA hk hh (by omega) g10 (fun _ _ => rfl)) ?_
    rintro ⟨y1, V4, y4⟩ ⟨b1, b2, h4⟩
    dsimp only at b1 b2 h4 ⊢
    subst b1
    refine zW_some ⟨?_, b2, h4⟩
    show (qz (rv U A 2 p h)).toInt64 * (qz h).toInt64 = _
    unfold wth
    rw [e64, qz_64 (by omega) (by omega), qZ_mul]
/-! a barter's rows -/
def baS (N : Nat → Nat) (G : zG) (q : Nat) : Prop := (G q 0 = some (q + 1) ∧ G q 1 = some (q + 2) ∧ G q 2 = some (q + 3) ∧ G q 3 = some (q + 4) ∧ G q 4 = some (q + 5)) ∧ N (q + 1) = 36 ∧ N (q + 2) = 36 ∧ N (q + 3) = 36 ∧ N (q + 4) = 36 ∧ N (q + 5) = 5
set_option maxHeartbeats 4000000 in
theorem cs_newB {s : Nat} (hsn : n = s + 1) : zW (f_X0_init s n K N G V L) (fun r => r.1 = s + 6 ∧ r.2.1 = 5 ∧ r.2.2.1 = 149 ∧ (∀ w, w < s → r.2.2.2.1 w = K w ∧ r.2.2.2.2.1 w = N w ∧ r.2.2.2.2.2.1 w = G w ∧ r.2.2.2.2.2.2.1 w = V w) ∧ baS r.2.2.2.2.1 r.2.2.2.2.2.1 s ∧ r.2.2.2.2.2.2.1 (s + 5) 4 = qi 0 ∧ r.2.2.2.2.2.2.2 s 5 = qZ 0) := by
  subst hsn
  have t36 : (36 : Int32).toNatClampNeg = 36 := rfl
  have t5 : (5 : Int32).toNatClampNeg = 5 := rfl
  have o36 : (¬ (36 : Int32) < 0 ∧ 36 ≤ 100000) := by decide
  have o5 : (¬ (5 : Int32) < 0 ∧ 5 ≤ 100000) := by decide
  unfold f_X0_init g_X0_init f_X0_init_9 f_X0_init_17 f_X0_init_25 f_X0_init_33 f_X0_init_40
  simp only [t36, t5]
  rw [if_pos o36, if_pos o36, if_pos o36, if_pos o36, if_pos o5]
  refine zW_some ⟨rfl, rfl, rfl, fun w hw => ?_, ⟨⟨?_, ?_, ?_, ?_, ?_⟩, ?_, ?_, ?_, ?_, ?_⟩, ?_, ?_⟩
  · dsimp only
    refine ⟨?_, ?_, ?_, ?_⟩
    · simp (disch := omega) only [kU_same, kU_ne, gS_same, gS_neP, gS_neK]
    · simp (disch := omega) only [kU_same, kU_ne, gS_same, gS_neP, gS_neK]
    · simp (disch := omega) only [kU_same, kU_ne, gS_same, gS_neP, gS_neK]
    · simp (disch := omega) only [kU_same, kU_ne, gS_same, gS_neP, gS_neK]
  · dsimp only; simp (disch := omega) only [kU_same, kU_ne, gS_same, gS_neP, gS_neK]
  · dsimp only; simp (disch := omega) only [kU_same, kU_ne, gS_same, gS_neP, gS_neK]
  · dsimp only; simp (disch := omega) only [kU_same, kU_ne, gS_same, gS_neP, gS_neK]
  · dsimp only; simp (disch := omega) only [kU_same, kU_ne, gS_same, gS_neP, gS_neK]
  · dsimp only; simp (disch := omega) only [kU_same, kU_ne, gS_same, gS_neP, gS_neK]
  · dsimp only; simp (disch := omega) only [kU_same, kU_ne, gS_same, gS_neP, gS_neK]
  · dsimp only; simp (disch := omega) only [kU_same, kU_ne, gS_same, gS_neP, gS_neK]
  · dsimp only; simp (disch := omega) only [kU_same, kU_ne, gS_same, gS_neP, gS_neK]
  · dsimp only; simp (disch := omega) only [kU_same, kU_ne, gS_same, gS_neP, gS_neK]
  · dsimp only; simp (disch := omega) only [kU_same, kU_ne, gS_same, gS_neP, gS_neK]
  · dsimp only; simp (disch := omega) only [kU_same, kU_ne, gS_same, gS_neP, gS_neK]; rfl
  · dsimp only; simp (disch := omega) only [z_same, z_neP, z_neK, zL_same, zL_neP, zL_neK, zr_same, zr_ne]; rfl
def pr6 (U : aU) (p : Nat) : Prop := p / 6 < U.1 ∧ p % 6 < U.1 ∧ p / 6 ≠ p % 6
def baP (V : zI) (L : zL) (q : Nat) (U : aU) (A : aS) (i : Nat) : Prop := ∀ p, p < i → pr6 U p → V (q + 3) p = qi (decide (0 < A.2.1 p)).toNat ∧ V (q + 4) p = qi (decide (A.2.1 p < 99)).toNat ∧ L (q + 1) p = qZ (wth U A p ((A.2.1 p : Int) - 1) - wth U A p (A.2.1 p)) ∧ L (q + 2) p = qZ (wth U A p ((A.2.1 p : Int) + 1) - wth U A p (A.2.1 p))
set_option maxHeartbeats 8000000 in
theorem cs_weigh (hx : fxS N G) (hu : unS N G u) (hb : baS N G q) (hq : 22 ≤ q) (hU : UB U) (hA : SB U A) (hJ : ∀ V1 : zI, (∀ w, w ≠ 21 → w < q → V1 w = V w) → UC N G V1 u U ∧ SC V1 6 A) (e5 : V (q + 5) 4 = qi 0) (eL : L q 5 = qZ 0) : zW (f_X0_weigh N G q u 6 20 V L) (fun r => baP r.1 r.2 q U A 36 ∧ r.1 (q + 5) 4 = qi 0 ∧ r.2 q 5 = qZ 0 ∧ ∀ w, w ≠ 21 → w < q → r.1 w = V w) := by
  obtain ⟨⟨k0, k1, k2, k3, k4⟩, n1, n2, n3, n4, n5⟩ := id hb
  have htw := UB_tw hU
  have g61 : G 6 1 = some 7 := hx.2.1.1.1
  have n7 : N 7 = 36 := hx.2.1.2.1
  unfold f_X0_weigh g_X0_weigh
  rw [k0, k1, k2, k3, g61]
  simp only [o_bind]
  refine zW_lp (I := fun r z => ∃ (i : Nat) (V1 : zI) (L1 : zL), i ≤ 36 ∧ r = 36 - i ∧ z = (qi i, V1, L1) ∧ baP V1 L1 q U A i ∧ V1 (q + 5) 4 = qi 0 ∧ L1 q 5 = qZ 0 ∧ ∀ w, w ≠ 21 → w < q → V1 w = V w) ?_ FU 36 _ ⟨0, V, L, by omega, by omega, rfl, fun p hp => absurd hp (by omega), e5, eL, fun _ _ _ => rfl⟩ (FU_big (by omega))
  rintro kk r z ⟨i, V1, L1, hi', rfl, rfl, h1, h2, h3, hw⟩ ih
  by_cases hend : i = 36
  · subst hend
    simp (disch := omega) only [b_X0_weigh_3, ↓reduceIte, o_bind, and_true, true_and, and_false, false_and, or_true, true_or, or_false, false_or, not_true, not_false_eq_true, not_false_iff, ne_eq, Nat.reduceAdd, Nat.reduceMul, Nat.reduceSub, Nat.reduceDiv, Nat.reduceMod, Nat.reduceLT, Nat.reduceLeDiff, Nat.reduceEqDiff, Nat.not_lt, Nat.not_le, q_lit, ↓q_m1, q_om, q_on, q_add, q_mul, q_sub, q_div, q_md, q_ltT, q_ltF, q_leT, q_leF, q_eqT, q_eqF, q_inT, q_inF, q_nn, q_mlt, q_ltm, q_mle, q_lem, q_nem, q_mne]
    exact zW_some ⟨h1, h2, h3, hw⟩
  obtain ⟨hC, hS⟩ := hJ V1 hw
  have hip := f_X9_isPair_e (L := L1) hC hU (x := i / 6) (y := i % 6) (by omega) (by omega)
  by_cases hpr : i / 6 < U.1 ∧ i % 6 < U.1 ∧ i / 6 ≠ i % 6
  · have hk : i < 36 := by omega
    have hhb := SB_held hA hk
    have e7 : V1 7 i = qi (A.2.1 i) := hS.2.1 i hk
    have hin36 : inB (qi i) 36 := q_inP (by omega) (by omega)
    have enn : (qi i).toNatClampNeg = i := q_nn (by omega)
    have hw0 := cs_worth (L := L1) (p := i) (h := (A.2.1 i : Int)) hx hu hC hS hU hA hk (by omega)
    rw [← qi_z] at hw0
    have h64 : ∀ (c0 : Nat) (y : Int64) (V2 : zI) (L2 : zL), c0 < 2 → f_X0_weigh_64 N G q u 6 20 (q + 1) (q + 2) (q + 3) (q + 4) 7 kk (qi i) (qi (A.2.1 i)) y (qi i) (qi c0) V2 L2 = f_X0_weigh_83 N G q u 6 20 (q + 1) (q + 2) (q + 3) (q + 4) 7 kk (qi i) (qi (A.2.1 i)) y (qi i) (qi (decide (A.2.1 i < 99)).toNat) (z_uI V2 (q + 3) i (qi c0)) L2 := by
      intro c0 y V2 L2 hc0
      have hnar : vp_nar .boolean (qi c0) = qi c0 := by
        rcases (by omega : c0 = 0 ∨ c0 = 1) with rfl | rfl
        · rfl
        · rfl
      simp (disch := omega) only [f_X0_weigh_64, n3, hnar, q_inT, q_nn, ↓reduceIte]
      by_cases h99 : A.2.1 i < 99
      · rw [if_neg (show ¬ 99 ≤ qi (A.2.1 i) from fun h => by have := (q_le (a := 99) (by omega) (by omega)).mp h; omega), decide_eq_true h99]
        rfl
      · rw [if_pos (show 99 ≤ qi (A.2.1 i) from (q_le (a := 99) (by omega) (by omega)).mpr (by omega)), decide_eq_false h99]
        rfl
    have hgo : ∀ (V2 : zI), (∀ w, w ≠ 21 → V2 w = V1 w) → zW (f_X0_weigh_64 N G q u 6 20 (q + 1) (q + 2) (q + 3) (q + 4) 7 kk (qi i) (qi (A.2.1 i)) (qZ (wth U A i (A.2.1 i))) (qi i) (qi (decide (0 < A.2.1 i)).toNat) V2 L1) (fun r => baP r.1 r.2 q U A 36 ∧ r.1 (q + 5) 4 = qi 0 ∧ r.2 q 5 = qZ 0 ∧ ∀ w, w ≠ 21 → w < q → r.1 w = V w) := by
      intro V2 hv2
      have hc0 : (decide (0 < A.2.1 i)).toNat < 2 := by cases decide (0 < A.2.1 i) <;> decide
      have hc1 : (decide (A.2.1 i < 99)).toNat < 2 := by cases decide (A.2.1 i < 99) <;> decide
      have hnar : vp_nar .boolean (qi (decide (A.2.1 i < 99)).toNat) = qi (decide (A.2.1 i < 99)).toNat := by cases decide (A.2.1 i < 99) <;> rfl
      have em : qi (A.2.1 i) - 1 = qz ((A.2.1 i : Int) - 1) := by
        rw [qi_z]
        exact qz_sub _ 1
      have ep : qi (A.2.1 i) + 1 = qz ((A.2.1 i : Int) + 1) := by
        rw [qi_z]
        exact qz_add _ 1
      rw [h64 _ _ _ _ hc0]
      simp (disch := omega) only [f_X0_weigh_83, n4, n1, n2, hnar, em, ep, q_inT, q_nn, ↓reduceIte]
      have w3 : ∀ w, w ≠ 21 → w < q → z_uI (z_uI V2 (q + 3) i (qi (decide (0 < A.2.1 i)).toNat)) (q + 4) i (qi (decide (A.2.1 i < 99)).toNat) w = V w := fun w w1 w2 => by rw [z_neP (by omega), z_neP (by omega), hv2 w w1]; exact hw w w1 w2
      obtain ⟨hC3, hS3⟩ := hJ _ w3
      refine zW_call (cs_worth (L := L1) (p := i) (h := (A.2.1 i : Int) - 1) hx hu hC3 hS3 hU hA hk (by omega)) ?_
      rintro ⟨y3, V3, L3⟩ ⟨a1, a2, a3⟩
      dsimp only at a1 a2 a3 ⊢
      subst a1
      rw [a2]
      have w4 : ∀ w, w ≠ 21 → w < q → V3 w = V w := fun w w1 w2 => (a3 w w1).trans (w3 w w1 w2)
      obtain ⟨hC4, hS4⟩ := hJ _ w4
      refine zW_call (cs_worth (L := z_uL L1 (q + 1) i (qZ (wth U A i ((A.2.1 i : Int) - 1)) - qZ (wth U A i (A.2.1 i)))) (p := i) (h := (A.2.1 i : Int) + 1) hx hu hC4 hS4 hU hA hk (by omega)) ?_
      rintro ⟨y4, V4, L4⟩ ⟨c1, c2, c3⟩
      dsimp only at c1 c2 c3 ⊢
      subst c1
      rw [c2, show qi i + 1 = qi (i + 1) from q_add i 1]
      have v4 : ∀ w, w ≠ 21 → V4 w = z_uI (z_uI V2 (q + 3) i (qi (decide (0 < A.2.1 i)).toNat)) (q + 4) i (qi (decide (A.2.1 i < 99)).toNat) w := fun w w1 => (c3 w w1).trans (a3 w w1)
      refine ih (36 - (i + 1)) _ (by omega) ⟨i + 1, V4, _, by omega, rfl, rfl, fun p hp hpp => ?_, ?_, ?_, fun w w1 w2 => (c3 w w1).trans (w4 w w1 w2)⟩
      · rw [v4 (q + 3) (by omega), v4 (q + 4) (by omega)]
        by_cases e : p = i
        · subst e
          simp (disch := omega) only [z_same, z_neP, z_neK, zL_same, zL_neP, zL_neK, zr_same, zr_ne]
          rw [qZ_sub, qZ_sub]
          exact ⟨trivial, trivial, rfl, rfl⟩
        · have := h1 p (by omega) hpp
          simp (disch := omega) only [z_same, z_neP, z_neK, zL_same, zL_neP, zL_neK, zr_same, zr_ne]
          rw [hv2 (q + 3) (by omega), hv2 (q + 4) (by omega)]
          exact this
      · rw [v4 (q + 5) (by omega), z_neP (by omega), z_neP (by omega), hv2 (q + 5) (by omega)]
        exact h2
      · simp (disch := omega) only [z_same, z_neP, z_neK, zL_same, zL_neP, zL_neK, zr_same, zr_ne]
        exact h3
    by_cases h0 : 0 < A.2.1 i
    · rw [decide_eq_true h0] at hgo
      simp (disch := omega) only [b_X0_weigh_3, hip, hpr, and_self, n7, e7, ↓reduceIte, o_bind, and_true, true_and, and_false, false_and, or_true, true_or, or_false, false_or, not_true, not_false_eq_true, not_false_iff, ne_eq, Nat.reduceAdd, Nat.reduceMul, Nat.reduceSub, Nat.reduceDiv, Nat.reduceMod, Nat.reduceLT, Nat.reduceLeDiff, Nat.reduceEqDiff, Nat.not_lt, Nat.not_le, q_lit, ↓q_m1, q_om, q_on, q_add, q_mul, q_sub, q_div, q_md, q_ltT, q_ltF, q_leT, q_leF, q_eqT, q_eqF, q_inT, q_inF, q_nn, q_mlt, q_ltm, q_mle, q_lem, q_nem, q_mne]
      refine zW_call hw0 ?_
      rintro ⟨y2, V2, L2⟩ ⟨a1, a2, a3⟩
      dsimp only at a1 a2 a3 ⊢
      rw [a1, a2]
      exact hgo V2 a3
    · rw [decide_eq_false h0] at hgo
      have h0' : A.2.1 i = 0 := by omega
      simp (disch := omega) only [b_X0_weigh_3, hip, hpr, and_self, n7, e7, ↓reduceIte, o_bind, and_true, true_and, and_false, false_and, or_true, true_or, or_false, false_or, not_true, not_false_eq_true, not_false_iff, ne_eq, Nat.reduceAdd, Nat.reduceMul, Nat.reduceSub, Nat.reduceDiv, Nat.reduceMod, Nat.reduceLT, Nat.reduceLeDiff, Nat.reduceEqDiff, Nat.not_lt, Nat.not_le, q_lit, ↓q_m1, q_om, q_on, q_add, q_mul, q_sub, q_div, q_md, q_ltT, q_ltF, q_leT, q_leF, q_eqT, q_eqF, q_inT, q_inF, q_nn, q_mlt, q_ltm, q_mle, q_lem, q_nem, q_mne]
      refine zW_call hw0 ?_
      rintro ⟨y2, V2, L2⟩ ⟨a1, a2, a3⟩
      dsimp only at a1 a2 a3 ⊢
      rw [a1, a2]
      exact hgo V2 a3
  · simp (disch := omega) only [b_X0_weigh_3, hip, hpr, ↓reduceIte, o_bind, and_true, true_and, and_false, false_and, or_true, true_or, or_false, false_or, not_true, not_false_eq_true, not_false_iff, ne_eq, Nat.reduceAdd, Nat.reduceMul, Nat.reduceSub, Nat.reduceDiv, Nat.reduceMod, Nat.reduceLT, Nat.reduceLeDiff, Nat.reduceEqDiff, Nat.not_lt, Nat.not_le, q_lit, ↓q_m1, q_om, q_on, q_add, q_mul, q_sub, q_div, q_md, q_ltT, q_ltF, q_leT, q_leF, q_eqT, q_eqF, q_inT, q_inF, q_nn, q_mlt, q_ltm, q_mle, q_lem, q_nem, q_mne]
    refine ih (36 - (i + 1)) _ (by omega) ⟨i + 1, V1, L1, by omega, rfl, rfl, fun p hp hpp => ?_, h2, h3, hw⟩
    by_cases e : p = i
    · subst e; exact absurd hpp hpr
    · exact h1 p (by omega) hpp
/-! which swap is best -/
def swG (U : aU) (A : aS) (k : Nat) : Int := (wth U A (6 * (k / 216) + k / 6 % 6) ((A.2.1 (6 * (k / 216) + k / 6 % 6) : Int) - 1) - wth U A (6 * (k / 216) + k / 6 % 6) (A.2.1 (6 * (k / 216) + k / 6 % 6))) + (wth U A (6 * (k / 36 % 6) + k / 6 % 6) ((A.2.1 (6 * (k / 36 % 6) + k / 6 % 6) : Int) + 1) - wth U A (6 * (k / 36 % 6) + k / 6 % 6) (A.2.1 (6 * (k / 36 % 6) + k / 6 % 6))) + (wth U A (6 * (k / 36 % 6) + k % 6) ((A.2.1 (6 * (k / 36 % 6) + k % 6) : Int) - 1) - wth U A (6 * (k / 36 % 6) + k % 6) (A.2.1 (6 * (k / 36 % 6) + k % 6))) + (wth U A (6 * (k / 216) + k % 6) ((A.2.1 (6 * (k / 216) + k % 6) : Int) + 1) - wth U A (6 * (k / 216) + k % 6) (A.2.1 (6 * (k / 216) + k % 6)))
def swT (U : aU) (k : Nat) : Prop := k / 216 < k / 36 % 6 ∧ k / 36 % 6 < U.1 ∧ k / 6 % 6 < U.1 ∧ k % 6 < U.1 ∧ k / 6 % 6 ≠ k / 216 ∧ k / 6 % 6 ≠ k / 36 % 6 ∧ k % 6 ≠ k / 216 ∧ k % 6 ≠ k / 36 % 6 ∧ k / 6 % 6 ≠ k % 6
def swO (U : aU) (A : aS) (k : Nat) : Prop := swT U k ∧ 0 < A.2.1 (6 * (k / 216) + k / 6 % 6) ∧ 0 < A.2.1 (6 * (k / 36 % 6) + k % 6) ∧ A.2.1 (6 * (k / 216) + k % 6) < 99 ∧ A.2.1 (6 * (k / 36 % 6) + k / 6 % 6) < 99
def bsP (U : aU) (A : aS) (k : Nat) (bk : Option Nat) (m : Int) : Prop := match bk with
  | none => m = 0 ∧ ∀ k', k' < k → swO U A k' → swG U A k' ≤ 0
  | some j => j < k ∧ swO U A j ∧ swG U A j = m ∧ 0 < m ∧ (∀ k', k' < k → swO U A k' → swG U A k' ≤ m) ∧ ∀ k', k' < j → swO U A k' → swG U A k' < m
theorem bs_skip {k k2 : Nat} {bk : Option Nat} {m : Int} (h : bsP U A k bk m) (hk : k ≤ k2) (hno : ∀ k', k ≤ k' → k' < k2 → ¬ swO U A k') : bsP U A k2 bk m := by
  match bk, h with
  | none, h =>
    refine ⟨h.1, fun k' h1 h2 => ?_⟩
    by_cases e : k' < k
    · exact h.2 k' e h2
    · exact absurd h2 (hno k' (by omega) h1)
  | some j, h =>
    obtain ⟨h1, h2, h3, h4, h5, h6⟩ := h
    refine ⟨by omega, h2, h3, h4, fun k' g1 g2 => ?_, h6⟩
    by_cases e : k' < k
    · exact h5 k' e g2
    · exact absurd g2 (hno k' (by omega) g1)
theorem bs_no {k : Nat} {bk : Option Nat} {m : Int} (h : bsP U A k bk m) (hg : swG U A k ≤ m) : bsP U A (k + 1) bk m := by
  match bk, h with
  | none, h =>
    refine ⟨h.1, fun k' h1 h2 => ?_⟩
    by_cases e : k' = k
    · subst e; have := h.1; omega
    · exact h.2 k' (by omega) h2
  | some j, h =>
    obtain ⟨h1, h2, h3, h4, h5, h6⟩ := h
    refine ⟨by omega, h2, h3, h4, fun k' g1 g2 => ?_, h6⟩
    by_cases e : k' = k
    · subst e; exact hg
    · exact h5 k' (by omega) g2
theorem bs_yes {k : Nat} {bk : Option Nat} {m : Int} (h : bsP U A k bk m) (ho : swO U A k) (hg : m < swG U A k) : bsP U A (k + 1) (some k) (swG U A k) := by
  match bk, h with
  | none, h =>
    have h0 := h.1
    refine ⟨by omega, ho, rfl, by omega, fun k' g1 g2 => ?_, fun k' g1 g2 => ?_⟩
    · by_cases e : k' = k
      · subst e; exact Int.le_refl _
      · have := h.2 k' (by omega) g2; omega
    · have := h.2 k' g1 g2; omega
  | some j, h =>
    obtain ⟨h1, h2, h3, h4, h5, h6⟩ := h
    refine ⟨by omega, ho, rfl, by omega, fun k' g1 g2 => ?_, fun k' g1 g2 => ?_⟩
    · by_cases e : k' = k
      · subst e; exact Int.le_refl _
      · have := h5 k' (by omega) g2; omega
    · have := h5 k' g1 g2; omega
theorem bs_one {k : Nat} {b1 b2 : Option Nat} {m1 m2 : Int} (h1 : bsP U A k b1 m1) (h2 : bsP U A k b2 m2) : b1 = b2 ∧ m1 = m2 := by
  match b1, b2, h1, h2 with
  | none, none, h1, h2 => exact ⟨rfl, by rw [h1.1, h2.1]⟩
  | none, some j, h1, h2 =>
    have := h1.2 j h2.1 h2.2.1
    have e1 := h2.2.2.1
    have e2 := h2.2.2.2.1
    omega
  | some j, none, h1, h2 =>
    have := h2.2 j h1.1 h1.2.1
    have e1 := h1.2.2.1
    have e2 := h1.2.2.2.1
    omega
  | some i, some j, h1, h2 =>
    obtain ⟨a1, a2, a3, a4, a5, a6⟩ := h1
    obtain ⟨c1, c2, c3, c4, c5, c6⟩ := h2
    have e1 := a5 j c1 c2
    have e2 := c5 i a1 a2
    have em : m1 = m2 := by omega
    refine ⟨?_, em⟩
    by_cases h : i < j
    · have := c6 i h a2; omega
    · by_cases h' : j < i
      · have := a6 j h' c2; omega
      · rw [show i = j by omega]
theorem swG_b {k : Nat} (hU : UB U) (hA : SB U A) (hk : k < 1296) : -1000000000 ≤ swG U A k ∧ swG U A k ≤ 1000000000 := by
  have hb := fun p (hp : p < 36) => SB_held hA hp
  have w := fun p (hp : p < 36) (h : Int) (hh : -1 ≤ h ∧ h ≤ 100) => wth_b (h := h) hU hA hp hh
  have p1 : 6 * (k / 216) + k / 6 % 6 < 36 := by omega
  have p2 : 6 * (k / 36 % 6) + k / 6 % 6 < 36 := by omega
  have p3 : 6 * (k / 36 % 6) + k % 6 < 36 := by omega
  have p4 : 6 * (k / 216) + k % 6 < 36 := by omega
  unfold swG
  generalize 6 * (k / 216) + k / 6 % 6 = x1 at *
  generalize 6 * (k / 36 % 6) + k / 6 % 6 = x2 at *
  generalize 6 * (k / 36 % 6) + k % 6 = x3 at *
  generalize 6 * (k / 216) + k % 6 = x4 at *
  have q1 := hb x1 p1
  have q2 := hb x2 p2
  have q3 := hb x3 p3
  have q4 := hb x4 p4
  have r1 := w x1 p1 ((A.2.1 x1 : Int) - 1) (by omega)
  have r2 := w x1 p1 (A.2.1 x1) (by omega)
  have r3 := w x2 p2 ((A.2.1 x2 : Int) + 1) (by omega)
  have r4 := w x2 p2 (A.2.1 x2) (by omega)
  have r5 := w x3 p3 ((A.2.1 x3 : Int) - 1) (by omega)
  have r6 := w x3 p3 (A.2.1 x3) (by omega)
  have r7 := w x4 p4 ((A.2.1 x4 : Int) + 1) (by omega)
  have r8 := w x4 p4 (A.2.1 x4) (by omega)
  omega
theorem bs_b {k : Nat} {bk : Option Nat} {m : Int} (hU : UB U) (hA : SB U A) (h : bsP U A k bk m) (hk : k ≤ 1296) : 0 ≤ m ∧ m ≤ 1000000000 := by
  match bk, h with
  | none, h => rw [h.1]; omega
  | some j, h =>
    have := swG_b hU hA (k := j) (by have := h.1; omega)
    have e1 := h.2.2.1
    have e2 := h.2.2.2.1
    omega
end
