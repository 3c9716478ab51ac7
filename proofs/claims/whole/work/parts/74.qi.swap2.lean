section
variable {n : Nat} {K N : Nat → Nat} {G : zG} {V R : zI} {L M : zL} {u b f0 cnt acts x : Nat} {pl : Nat → Nat} {U : aU} {A : aS} {hi : Nat → aS} {q p : Nat} {h : Int}
def bcP (V : zI) (L : zL) (q : Nat) (bk : Option Nat) (m : Int) : Prop := L q 5 = qZ m ∧ match bk with
  | none => V (q + 5) 4 = qi 0
  | some j => V (q + 5) 0 = qi (j / 216) ∧ V (q + 5) 1 = qi (j / 36 % 6) ∧ V (q + 5) 2 = qi (j / 6 % 6) ∧ V (q + 5) 3 = qi (j % 6) ∧ V (q + 5) 4 = qz m
def swR (V : zI) (L : zL) (q : Nat) (U : aU) (A : aS) (k : Nat) (V' : zI) (L' : zL) : Prop := (∃ bk m, bsP U A k bk m ∧ bcP V' L' q bk m) ∧ baP V' L' q U A 36 ∧ ∀ w, w ≠ q + 5 → V' w = V w
theorem swR_skip {k k2 : Nat} {V' : zI} {L' : zL} (h : swR V L q U A k V' L') (hk : k ≤ k2) (hno : ∀ k', k ≤ k' → k' < k2 → ¬ swO U A k') : swR V L q U A k2 V' L' := by
  obtain ⟨⟨bk, m, h1, h2⟩, h3, h4⟩ := h
  exact ⟨⟨bk, m, bs_skip h1 hk hno, h2⟩, h3, h4⟩
theorem k_dig {k a c d e : Nat} (hk : k = 216 * a + 36 * c + 6 * d + e) (ha : a < 6) (hc : c < 6) (hd : d < 6) (he : e < 6) : k / 216 = a ∧ k / 36 % 6 = c ∧ k / 6 % 6 = d ∧ k % 6 = e := by omega
set_option maxHeartbeats 8000000 in
theorem cs_comp {k a c d e : Nat} {V1 : zI} {L1 : zL} (hk : k = 216 * a + 36 * c + 6 * d + e) (ha : a < 6) (hc : c < 6) (hd : d < 6) (he : e < 6) (hT : swT U k) (hb : baS N G q) (hU : UB U) (hA : SB U A) (h : swR V L q U A k V1 L1) : zW (f_X0_compare N G q (qi a) (qi c) (qi d) (qi e) V1 L1) (fun r => swR V L q U A (k + 1) r.1 r.2) := by
  obtain ⟨⟨k0, k1, k2, k3, k4⟩, n1, n2, n3, n4, n5⟩ := id hb
  obtain ⟨⟨bk, m, h1, h2⟩, h3, h4⟩ := id h
  obtain ⟨d1, d2, d3, d4⟩ := k_dig hk ha hc hd he
  have hkb : k < 1296 := by omega
  have hGb := swG_b hU hA hkb
  have hmb := bs_b hU hA h1 (by omega)
  obtain ⟨t1, t2, t3, t4, t5, t6, t7, t8, t9⟩ := id hT
  have htw := UB_tw hU
  rw [d1, d2] at t1
  rw [d2] at t2
  rw [d3] at t3
  rw [d4] at t4
  rw [d1, d3] at t5
  rw [d2, d3] at t6
  rw [d1, d4] at t7
  rw [d2, d4] at t8
  have pp : ∀ y z, y < U.1 → z < U.1 → y ≠ z → 6 * y + z < 36 ∧ pr6 U (6 * y + z) := by
    intro y z hy hz hyz
    obtain ⟨e1, e2⟩ := pr_of (a := y) (b := z) (by omega)
    refine ⟨by omega, ?_⟩
    unfold pr6
    rw [e1, e2]
    exact ⟨hy, hz, hyz⟩
  obtain ⟨l1, p1⟩ := pp a d (by omega) t3 (fun h => t5 h.symm)
  obtain ⟨l2, p2⟩ := pp c d t2 t3 (fun h => t6 h.symm)
  obtain ⟨l3, p3⟩ := pp c e t2 t4 (fun h => t8 h.symm)
  obtain ⟨l4, p4⟩ := pp a e (by omega) t4 (fun h => t7 h.symm)
  obtain ⟨a1, -, a3, -⟩ := h3 _ l1 p1
  obtain ⟨-, b2, -, b4⟩ := h3 _ l2 p2
  obtain ⟨c1, -, c3, -⟩ := h3 _ l3 p3
  obtain ⟨-, e2, -, e4⟩ := h3 _ l4 p4
  have hgain : L1 (q + 1) (6 * a + d) + L1 (q + 2) (6 * c + d) + L1 (q + 1) (6 * c + e) + L1 (q + 2) (6 * a + e) = qZ (swG U A k) := by
    rw [a3, b4, c3, e4, qZ_add, qZ_add, qZ_add]
    unfold swG
    rw [d1, d2, d3, d4]
  have eq1 : qi a * 6 + qi d = qi (6 * a + d) := by
    show qi a * qi 6 + qi d = _
    rw [q_mul, q_add, Nat.mul_comm]
  have eq2 : qi c * 6 + qi d = qi (6 * c + d) := by
    show qi c * qi 6 + qi d = _
    rw [q_mul, q_add, Nat.mul_comm]
  have eq3 : qi c * 6 + qi e = qi (6 * c + e) := by
    show qi c * qi 6 + qi e = _
    rw [q_mul, q_add, Nat.mul_comm]
  have eq4 : qi a * 6 + qi e = qi (6 * a + e) := by
    show qi a * qi 6 + qi e = _
    rw [q_mul, q_add, Nat.mul_comm]
  have i1 : inB (qi (6 * a + d)) 36 := q_inP (by omega) (by omega)
  have i2 : inB (qi (6 * c + d)) 36 := q_inP (by omega) (by omega)
  have i3 : inB (qi (6 * c + e)) 36 := q_inP (by omega) (by omega)
  have i4 : inB (qi (6 * a + e)) 36 := q_inP (by omega) (by omega)
  have nn1 : (qi (6 * a + d)).toNatClampNeg = 6 * a + d := q_nn (by omega)
  have nn2 : (qi (6 * c + d)).toNatClampNeg = 6 * c + d := q_nn (by omega)
  have nn3 : (qi (6 * c + e)).toNatClampNeg = 6 * c + e := q_nn (by omega)
  have nn4 : (qi (6 * a + e)).toNatClampNeg = 6 * a + e := q_nn (by omega)
  have ne1 : ¬ qi 1 = 0 := fun h => by have := (q_eq (a := 1) (b := 0) (by omega) (by omega)).mp h; omega
  have hno : ¬ swO U A k → zW (some (V1, L1)) (fun r => swR V L q U A (k + 1) r.1 r.2) := fun hn => zW_some (swR_skip h (by omega) (fun k' g1 g2 => by
    have e : k' = k := by omega
    rw [e]; exact hn))
  have hO : swO U A k ↔ (0 < A.2.1 (6 * a + d) ∧ 0 < A.2.1 (6 * c + e) ∧ A.2.1 (6 * a + e) < 99 ∧ A.2.1 (6 * c + d) < 99) := by
    unfold swO
    rw [d1, d2, d3, d4]
    exact ⟨fun h => h.2, fun h => ⟨hT, h⟩⟩
  unfold f_X0_compare
  rw [k0, k1, k2, k3, k4]
  simp only [o_bind]
  simp (maxSteps := 4000000) (disch := omega) only [g_X0_compare, eq1, eq2, eq3, eq4, n1, n2, n3, n4, n5, q_inT, q_nn, ↓reduceIte, a1, b2, c1, e2, hgain, h2.1]
  by_cases o1 : 0 < A.2.1 (6 * a + d)
  case neg =>
    rw [decide_eq_false o1, if_pos (show qi false.toNat = 0 from rfl)]
    exact hno (fun h => o1 (hO.mp h).1)
  rw [decide_eq_true o1, if_neg (show ¬ qi true.toNat = 0 from ne1)]
  by_cases o2 : A.2.1 (6 * c + d) < 99
  case neg =>
    rw [decide_eq_false o2, if_pos (show qi false.toNat = 0 from rfl)]
    exact hno (fun h => o2 (hO.mp h).2.2.2)
  rw [decide_eq_true o2, if_neg (show ¬ qi true.toNat = 0 from ne1)]
  by_cases o3 : 0 < A.2.1 (6 * c + e)
  case neg =>
    rw [decide_eq_false o3, if_pos (show qi false.toNat = 0 from rfl)]
    exact hno (fun h => o3 (hO.mp h).2.1)
  rw [decide_eq_true o3, if_neg (show ¬ qi true.toNat = 0 from ne1)]
  by_cases o4 : A.2.1 (6 * a + e) < 99
  case neg =>
    rw [decide_eq_false o4, if_pos (show qi false.toNat = 0 from rfl)]
    exact hno (fun h => o4 (hO.mp h).2.2.1)
  rw [decide_eq_true o4, if_neg (show ¬ qi true.toNat = 0 from ne1)]
  have hok : swO U A k := hO.mpr ⟨o1, o3, o4, o2⟩
  by_cases hlt : m < swG U A k
  · rw [if_neg (fun h => by
      have h' := (lg_cmp_le _ _).mp h
      have := (qZ_le (a := swG U A k) (b := m) (by omega) (by omega) (by omega) (by omega)).mp h'
      omega)]
    have j0 : inB 0 5 := q_inP (a := 0) (by omega) (by omega)
    have j1 : inB 1 5 := q_inP (a := 1) (by omega) (by omega)
    have j2 : inB 2 5 := q_inP (a := 2) (by omega) (by omega)
    have j3 : inB 3 5 := q_inP (a := 3) (by omega) (by omega)
    have j4 : inB 4 5 := q_inP (a := 4) (by omega) (by omega)
    rw [if_pos j0, if_pos j1, if_pos j2, if_pos j3, if_pos j4]
    have s0 : (0 : Int32).toNatClampNeg = 0 := rfl
    have s1 : (1 : Int32).toNatClampNeg = 1 := rfl
    have s2 : (2 : Int32).toNatClampNeg = 2 := rfl
    have s3 : (3 : Int32).toNatClampNeg = 3 := rfl
    have s4 : (4 : Int32).toNatClampNeg = 4 := rfl
    rw [s0, s1, s2, s3, s4, qZ_32]
    refine zW_some ⟨⟨some k, swG U A k, bs_yes h1 hok hlt, ?_, ?_⟩, fun p hp hpp => ?_, fun w hw => ?_⟩
    · dsimp only
      rw [zL_same]
    · dsimp only
      rw [d1, d2, d3, d4]
      simp (disch := omega) only [z_same, z_neP, z_neK, zL_same, zL_neP, zL_neK, zr_same, zr_ne]
      exact ⟨trivial, trivial, trivial, trivial, trivial⟩
    · have := h3 p hp hpp
      dsimp only
      simp (disch := omega) only [z_same, z_neP, z_neK, zL_same, zL_neP, zL_neK, zr_same, zr_ne]
      exact this
    · dsimp only
      simp (disch := omega) only [z_same, z_neP, z_neK, zL_same, zL_neP, zL_neK, zr_same, zr_ne]
      exact h4 w hw
  · rw [if_pos ((lg_cmp_le _ _).mpr ((qZ_le (a := swG U A k) (b := m) (by omega) (by omega) (by omega) (by omega)).mpr (by omega)))]
    exact zW_some ⟨⟨bk, m, bs_no h1 (by omega), h2⟩, h3, h4⟩
theorem swO_n {k : Nat} (h : ¬ swT U k) : ¬ swO U A k := fun g => h g.1
set_option maxHeartbeats 8000000 in
theorem cs_sbet {a c : Nat} {V1 : zI} {L1 : zL} (hac : a < c) (hc : c < U.1) (hb : baS N G q) (hU : UB U) (hA : SB U A) (h : swR V L q U A (216 * a + 36 * c) V1 L1) : zW (f_X0_seekBetween N G q (qi a) (qi c) (qi U.1) V1 L1) (fun r => swR V L q U A (216 * a + 36 * (c + 1)) r.1 r.2) := by
  have htw := UB_tw hU
  unfold f_X0_seekBetween g_X0_seekBetween
  refine zW_lp (I := fun r z => ∃ (d : Nat) (V2 : zI) (L2 : zL), d ≤ U.1 ∧ r = U.1 - d ∧ z = (qi a, qi c, qi U.1, qi d, V2, L2) ∧ swR V L q U A (216 * a + 36 * c + 6 * d) V2 L2) ?_ FU U.1 _ ⟨0, V1, L1, by omega, by omega, rfl, h⟩ (FU_big (by omega))
  rintro kk r z ⟨d, V2, L2, hd, rfl, rfl, h2⟩ ih
  by_cases hend : d = U.1
  · rw [hend] at h2
    simp (disch := omega) only [b_X0_seekBetween_3, hend, Nat.le_refl, ↓reduceIte, o_bind, and_true, true_and, and_false, false_and, or_true, true_or, or_false, false_or, not_true, not_false_eq_true, not_false_iff, ne_eq, Nat.reduceAdd, Nat.reduceMul, Nat.reduceSub, Nat.reduceDiv, Nat.reduceMod, Nat.reduceLT, Nat.reduceLeDiff, Nat.reduceEqDiff, Nat.not_lt, Nat.not_le, q_lit, q_leT]
    refine zW_some (swR_skip h2 (by omega) (fun k' g1 g2 => swO_n (fun hT => ?_)))
    obtain ⟨t1, t2, t3, t4, -⟩ := hT
    omega
  have hd6 : d < U.1 := by omega
  simp (disch := omega) only [b_X0_seekBetween_3, ↓reduceIte, o_bind, and_true, true_and, and_false, false_and, or_true, true_or, or_false, false_or, not_true, not_false_eq_true, not_false_iff, ne_eq, Nat.reduceAdd, Nat.reduceMul, Nat.reduceSub, Nat.reduceDiv, Nat.reduceMod, Nat.reduceLT, Nat.reduceLeDiff, Nat.reduceEqDiff, Nat.not_lt, Nat.not_le, q_lit, q_leF]
  refine zW_lp (I := fun r z => ∃ (e : Nat) (V3 : zI) (L3 : zL), e ≤ U.1 ∧ r = U.1 - e ∧ z = (qi a, qi c, qi U.1, qi d, qi e, V3, L3) ∧ swR V L q U A (216 * a + 36 * c + 6 * d + e) V3 L3) ?_ FU U.1 _ ⟨0, V2, L2, by omega, by omega, rfl, h2⟩ (FU_big (by omega))
  rintro k2 r z ⟨e, V3, L3, he, rfl, rfl, h3⟩ ih2
  by_cases hend2 : e = U.1
  · rw [hend2] at h3
    have hgo := ih (U.1 - (d + 1)) (qi a, qi c, qi U.1, qi (d + 1), V3, L3) (by omega) ⟨d + 1, V3, L3, by omega, rfl, rfl, swR_skip h3 (by omega) (fun k' g1 g2 => swO_n (fun hT => by
      obtain ⟨t1, t2, t3, t4, -⟩ := hT
      omega))⟩
    simp (disch := omega) only [b_X0_seekBetween_12, hend2, Nat.le_refl, ↓reduceIte, o_bind, and_true, true_and, and_false, false_and, or_true, true_or, or_false, false_or, not_true, not_false_eq_true, not_false_iff, ne_eq, Nat.reduceAdd, Nat.reduceMul, Nat.reduceSub, Nat.reduceDiv, Nat.reduceMod, Nat.reduceLT, Nat.reduceLeDiff, Nat.reduceEqDiff, Nat.not_lt, Nat.not_le, q_lit, q_leT, q_add]
    exact hgo
  have he6 : e < U.1 := by omega
  obtain ⟨d1, d2, d3, d4⟩ := k_dig (k := 216 * a + 36 * c + 6 * d + e) rfl (by omega) (by omega) (by omega) (by omega)
  have hskip : ¬ swT U (216 * a + 36 * c + 6 * d + e) → zW (k2 (qi a, qi c, qi U.1, qi d, qi (e + 1), V3, L3)) (fun r => swR V L q U A (216 * a + 36 * (c + 1)) r.1 r.2) := fun hn => ih2 (U.1 - (e + 1)) _ (by omega) ⟨e + 1, V3, L3, by omega, rfl, rfl, swR_skip h3 (by omega) (fun k' g1 g2 => by
    have ek : k' = 216 * a + 36 * c + 6 * d + e := by omega
    rw [ek]
    exact swO_n hn)⟩
  by_cases x1 : d = a
  · have g := hskip (fun hT => by
      obtain ⟨-, -, -, -, t5, -⟩ := hT
      rw [d1, d3] at t5
      exact t5 x1)
    simp (disch := omega) only [b_X0_seekBetween_12, f_X0_seekBetween_46, f_X0_seekBetween_47, x1, ↓reduceIte, o_bind, and_true, true_and, and_false, false_and, or_true, true_or, or_false, false_or, not_true, not_false_eq_true, not_false_iff, ne_eq, Nat.reduceAdd, Nat.reduceMul, Nat.reduceSub, Nat.reduceDiv, Nat.reduceMod, Nat.reduceLT, Nat.reduceLeDiff, Nat.reduceEqDiff, Nat.not_lt, Nat.not_le, q_lit, q_leF, q_leT, q_add] at g ⊢
    exact g
  by_cases x2 : d = c
  · have g := hskip (fun hT => by
      obtain ⟨-, -, -, -, -, t6, -⟩ := hT
      rw [d2, d3] at t6
      exact t6 x2)
    have x1' : ¬ c = a := by omega
    simp (disch := omega) only [b_X0_seekBetween_12, f_X0_seekBetween_46, f_X0_seekBetween_47, x2, ↓reduceIte, o_bind, and_true, true_and, and_false, false_and, or_true, true_or, or_false, false_or, not_true, not_false_eq_true, not_false_iff, ne_eq, Nat.reduceAdd, Nat.reduceMul, Nat.reduceSub, Nat.reduceDiv, Nat.reduceMod, Nat.reduceLT, Nat.reduceLeDiff, Nat.reduceEqDiff, Nat.not_lt, Nat.not_le, q_lit, q_leF, q_leT, q_add, q_eqF] at g ⊢
    exact g
  by_cases x3 : e = a
  · have g := hskip (fun hT => by
      obtain ⟨-, -, -, -, -, -, t7, -⟩ := hT
      rw [d1, d4] at t7
      exact t7 x3)
    simp (disch := omega) only [b_X0_seekBetween_12, f_X0_seekBetween_46, f_X0_seekBetween_47, x3, ↓reduceIte, o_bind, and_true, true_and, and_false, false_and, or_true, true_or, or_false, false_or, not_true, not_false_eq_true, not_false_iff, ne_eq, Nat.reduceAdd, Nat.reduceMul, Nat.reduceSub, Nat.reduceDiv, Nat.reduceMod, Nat.reduceLT, Nat.reduceLeDiff, Nat.reduceEqDiff, Nat.not_lt, Nat.not_le, q_lit, q_leF, q_leT, q_add, q_eqF] at g ⊢
    exact g
  by_cases x4 : e = c
  · have g := hskip (fun hT => by
      obtain ⟨-, -, -, -, -, -, -, t8, -⟩ := hT
      rw [d2, d4] at t8
      exact t8 x4)
    simp (disch := omega) only [b_X0_seekBetween_12, f_X0_seekBetween_46, f_X0_seekBetween_47, x4, ↓reduceIte, o_bind, and_true, true_and, and_false, false_and, or_true, true_or, or_false, false_or, not_true, not_false_eq_true, not_false_iff, ne_eq, Nat.reduceAdd, Nat.reduceMul, Nat.reduceSub, Nat.reduceDiv, Nat.reduceMod, Nat.reduceLT, Nat.reduceLeDiff, Nat.reduceEqDiff, Nat.not_lt, Nat.not_le, q_lit, q_leF, q_leT, q_add, q_eqF] at g ⊢
    exact g
  by_cases x5 : d = e
  · have g := hskip (fun hT => by
      obtain ⟨-, -, -, -, -, -, -, -, t9⟩ := hT
      rw [d3, d4] at t9
      exact t9 x5)
    simp (disch := omega) only [b_X0_seekBetween_12, f_X0_seekBetween_47, x5, ↓reduceIte, o_bind, and_true, true_and, and_false, false_and, or_true, true_or, or_false, false_or, not_true, not_false_eq_true, not_false_iff, ne_eq, Nat.reduceAdd, Nat.reduceMul, Nat.reduceSub, Nat.reduceDiv, Nat.reduceMod, Nat.reduceLT, Nat.reduceLeDiff, Nat.reduceEqDiff, Nat.not_lt, Nat.not_le, q_lit, q_leF, q_leT, q_add, q_eqF] at g ⊢
    exact g
  have hT : swT U (216 * a + 36 * c + 6 * d + e) := by
    unfold swT
    rw [d1, d2, d3, d4]
    exact ⟨hac, hc, hd6, he6, x1, x2, x3, x4, x5⟩
  simp (disch := omega) only [b_X0_seekBetween_12, f_X0_seekBetween_47, ↓reduceIte, o_bind, and_true, true_and, and_false, false_and, or_true, true_or, or_false, false_or, not_true, not_false_eq_true, not_false_iff, ne_eq, Nat.reduceAdd, Nat.reduceMul, Nat.reduceSub, Nat.reduceDiv, Nat.reduceMod, Nat.reduceLT, Nat.reduceLeDiff, Nat.reduceEqDiff, Nat.not_lt, Nat.not_le, q_lit, q_leF, q_leT, q_add, q_eqF]
  refine zW_call (cs_comp rfl (by omega) (by omega) (by omega) (by omega) hT hb hU hA h3) ?_
  rintro ⟨V4, L4⟩ h4
  dsimp only at h4 ⊢
  exact ih2 (U.1 - (e + 1)) _ (by omega) ⟨e + 1, V4, L4, by omega, rfl, rfl, h4⟩
set_option maxHeartbeats 8000000 in
theorem cs_sbest {V1 : zI} {L1 : zL} (hb : baS N G q) (hU : UB U) (hA : SB U A) (h : swR V L q U A 0 V1 L1) : zW (f_X0_seekBest N G q (qi U.1) V1 L1) (fun r => swR V L q U A 1296 r.1 r.2) := by
  have htw := UB_tw hU
  unfold f_X0_seekBest g_X0_seekBest
  refine zW_lp (I := fun r z => ∃ (a : Nat) (V2 : zI) (L2 : zL), a ≤ U.1 ∧ r = U.1 - a ∧ z = (qi U.1, qi a, V2, L2) ∧ swR V L q U A (216 * a) V2 L2) ?_ FU U.1 _ ⟨0, V1, L1, by omega, by omega, rfl, h⟩ (FU_big (by omega))
  rintro kk r z ⟨a, V2, L2, ha, rfl, rfl, h2⟩ ih
  by_cases hend : a = U.1
  · rw [hend] at h2
    simp (disch := omega) only [b_X0_seekBest_2, hend, Nat.le_refl, ↓reduceIte, o_bind, and_true, true_and, and_false, false_and, or_true, true_or, or_false, false_or, not_true, not_false_eq_true, not_false_iff, ne_eq, Nat.reduceAdd, Nat.reduceMul, Nat.reduceSub, Nat.reduceDiv, Nat.reduceMod, Nat.reduceLT, Nat.reduceLeDiff, Nat.reduceEqDiff, Nat.not_lt, Nat.not_le, q_lit, q_leT]
    refine zW_some (swR_skip h2 (by omega) (fun k' g1 g2 => swO_n (fun hT => ?_)))
    obtain ⟨t1, t2, t3, t4, -⟩ := hT
    omega
  simp (disch := omega) only [b_X0_seekBest_2, ↓reduceIte, o_bind, and_true, true_and, and_false, false_and, or_true, true_or, or_false, false_or, not_true, not_false_eq_true, not_false_iff, ne_eq, Nat.reduceAdd, Nat.reduceMul, Nat.reduceSub, Nat.reduceDiv, Nat.reduceMod, Nat.reduceLT, Nat.reduceLeDiff, Nat.reduceEqDiff, Nat.not_lt, Nat.not_le, q_lit, q_leF, q_add]
  refine zW_lp (I := fun r z => ∃ (c : Nat) (V3 : zI) (L3 : zL), a < c ∧ c ≤ U.1 ∧ r = U.1 - c ∧ z = (qi U.1, qi a, qi c, V3, L3) ∧ swR V L q U A (216 * a + 36 * c) V3 L3) ?_ FU (U.1 - (a + 1)) _ ⟨a + 1, V2, L2, by omega, by omega, rfl, rfl, swR_skip h2 (by omega) (fun k' g1 g2 => swO_n (fun hT => by
      obtain ⟨t1, t2, t3, t4, -⟩ := hT
      omega))⟩ (FU_big (by omega))
  rintro k2 r z ⟨c, V3, L3, hac, hc, rfl, rfl, h3⟩ ih2
  by_cases hend2 : c = U.1
  · rw [hend2] at h3
    have hgo := ih (U.1 - (a + 1)) (qi U.1, qi (a + 1), V3, L3) (by omega) ⟨a + 1, V3, L3, by omega, rfl, rfl, swR_skip h3 (by omega) (fun k' g1 g2 => swO_n (fun hT => by
      obtain ⟨t1, t2, t3, t4, -⟩ := hT
      omega))⟩
    simp (disch := omega) only [b_X0_seekBest_11, hend2, Nat.le_refl, ↓reduceIte, o_bind, and_true, true_and, and_false, false_and, or_true, true_or, or_false, false_or, not_true, not_false_eq_true, not_false_iff, ne_eq, Nat.reduceAdd, Nat.reduceMul, Nat.reduceSub, Nat.reduceDiv, Nat.reduceMod, Nat.reduceLT, Nat.reduceLeDiff, Nat.reduceEqDiff, Nat.not_lt, Nat.not_le, q_lit, q_leT, q_add]
    exact hgo
  simp (disch := omega) only [b_X0_seekBest_11, ↓reduceIte, o_bind, and_true, true_and, and_false, false_and, or_true, true_or, or_false, false_or, not_true, not_false_eq_true, not_false_iff, ne_eq, Nat.reduceAdd, Nat.reduceMul, Nat.reduceSub, Nat.reduceDiv, Nat.reduceMod, Nat.reduceLT, Nat.reduceLeDiff, Nat.reduceEqDiff, Nat.not_lt, Nat.not_le, q_lit, q_leF]
  refine zW_call (cs_sbet hac (by omega) hb hU hA h3) ?_
  rintro ⟨V4, L4⟩ h4
  dsimp only at h4 ⊢
  rw [show qi c + qi 1 = qi (c + 1) from q_add c 1]
  exact ih2 (U.1 - (c + 1)) _ (by omega) ⟨c + 1, V4, L4, by omega, by omega, rfl, rfl, h4⟩
end
