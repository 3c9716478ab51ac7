section
variable {t : Nat → Nat} {tl n : Nat} {V : zI} {L : zL} {K N : Nat → Nat} {G : zG}
theorem q_mxz (h : tl ≤ 1600) : (if (0 : Int32) < qi tl then qi tl else (0 : Int32)) = qi tl := by
  by_cases e : tl = 0
  · subst e; rfl
  · rw [if_pos (show (0 : Int32) < qi tl from (q_lt (a := 0) (by omega) (by omega)).mpr (by omega))]
def IN (t : Nat → Nat) (tl n : Nat) (K N : Nat → Nat) (G : zG) (V : zI) (r : zS) : Prop := ∃ c K' N' G' V' L' cc qq, r = (n + 10, cc, qq, K', N', G', V', L') ∧ (cc ≤ 10 ∧ qq ≤ 6600 ∧ c ≤ tl ∧ bgT t tl c = tl) ∧ (∀ x, x < n → K' x = K x ∧ N' x = N x ∧ G' x = G x ∧ V' x = V x) ∧ CV N' G' n (n + 5) (n + 6) (n + 7) (n + 8) (n + 9) (c + 1) tl ∧ (unS N' G' (n + 1) ∧ G' n 5 = some (n + 1)) ∧ TV V' (n + 5) (n + 6) (n + 7) (n + 8) (c + 1) (tkP t tl) ∧ CS n (n + 9) V' (tkP t tl) (c + 1) 0 [] 0 V' ∧ (V' (n + 1) 0 = qi 0 ∧ V' (n + 1) 1 = qi 0 ∧ V' (n + 1) 2 = qi 0 ∧ V' (n + 1) 3 = qi 1 ∧ V' (n + 1) 4 = qi 0) ∧ (∀ k, V' (n + 3) k = qi 0 ∧ V' (n + 4) k = qi 0) ∧ ∀ r, r < 3 → G' (n + 1) (8 + r) = none
set_option maxHeartbeats 4000000 in
theorem k_init2 {cA qA : Nat} (hn : 28 ≤ n) (htl : tl ≤ 1600) (hN1 : N 1 = 1600) (hoc : ∀ j, j < tl → t j < 256) (ht : ∀ j, j < tl → V 1 j &&& 255 = qi (t j)) (hg : AG (n + 5) tl N G) (hG : G n 0 = some (n + 5) ∧ G n 5 = some (n + 1)) (hu : unS N G (n + 1)) (hno : ∀ r, r < 3 → G (n + 1) (8 + r) = none) (v53 : V (n + 5) 3 = qi 0) (vn : V n 1 = qm ∧ V n 7 = qi 0 ∧ V n 8 = qi 0 ∧ V n 10 = qi 0 ∧ V n 11 = qm) (vu : V (n + 1) 0 = qi 0 ∧ V (n + 1) 1 = qi 0 ∧ V (n + 1) 2 = qi 0 ∧ V (n + 1) 3 = qi 1 ∧ V (n + 1) 4 = qi 0) (vr : ∀ k, V (n + 3) k = qi 0 ∧ V (n + 4) k = qi 0) (hcA : cA ≤ 9) (hqA : qA ≤ 4950) : zW ((f_X8_split (n + 5) 1 (qi tl) (n + 9) K N G V L).bind fun r2 => f_X5_init_81 n (qi tl) r2.1 (cA + r2.2.1) (qA + r2.2.2.1) r2.2.2.2.1 r2.2.2.2.2.1 r2.2.2.2.2.2.1 r2.2.2.2.2.2.2.1 r2.2.2.2.2.2.2.2) (IN t tl n K N G V) := by
  refine zW_call (k_split (t := t) (by omega) hg hN1 hoc ht v53) ?_
  rintro r ⟨V1, c, rfl, hct, hc, hTV, hAF⟩
  dsimp only
  have vx : ∀ x, x < n + 5 → V1 x = V x := fun x hx => hAF.1 x (by omega) (by omega) (by omega) (by omega)
  unfold f_X5_init_81
  simp only [q_mxz htl]
  rw [if_pos (show ¬ qi tl < 0 ∧ (qi tl).toNatClampNeg ≤ 100000 from ⟨q_neg (by omega), by rw [q_nn (by omega)]; omega⟩), q_nn (by omega)]
  unfold f_X5_init_89
  obtain ⟨⟨g0, g1, g2⟩, n0, n1, n2, -⟩ := hg
  obtain ⟨t3, tj⟩ := hTV
  obtain ⟨j1, j2, j3⟩ := tj 0 (by omega)
  obtain ⟨G2, hG2⟩ : ∃ G2, G2 = gS (kU G (n + 9) zn0) n 6 (some (n + 9)) := ⟨_, rfl⟩
  obtain ⟨V2, hV2⟩ : ∃ V2 : zI, V2 = kU V1 (n + 9) (fun _ => 0) := ⟨_, rfl⟩
  obtain ⟨N2, hN2⟩ : ∃ N2, N2 = kU N (n + 9) tl := ⟨_, rfl⟩
  rw [← hG2, ← hV2, ← hN2]
  have gx : ∀ x j, x ≠ n + 9 → (x ≠ n ∨ j ≠ 6) → G2 x j = G x j := fun x j h1 h2 => by
    rw [hG2]
    by_cases e : x = n
    · subst e
      rw [gS_neK (by omega), kU_ne h1]
    · rw [gS_neP e, kU_ne h1]
  have g6 : G2 n 6 = some (n + 9) := by rw [hG2, gS_same]
  have v2x : ∀ x, x ≠ n + 9 → V2 x = V1 x := fun x hx => by rw [hV2, kU_ne hx]
  have n2x : ∀ x, x ≠ n + 9 → N2 x = N x := fun x hx => by rw [hN2, kU_ne hx]
  have n29 : N2 (n + 9) = tl := by rw [hN2, kU_same]
  unfold f_X5_take
  rw [gx n 0 (by omega) (by omega), hG.1, o_bind, gx _ 0 (by omega) (by omega), g0, o_bind, gx _ 1 (by omega) (by omega), g1, o_bind, gx _ 2 (by omega) (by omega), g2, o_bind]
  have w10 : V2 n 10 = qi 0 := by rw [v2x n (by omega), vx n (by omega)]; exact vn.2.2.2.1
  have w1 : V2 n 1 = qm := by rw [v2x n (by omega), vx n (by omega)]; exact vn.1
  have w53 : V2 (n + 5) 3 = qi (c + 1) := by rw [v2x _ (by omega)]; exact t3
  have wa0 : V2 (n + 5 + 1) 0 = qi (tkP t tl 0).1 := by rw [v2x _ (by omega)]; exact j1
  have wa1 : V2 (n + 5 + 2) 0 = qi (tkP t tl 0).2.1 := by rw [v2x _ (by omega)]; exact j2
  have wa2 : V2 (n + 5 + 3) 0 = qi (tkP t tl 0).2.2 := by rw [v2x _ (by omega)]; exact j3
  have ez : qm + qi 1 = qi 0 := rfl
  have nn0 : N2 (n + 5 + 1) = tl + 1 := by rw [n2x _ (by omega)]; exact n0
  have nn1 : N2 (n + 5 + 2) = tl + 1 := by rw [n2x _ (by omega)]; exact n1
  have nn2 : N2 (n + 5 + 3) = tl + 1 := by rw [n2x _ (by omega)]; exact n2
  simp (disch := omega) only [g_X5_take, w10, w1, w53, wa0, wa1, wa2, nn0, nn1, nn2, ez, Nat.add_sub_cancel, ↓reduceIte, o_bind, and_true, true_and, and_false, false_and, or_true, true_or, or_false, false_or, not_true, not_false_eq_true, not_false_iff, ne_eq, Nat.reduceAdd, Nat.reduceMul, Nat.reduceSub, Nat.reduceDiv, Nat.reduceMod, Nat.reduceLT, Nat.reduceLeDiff, Nat.reduceEqDiff, Nat.not_lt, Nat.not_le, q_lit, ↓q_m1, q_om, q_on, q_add, q_mul, q_sub, q_div, q_md, q_ltT, q_ltF, q_leT, q_leF, q_eqT, q_eqF, q_inT, q_inF, q_nn, q_mlt, q_ltm, q_mle, q_lem, q_nem, q_mne, z_same, z_neP, z_neK, zL_same, zL_neP, zL_neK, zr_same, zr_ne]
  obtain ⟨V3, hV3⟩ : ∃ V3, V3 = z_uI (z_uI (z_uI (z_uI V2 n 1 (qi 0)) n 2 (qi (tkP t tl 0).1)) n 3 (qi (tkP t tl 0).2.1)) n 4 (qi (tkP t tl 0).2.2) := ⟨_, rfl⟩
  rw [← hV3]
  have v3x : ∀ x, x ≠ n → V3 x = V2 x := fun x hx => by rw [hV3, z_neP hx, z_neP hx, z_neP hx, z_neP hx]
  have v3j : ∀ j, j ≠ 1 → j ≠ 2 → j ≠ 3 → j ≠ 4 → V3 n j = V n j := fun j h1 h2 h3 h4 => by rw [hV3, z_neK h4, z_neK h3, z_neK h2, z_neK h1, v2x n (by omega), vx n (by omega)]
  refine zW_some ⟨c, _, _, _, _, _, _, _, rfl, ⟨by omega, by omega, hct, hc⟩, fun x hx => ⟨kU_ne (by omega), n2x x (by omega), by funext j; exact gx x j (by omega) (by omega), by rw [v3x x (by omega), v2x x (by omega), vx x (by omega)]⟩, ⟨⟨?_, ?_, ?_, ?_, g6⟩, ⟨?_, ?_, ?_, n29⟩, by omega, htl, by omega⟩, ⟨⟨hu.1, ⟨?_, ?_, ?_⟩, ?_, ?_, ?_⟩, ?_⟩, ⟨?_, fun j hj => ?_⟩, ⟨CF_r, by omega, ⟨?_, ?_, ?_, ?_⟩, ⟨?_, ?_, ?_, ?_⟩, fun j hj => absurd hj (Nat.not_lt_zero _)⟩, ?_, fun k => ?_, fun r hr => ?_⟩
  · rw [gx n 0 (by omega) (by omega)]; exact hG.1
  · rw [gx _ 0 (by omega) (by omega)]; exact g0
  · rw [gx _ 1 (by omega) (by omega)]; exact g1
  · rw [gx _ 2 (by omega) (by omega)]; exact g2
  · show c + 1 ≤ N2 (n + 5 + 1); omega
  · show c + 1 ≤ N2 (n + 5 + 2); omega
  · show c + 1 ≤ N2 (n + 5 + 3); omega
  · rw [gx _ _ (by omega) (by omega)]; exact hu.2.1.1
  · rw [gx _ _ (by omega) (by omega)]; exact hu.2.1.2.1
  · rw [gx _ _ (by omega) (by omega)]; exact hu.2.1.2.2
  · rw [n2x _ (by omega)]; exact hu.2.2.1
  · rw [n2x _ (by omega)]; exact hu.2.2.2.1
  · rw [n2x _ (by omega)]; exact hu.2.2.2.2
  · rw [gx _ _ (by omega) (by omega)]; exact hG.2
  · rw [v3x _ (by omega), v2x _ (by omega)]; exact t3
  · rw [v3x _ (by omega), v2x _ (by omega), v3x _ (by omega), v2x _ (by omega), v3x _ (by omega), v2x _ (by omega)]; exact tj j hj
  · rw [hV3, z_neK (by omega), z_neK (by omega), z_neK (by omega), z_same]
  · rw [hV3, z_neK (by omega), z_neK (by omega), z_same]
  · rw [hV3, z_neK (by omega), z_same]
  · rw [hV3, z_same]
  · rw [v3j 7 (by omega) (by omega) (by omega) (by omega)]; exact vn.2.1
  · rw [v3j 8 (by omega) (by omega) (by omega) (by omega)]; exact vn.2.2.1
  · rw [v3j 10 (by omega) (by omega) (by omega) (by omega)]; exact vn.2.2.2.1
  · rw [v3j 11 (by omega) (by omega) (by omega) (by omega)]; exact vn.2.2.2.2
  · rw [v3x _ (by omega), v2x _ (by omega), vx _ (by omega)]; exact vu
  · rw [v3x _ (by omega), v2x _ (by omega), vx _ (by omega), v3x _ (by omega), v2x _ (by omega), vx _ (by omega)]; exact vr k
  · rw [gx _ _ (by omega) (by omega)]; exact hno r hr
set_option maxHeartbeats 8000000 in
theorem k_init (hn : 28 ≤ n) (hK : K n = 4) (htl : tl ≤ 1600) (hN1 : N 1 = 1600) (hoc : ∀ j, j < tl → t j < 256) (ht : ∀ j, j < tl → V 1 j &&& 255 = qi (t j)) : zW (f_X5_init n 1 (qi tl) (n + 1) K N G V L) (IN t tl n K N G V) := by
  have e1 : (qi tl + 1 : Int32) = qi (tl + 1) := by rw [show (1 : Int32) = qi 1 from rfl, q_add]
  unfold f_X5_init g_X5_init f_X5_init_28 f_X9_init g_X9_init
  rw [if_pos (by decide)]
  unfold f_X9_init_34
  rw [if_pos (by decide)]
  unfold f_X9_init_42
  rw [if_pos (by decide)]
  unfold f_X9_init_50
  rw [o_bind]
  unfold f_X5_init_32 f_X5_init_64 f_X8_init g_X8_init
  simp only [q_mxz htl, e1]
  rw [if_pos (show ¬ qi (tl + 1) < 0 ∧ (qi (tl + 1)).toNatClampNeg ≤ 100000 from ⟨q_neg (by omega), by rw [q_nn (by omega)]; omega⟩)]
  unfold f_X8_init_21
  rw [if_pos (show ¬ qi (tl + 1) < 0 ∧ (qi (tl + 1)).toNatClampNeg ≤ 100000 from ⟨q_neg (by omega), by rw [q_nn (by omega)]; omega⟩)]
  unfold f_X8_init_28
  rw [if_pos (show ¬ qi (tl + 1) < 0 ∧ (qi (tl + 1)).toNatClampNeg ≤ 100000 from ⟨q_neg (by omega), by rw [q_nn (by omega)]; omega⟩)]
  unfold f_X8_init_35
  rw [o_bind]
  unfold f_X5_init_69
  rw [gS_same, o_bind, q_nn (by omega)]
  simp only [Nat.add_assoc, Nat.reduceAdd, Nat.zero_add, show (6 : Int32).toNatClampNeg = 6 from rfl, show (36 : Int32).toNatClampNeg = 36 from rfl]
  have eq : ∀ x, 93 + (tl + (1 + (tl + (1 + (tl + (1 + x)))))) = (96 + 3 * tl) + x := fun x => by omega
  simp only [eq]
  refine zW_mono (k_init2 (t := t) (cA := 8) (qA := 96 + 3 * tl) hn htl ?_ hoc (fun j hj => ?_) ⟨⟨?_, ?_, ?_⟩, ?_, ?_, ?_, htl⟩ ⟨?_, ?_⟩ ⟨Or.inr (by omega), ⟨?_, ?_, ?_⟩, ?_, ?_, ?_⟩ (fun r hr => ?_) ?_ ⟨?_, ?_, ?_, ?_, ?_⟩ ⟨?_, ?_, ?_, ?_, ?_⟩ (fun k => ⟨?_, ?_⟩) ?_ ?_) ?_
  · simp (disch := omega) only [kU_same, kU_ne, gS_same, gS_neP, gS_neK]; exact hN1
  · simp (disch := omega) only [kU_same, kU_ne, gS_same, gS_neP, gS_neK, z_same, z_neP, z_neK, zL_same, zL_neP, zL_neK, zr_same, zr_ne]; exact ht j hj
  · simp (disch := omega) only [kU_same, kU_ne, gS_same, gS_neP, gS_neK]
  · simp (disch := omega) only [kU_same, kU_ne, gS_same, gS_neP, gS_neK]
  · simp (disch := omega) only [kU_same, kU_ne, gS_same, gS_neP, gS_neK]
  · simp (disch := omega) only [kU_same, kU_ne, gS_same, gS_neP, gS_neK]
  · simp (disch := omega) only [kU_same, kU_ne, gS_same, gS_neP, gS_neK]
  · simp (disch := omega) only [kU_same, kU_ne, gS_same, gS_neP, gS_neK]
  · simp (disch := omega) only [kU_same, kU_ne, gS_same, gS_neP, gS_neK]
  · simp (disch := omega) only [kU_same, kU_ne, gS_same, gS_neP, gS_neK]
  · simp (disch := omega) only [kU_same, kU_ne, gS_same, gS_neP, gS_neK]
  · simp (disch := omega) only [kU_same, kU_ne, gS_same, gS_neP, gS_neK]
  · simp (disch := omega) only [kU_same, kU_ne, gS_same, gS_neP, gS_neK]
  · simp (disch := omega) only [kU_same, kU_ne, gS_same, gS_neP, gS_neK]
  · simp (disch := omega) only [kU_same, kU_ne, gS_same, gS_neP, gS_neK]
  · simp (disch := omega) only [kU_same, kU_ne, gS_same, gS_neP, gS_neK]
  · have hr3 : r = 0 ∨ r = 1 ∨ r = 2 := by omega
    rcases hr3 with rfl | rfl | rfl
    · simp (disch := omega) only [kU_same, kU_ne, gS_same, gS_neP, gS_neK, Nat.add_zero, Nat.reduceAdd]
    · simp (disch := omega) only [kU_same, kU_ne, gS_same, gS_neP, gS_neK, Nat.add_zero, Nat.reduceAdd]
    · simp (disch := omega) only [kU_same, kU_ne, gS_same, gS_neP, gS_neK, Nat.add_zero, Nat.reduceAdd]
  · simp (disch := omega) only [kU_same, kU_ne, gS_same, gS_neP, gS_neK, z_same, z_neP, z_neK, zL_same, zL_neP, zL_neK, zr_same, zr_ne]; rfl
  · simp (disch := omega) only [kU_same, kU_ne, gS_same, gS_neP, gS_neK, z_same, z_neP, z_neK, zL_same, zL_neP, zL_neK, zr_same, zr_ne]; rfl
  · simp (disch := omega) only [kU_same, kU_ne, gS_same, gS_neP, gS_neK, z_same, z_neP, z_neK, zL_same, zL_neP, zL_neK, zr_same, zr_ne]; rfl
  · simp (disch := omega) only [kU_same, kU_ne, gS_same, gS_neP, gS_neK, z_same, z_neP, z_neK, zL_same, zL_neP, zL_neK, zr_same, zr_ne]; rfl
  · simp (disch := omega) only [kU_same, kU_ne, gS_same, gS_neP, gS_neK, z_same, z_neP, z_neK, zL_same, zL_neP, zL_neK, zr_same, zr_ne]; rfl
  · simp (disch := omega) only [kU_same, kU_ne, gS_same, gS_neP, gS_neK, z_same, z_neP, z_neK, zL_same, zL_neP, zL_neK, zr_same, zr_ne]; rfl
  · simp (disch := omega) only [kU_same, kU_ne, gS_same, gS_neP, gS_neK, z_same, z_neP, z_neK, zL_same, zL_neP, zL_neK, zr_same, zr_ne]; rfl
  · simp (disch := omega) only [kU_same, kU_ne, gS_same, gS_neP, gS_neK, z_same, z_neP, z_neK, zL_same, zL_neP, zL_neK, zr_same, zr_ne]; rfl
  · simp (disch := omega) only [kU_same, kU_ne, gS_same, gS_neP, gS_neK, z_same, z_neP, z_neK, zL_same, zL_neP, zL_neK, zr_same, zr_ne]; rfl
  · simp (disch := omega) only [kU_same, kU_ne, gS_same, gS_neP, gS_neK, z_same, z_neP, z_neK, zL_same, zL_neP, zL_neK, zr_same, zr_ne]; rfl
  · simp (disch := omega) only [kU_same, kU_ne, gS_same, gS_neP, gS_neK, z_same, z_neP, z_neK, zL_same, zL_neP, zL_neK, zr_same, zr_ne]; rfl
  · simp (disch := omega) only [kU_same, kU_ne, gS_same, gS_neP, gS_neK, z_same, z_neP, z_neK, zL_same, zL_neP, zL_neK, zr_same, zr_ne]; rfl
  · simp (disch := omega) only [kU_same, kU_ne, gS_same, gS_neP, gS_neK, z_same, z_neP, z_neK, zL_same, zL_neP, zL_neK, zr_same, zr_ne]; rfl
  · omega
  · omega
  · rintro r ⟨c, K', N', G', V', L', cc, qq, h1, h2, h3, h4⟩
    refine ⟨c, K', N', G', V', L', cc, qq, h1, h2, fun x hx => ?_, h4⟩
    obtain ⟨a1, a2, a3, a4⟩ := h3 x hx
    rw [a1, a2, a3, a4]
    refine ⟨?_, ?_, ?_, ?_⟩
    · simp (disch := omega) only [kU_same, kU_ne, gS_same, gS_neP, gS_neK]
    · simp (disch := omega) only [kU_same, kU_ne, gS_same, gS_neP, gS_neK]
    · simp (disch := omega) only [kU_same, kU_ne, gS_same, gS_neP, gS_neK]
    · simp (disch := omega) only [kU_same, kU_ne, gS_same, gS_neP, gS_neK, z_same, z_neP, z_neK, zL_same, zL_neP, zL_neK, zr_same, zr_ne]
end
