section
/-! A day, step by step. -/
def nu (f : Nat → Nat) (k v : Nat) : Nat → Nat := fun j => if j = k then v else f j
def keepS (A : aS) (c : Nat) : aS := match A with
  | (day, held, sent, got, m, mp, ml, kn, kc) => (day, held, sent, got, m, mp, ml, if kn = 50 then 50 else kn + 1, if kn = 50 then nu (fun j => kc (j + 1)) 49 c else nu kc kn c)
/-- a letter of the pair p comes with e stamps, or (l = 1) is lost -/
def delS (A : aS) (p e l : Nat) : aS := match A with
  | (day, held, sent, got, m, mp, ml, kn, kc) => if l = 1 then keepS A ((day * 36 + p) * 2 + l) else keepS (day, nu held (p % 6 * 6 + p / 6) (if held (p % 6 * 6 + p / 6) + e < 99 then held (p % 6 * 6 + p / 6) + e else 99), sent, nu got (p % 6 * 6 + p / 6) (if got (p % 6 * 6 + p / 6) + 1 < 99 then got (p % 6 * 6 + p / 6) + 1 else 99), m, mp, ml, kn, kc) ((day * 36 + p) * 2 + l)
/-- the pair p is written to, the way d days -/
def posS (A : aS) (p d : Nat) : aS := match A with
  | (day, held, sent, got, m, mp, ml, kn, kc) => (day, nu held p (held p - 1), nu sent p (if sent p + 1 < 99 then sent p + 1 else 99), got, m + 1, nu mp m p, nu ml m d, kn, kc)
set_option maxHeartbeats 4000000 in
theorem c_keep {N : Nat → Nat} {G : zG} {V : zI} {L : zL} {s p l : Nat} {A : aS} (hs : stS N G s) (hS : SC V s A) (hd : A.1 ≤ 999) (hk : A.2.2.2.2.2.2.2.1 ≤ 50) (hp : p < 36) (hl : l < 2) : zW (f_X7_keep N G s (qi p) (qi l) V L) (fun r => r.2 = L ∧ SC r.1 s (keepS A ((A.1 * 36 + p) * 2 + l)) ∧ (∀ w, w ≠ s → w ≠ s + 6 → r.1 w = V w) ∧ ∀ j, j ≠ 7 → r.1 s j = V s j) := by
  obtain ⟨day, held, sent, got, m, mp, ml, kn, kc⟩ := A
  obtain ⟨⟨h0, h4, h7⟩, s1, s2, s3, s4, s5, s6⟩ := hS
  obtain ⟨⟨-, -, -, -, -, g8⟩, -, -, -, -, -, n6⟩ := hs
  dsimp only at hd hk
  have fin : ∀ (V1 : zI) (kn1 : Nat) (kc1 : Nat → Nat), kn1 < 50 → V1 s 7 = qi kn1 → (∀ k, k < kn1 → V1 (s + 6) k = qi (kc1 k)) → (∀ w, w ≠ s → w ≠ s + 6 → V1 w = V w) → (∀ j, j ≠ 7 → V1 s j = V s j) → zW (f_X7_keep_34 N G s (s + 6) (qi p) (qi l) V1 L) (fun r => r.2 = L ∧ SC r.1 s (day, held, sent, got, m, mp, ml, kn1 + 1, nu kc1 kn1 ((day * 36 + p) * 2 + l)) ∧ (∀ w, w ≠ s → w ≠ s + 6 → r.1 w = V w) ∧ ∀ j, j ≠ 7 → r.1 s j = V s j) := by
    intro V1 kn1 kc1 hk1 e7 e6 ew ej
    have e0 : V1 s 0 = qi day := by rw [ej 0 (by omega)]; exact h0
    have e4 : V1 s 4 = qi m := by rw [ej 4 (by omega)]; exact h4
    have key : f_X7_keep_34 N G s (s + 6) (qi p) (qi l) V1 L = some (z_uI (z_uI V1 (s + 6) kn1 (qi ((day * 36 + p) * 2 + l))) s 7 (qi (kn1 + 1)), L) := by
      unfold f_X7_keep_34 f_X7_keep_62
      rcases (by omega : l = 0 ∨ l = 1) with rfl | rfl
      · simp (disch := omega) only [e7, e0, n6, ↓reduceIte, o_bind, and_true, true_and, and_false, false_and, or_true, true_or, or_false, false_or, not_true, not_false_eq_true, not_false_iff, ne_eq, Nat.reduceAdd, Nat.reduceMul, Nat.reduceSub, Nat.reduceDiv, Nat.reduceMod, Nat.reduceLT, Nat.reduceLeDiff, Nat.reduceEqDiff, Nat.not_lt, Nat.not_le, q_lit, ↓q_m1, q_om, q_on, q_add, q_mul, q_sub, q_div, q_md, q_ltT, q_ltF, q_leT, q_leF, q_eqT, q_eqF, q_inT, q_inF, q_nn, q_mlt, q_ltm, q_mle, q_lem, q_nem, q_mne, z_same, z_neP, z_neK, zL_same, zL_neP, zL_neK, zr_same, zr_ne]
      · simp (disch := omega) only [e7, e0, n6, ↓reduceIte, o_bind, and_true, true_and, and_false, false_and, or_true, true_or, or_false, false_or, not_true, not_false_eq_true, not_false_iff, ne_eq, Nat.reduceAdd, Nat.reduceMul, Nat.reduceSub, Nat.reduceDiv, Nat.reduceMod, Nat.reduceLT, Nat.reduceLeDiff, Nat.reduceEqDiff, Nat.not_lt, Nat.not_le, q_lit, ↓q_m1, q_om, q_on, q_add, q_mul, q_sub, q_div, q_md, q_ltT, q_ltF, q_leT, q_leF, q_eqT, q_eqF, q_inT, q_inF, q_nn, q_mlt, q_ltm, q_mle, q_lem, q_nem, q_mne, z_same, z_neP, z_neK, zL_same, zL_neP, zL_neK, zr_same, zr_ne]
    refine zW_eq key ⟨rfl, ?_, fun w h1 h2 => by simp (disch := omega) only [z_neP]; exact ew w h1 h2, fun j hj => by simp (disch := omega) only [z_neK, z_neP]; exact ej j hj⟩
    refine ⟨⟨?_, ?_, ?_⟩, ?_, ?_, ?_, ?_, ?_, ?_⟩
    · simp (disch := omega) only [z_same, z_neP, z_neK, zL_same, zL_neP, zL_neK, zr_same, zr_ne, e0]
    · simp (disch := omega) only [z_same, z_neP, z_neK, zL_same, zL_neP, zL_neK, zr_same, zr_ne, e4]
    · simp (disch := omega) only [z_same, z_neP, z_neK, zL_same, zL_neP, zL_neK, zr_same, zr_ne]
    · intro k hk; simp (disch := omega) only [z_same, z_neP, z_neK, zL_same, zL_neP, zL_neK, zr_same, zr_ne, ew]; exact s1 k hk
    · intro k hk; simp (disch := omega) only [z_same, z_neP, z_neK, zL_same, zL_neP, zL_neK, zr_same, zr_ne, ew]; exact s2 k hk
    · intro k hk; simp (disch := omega) only [z_same, z_neP, z_neK, zL_same, zL_neP, zL_neK, zr_same, zr_ne, ew]; exact s3 k hk
    · intro k hk; simp (disch := omega) only [z_same, z_neP, z_neK, zL_same, zL_neP, zL_neK, zr_same, zr_ne, ew]; exact s4 k hk
    · intro k hk; simp (disch := omega) only [z_same, z_neP, z_neK, zL_same, zL_neP, zL_neK, zr_same, zr_ne, ew]; exact s5 k hk
    · intro k hk
      simp (disch := omega) only [z_neP, z_if, nu]
      split
      · rfl
      · exact e6 k (by omega)
  unfold f_X7_keep g_X7_keep
  rw [g8]
  by_cases h50 : kn = 50
  · have f2 := fin (z_uI (z_row V (s + 6) (va_cpy (V (s + 6)) (V (s + 6)) 1 0 49)) s 7 (qi 49)) 49 (fun j => kc (j + 1)) (by omega) z_same (fun k hk => by
      simp (disch := omega) only [z_neP, zr_same, va_cpy, Nat.zero_le, true_and, Nat.zero_add, hk, ↓reduceIte, Nat.sub_zero, Nat.add_comm 1 k]
      exact s6 (k + 1) (by omega)) (fun w h1 h2 => by simp (disch := omega) only [z_neP, zr_ne]) (fun j hj => by simp (disch := omega) only [z_neK, zr_ne])
    simp (disch := omega) only [h7, h50, n6, ↓reduceIte, o_bind, and_true, true_and, and_false, false_and, or_true, true_or, or_false, false_or, not_true, not_false_eq_true, not_false_iff, ne_eq, Nat.reduceAdd, Nat.reduceMul, Nat.reduceSub, Nat.reduceDiv, Nat.reduceMod, Nat.reduceLT, Nat.reduceLeDiff, Nat.reduceEqDiff, Nat.not_lt, Nat.not_le, q_lit, ↓q_m1, q_om, q_on, q_add, q_mul, q_sub, q_div, q_md, q_ltT, q_ltF, q_leT, q_leF, q_eqT, q_eqF, q_inT, q_inF, q_nn, q_mlt, q_ltm, q_mle, q_lem, q_nem, q_mne, z_same, z_neP, z_neK, zL_same, zL_neP, zL_neK, zr_same, zr_ne, Nat.zero_add]
    simp only [keepS, h50, ↓reduceIte]
    exact f2
  · have f2 := fin V kn kc (by omega) h7 s6 (fun _ _ _ => rfl) (fun _ _ => rfl)
    simp (disch := omega) only [h7, h50, n6, ↓reduceIte, o_bind, and_true, true_and, and_false, false_and, or_true, true_or, or_false, false_or, not_true, not_false_eq_true, not_false_iff, ne_eq, Nat.reduceAdd, Nat.reduceMul, Nat.reduceSub, Nat.reduceDiv, Nat.reduceMod, Nat.reduceLT, Nat.reduceLeDiff, Nat.reduceEqDiff, Nat.not_lt, Nat.not_le, q_lit, ↓q_m1, q_om, q_on, q_add, q_mul, q_sub, q_div, q_md, q_ltT, q_ltF, q_leT, q_leF, q_eqT, q_eqF, q_inT, q_inF, q_nn, q_mlt, q_ltm, q_mle, q_lem, q_nem, q_mne, z_same, z_neP, z_neK, zL_same, zL_neP, zL_neK, zr_same, zr_ne]
    simp only [keepS, h50, ↓reduceIte]
    exact f2
theorem SC_z {V : zI} {s j : Nat} {x : Int32} {A : aS} (h : SC V s A) (h0 : j ≠ 0) (h4 : j ≠ 4) (h7 : j ≠ 7) : SC (z_uI V s j x) s A := by
  obtain ⟨day, held, sent, got, m, mp, ml, kn, kc⟩ := A
  obtain ⟨⟨a0, a4, a7⟩, s1, s2, s3, s4, s5, s6⟩ := h
  refine ⟨⟨?_, ?_, ?_⟩, ?_, ?_, ?_, ?_, ?_, ?_⟩
  · simp (disch := omega) only [z_neK]; exact a0
  · simp (disch := omega) only [z_neK]; exact a4
  · simp (disch := omega) only [z_neK]; exact a7
  · intro k hk; simp (disch := omega) only [z_neP]; exact s1 k hk
  · intro k hk; simp (disch := omega) only [z_neP]; exact s2 k hk
  · intro k hk; simp (disch := omega) only [z_neP]; exact s3 k hk
  · intro k hk; simp (disch := omega) only [z_neP]; exact s4 k hk
  · intro k hk; simp (disch := omega) only [z_neP]; exact s5 k hk
  · intro k hk; simp (disch := omega) only [z_neP]; exact s6 k hk
/-- the bit of a pair -/
def bit6 (p : Nat) : Int64 := (1 : Int64) <<< ((qi p).toInt64 &&& 63)
set_option maxHeartbeats 4000000 in
theorem c_deliver {N : Nat → Nat} {G : zG} {V : zI} {L : zL} {s p e l cm ls : Nat} {A : aS} (hs : stS N G s) (hS : SC V s A) (hd : A.1 ≤ 999) (hk : A.2.2.2.2.2.2.2.1 ≤ 50) (hh : ∀ k, k < 36 → A.2.1 k ≤ 99) (hg : ∀ k, k < 36 → A.2.2.2.1 k ≤ 99) (hp : p < 36) (he : e ≤ 3) (hl : l < 2) (h10 : V s 10 = qi cm) (h11 : V s 11 = qi ls) : zW (f_X7_deliver N G s (qi p) (qi e) (qi l) V L) (fun r => SC r.1 s (delS A p e l) ∧ r.1 s 10 = qi (if l = 1 then cm else cm + 1) ∧ r.1 s 11 = qi (if l = 1 then ls + 1 else ls) ∧ r.2 s 9 = (if l = 1 then L s 9 else L s 9 ||| bit6 p) ∧ (∀ w, (w < s ∨ s + 7 ≤ w) → r.1 w = V w) ∧ ∀ w, w ≠ s → r.2 w = L w) := by
  have hkp := c_keep (L := L) hs hS hd hk hp hl
  obtain ⟨day, held, sent, got, m, mp, ml, kn, kc⟩ := A
  obtain ⟨⟨g1, g2, g3, g5, g6, g8⟩, n1, n2, n3, n4, n5, n6⟩ := id hs
  dsimp only at hd hk hh hg hkp
  have hb : p % 6 * 6 + p / 6 < 36 := by omega
  have hhb := hh _ hb
  have hgb := hg _ hb
  unfold f_X7_deliver g_X7_deliver
  simp only [g1, g3, o_bind]
  refine zW_call hkp ?_
  rintro ⟨V1, L1⟩ ⟨hL, hS1, hw, hj⟩
  dsimp only at hL hS1 hw hj ⊢
  replace hL := hL.symm
  subst hL
  have e10 : V1 s 10 = qi cm := by rw [hj 10 (by omega)]; exact h10
  have e11 : V1 s 11 = qi ls := by rw [hj 11 (by omega)]; exact h11
  rcases (by omega : l = 0 ∨ l = 1) with rfl | rfl
  · obtain ⟨⟨a0, a4, a7⟩, s1, s2, s3, s4, s5, s6⟩ := hS1
    have b1 := s1 _ hb
    have b3 := s3 _ hb
    have hfin : ∀ x1 x3 : Nat, zW (some (z_uI (z_uI (z_uI V1 s 10 (qi (cm + 1))) (s + 1) (p % 6 * 6 + p / 6) (qi x1)) (s + 3) (p % 6 * 6 + p / 6) (qi x3), z_uL L s 9 (L s 9 ||| bit6 p))) (fun r => SC r.1 s (keepS (day, nu held (p % 6 * 6 + p / 6) x1, sent, nu got (p % 6 * 6 + p / 6) x3, m, mp, ml, kn, kc) ((day * 36 + p) * 2 + 0)) ∧ r.1 s 10 = qi (if (0 : Nat) = 1 then cm else cm + 1) ∧ r.1 s 11 = qi (if (0 : Nat) = 1 then ls + 1 else ls) ∧ r.2 s 9 = (if (0 : Nat) = 1 then L s 9 else L s 9 ||| bit6 p) ∧ (∀ w, (w < s ∨ s + 7 ≤ w) → r.1 w = V w) ∧ ∀ w, w ≠ s → r.2 w = L w) := by
      intro x1 x3
      refine zW_some ⟨⟨⟨?_, ?_, ?_⟩, ?_, ?_, ?_, ?_, ?_, ?_⟩, ?_, ?_, ?_, ?_, ?_⟩
      · simp (disch := omega) only [z_same, z_neP, z_neK, zL_same, zL_neP, zL_neK, zr_same, zr_ne]; exact a0
      · simp (disch := omega) only [z_same, z_neP, z_neK, zL_same, zL_neP, zL_neK, zr_same, zr_ne]; exact a4
      · simp (disch := omega) only [z_same, z_neP, z_neK, zL_same, zL_neP, zL_neK, zr_same, zr_ne]; exact a7
      · intro k hk
        simp (disch := omega) only [z_neP, z_if, nu]
        split
        · rfl
        · exact s1 k hk
      · intro k hk; simp (disch := omega) only [z_same, z_neP, z_neK, zL_same, zL_neP, zL_neK, zr_same, zr_ne]; exact s2 k hk
      · intro k hk
        simp (disch := omega) only [z_neP, z_if, nu]
        split
        · rfl
        · exact s3 k hk
      · intro k hk; simp (disch := omega) only [z_same, z_neP, z_neK, zL_same, zL_neP, zL_neK, zr_same, zr_ne]; exact s4 k hk
      · intro k hk; simp (disch := omega) only [z_same, z_neP, z_neK, zL_same, zL_neP, zL_neK, zr_same, zr_ne]; exact s5 k hk
      · intro k hk; simp (disch := omega) only [z_same, z_neP, z_neK, zL_same, zL_neP, zL_neK, zr_same, zr_ne]; exact s6 k hk
      · simp (disch := omega) only [z_same, z_neP, z_neK, zL_same, zL_neP, zL_neK, zr_same, zr_ne]; rfl
      · simp (disch := omega) only [z_same, z_neP, z_neK, zL_same, zL_neP, zL_neK, zr_same, zr_ne]; exact e11
      · simp (disch := omega) only [z_same, z_neP, z_neK, zL_same, zL_neP, zL_neK, zr_same, zr_ne]; rfl
      · intro w h
        simp (disch := omega) only [z_same, z_neP, z_neK, zL_same, zL_neP, zL_neK, zr_same, zr_ne]
        exact hw w (by omega) (by omega)
      · intro w h; simp (disch := omega) only [z_same, z_neP, z_neK, zL_same, zL_neP, zL_neK, zr_same, zr_ne]
    simp only [delS, show ¬ (0 : Nat) = 1 by omega, ↓reduceIte]
    simp only [show ¬ (0 : Nat) = 1 by omega, ↓reduceIte] at hfin
    by_cases c1 : held (p % 6 * 6 + p / 6) + e < 99 <;> by_cases c3 : got (p % 6 * 6 + p / 6) + 1 < 99 <;> simp (disch := omega) only [e10, n1, n3, b1, b3, c1, c3, ↓reduceIte, o_bind, and_true, true_and, and_false, false_and, or_true, true_or, or_false, false_or, not_true, not_false_eq_true, not_false_iff, ne_eq, Nat.reduceAdd, Nat.reduceMul, Nat.reduceSub, Nat.reduceDiv, Nat.reduceMod, Nat.reduceLT, Nat.reduceLeDiff, Nat.reduceEqDiff, Nat.not_lt, Nat.not_le, q_lit, ↓q_m1, q_om, q_on, q_add, q_mul, q_sub, q_div, q_md, q_ltT, q_ltF, q_leT, q_leF, q_eqT, q_eqF, q_inT, q_inF, q_nn, q_mlt, q_ltm, q_mle, q_lem, q_nem, q_mne, z_same, z_neP, z_neK, zL_same, zL_neP, zL_neK, zr_same, zr_ne] <;> exact hfin _ _
  · simp (disch := omega) only [e11, ↓reduceIte, o_bind, and_true, true_and, and_false, false_and, or_true, true_or, or_false, false_or, not_true, not_false_eq_true, not_false_iff, ne_eq, Nat.reduceAdd, Nat.reduceMul, Nat.reduceSub, Nat.reduceDiv, Nat.reduceMod, Nat.reduceLT, Nat.reduceLeDiff, Nat.reduceEqDiff, Nat.not_lt, Nat.not_le, q_lit, ↓q_m1, q_om, q_on, q_add, q_mul, q_sub, q_div, q_md, q_ltT, q_ltF, q_leT, q_leF, q_eqT, q_eqF, q_inT, q_inF, q_nn, q_mlt, q_ltm, q_mle, q_lem, q_nem, q_mne, z_same, z_neP, z_neK, zL_same, zL_neP, zL_neK, zr_same, zr_ne, delS]
    refine zW_some ⟨SC_z hS1 (by omega) (by omega) (by omega), ?_, ?_, rfl, ?_, fun _ _ => rfl⟩
    · simp (disch := omega) only [z_same, z_neP, z_neK, zL_same, zL_neP, zL_neK, zr_same, zr_ne]; exact e10
    · simp (disch := omega) only [z_same, z_neP, z_neK, zL_same, zL_neP, zL_neK, zr_same, zr_ne]
    · intro w h
      simp (disch := omega) only [z_same, z_neP, z_neK, zL_same, zL_neP, zL_neK, zr_same, zr_ne]
      exact hw w (by omega) (by omega)
set_option maxHeartbeats 4000000 in
theorem c_post {N : Nat → Nat} {G : zG} {V : zI} {L : zL} {s p d : Nat} {A : aS} (hs : stS N G s) (hS : SC V s A) (hm : A.2.2.2.2.1 < 60) (hh : 0 < A.2.1 p ∧ A.2.1 p ≤ 99) (hse : A.2.2.1 p ≤ 99) (hp : p < 36) : zW (f_X7_post N G s (qi p) (qi d) V L) (fun r => SC r.1 s (posS A p d) ∧ (∀ j, j ≠ 4 → r.1 s j = V s j) ∧ (∀ w, (w < s ∨ s + 7 ≤ w) → r.1 w = V w) ∧ r.2 = L) := by
  obtain ⟨day, held, sent, got, m, mp, ml, kn, kc⟩ := A
  obtain ⟨⟨a0, a4, a7⟩, s1, s2, s3, s4, s5, s6⟩ := hS
  obtain ⟨⟨g1, g2, g3, g5, g6, g8⟩, n1, n2, n3, n4, n5, n6⟩ := id hs
  dsimp only at hm hh hse
  have b1 := s1 p hp
  have b2 := s2 p hp
  have hfin : ∀ x : Nat, zW (some (z_uI (z_uI (z_uI (z_uI (z_uI V (s + 1) p (qi (held p - 1))) (s + 2) p (qi x)) (s + 4) m (qi p)) (s + 5) m (qi d)) s 4 (qi (m + 1)), L)) (fun r => SC r.1 s (day, nu held p (held p - 1), nu sent p x, got, m + 1, nu mp m p, nu ml m d, kn, kc) ∧ (∀ j, j ≠ 4 → r.1 s j = V s j) ∧ (∀ w, (w < s ∨ s + 7 ≤ w) → r.1 w = V w) ∧ r.2 = L) := by
    intro x
    refine zW_some ⟨⟨⟨?_, ?_, ?_⟩, ?_, ?_, ?_, ?_, ?_, ?_⟩, ?_, ?_, rfl⟩
    · simp (disch := omega) only [z_same, z_neP, z_neK, zL_same, zL_neP, zL_neK, zr_same, zr_ne]; exact a0
    · simp (disch := omega) only [z_same, z_neP, z_neK, zL_same, zL_neP, zL_neK, zr_same, zr_ne]
    · simp (disch := omega) only [z_same, z_neP, z_neK, zL_same, zL_neP, zL_neK, zr_same, zr_ne]; exact a7
    · intro k hk
      simp (disch := omega) only [z_neP, z_if, nu]
      split
      · rfl
      · exact s1 k hk
    · intro k hk
      simp (disch := omega) only [z_neP, z_if, nu]
      split
      · rfl
      · exact s2 k hk
    · intro k hk; simp (disch := omega) only [z_same, z_neP, z_neK, zL_same, zL_neP, zL_neK, zr_same, zr_ne]; exact s3 k hk
    · intro k hk
      simp (disch := omega) only [z_neP, z_if, nu]
      split
      · rfl
      · exact s4 k (by omega)
    · intro k hk
      simp (disch := omega) only [z_neP, z_if, nu]
      split
      · rfl
      · exact s5 k (by omega)
    · intro k hk; simp (disch := omega) only [z_same, z_neP, z_neK, zL_same, zL_neP, zL_neK, zr_same, zr_ne]; exact s6 k hk
    · intro j hj; simp (disch := omega) only [z_same, z_neP, z_neK, zL_same, zL_neP, zL_neK, zr_same, zr_ne]
    · intro w hw; simp (disch := omega) only [z_same, z_neP, z_neK, zL_same, zL_neP, zL_neK, zr_same, zr_ne]
  unfold f_X7_post g_X7_post posS
  by_cases c1 : sent p + 1 < 99
  · simp (disch := omega) only [g1, g2, g5, g6, n1, n2, n4, n5, a4, b1, b2, c1, ↓reduceIte, o_bind, and_true, true_and, and_false, false_and, or_true, true_or, or_false, false_or, not_true, not_false_eq_true, not_false_iff, ne_eq, Nat.reduceAdd, Nat.reduceMul, Nat.reduceSub, Nat.reduceDiv, Nat.reduceMod, Nat.reduceLT, Nat.reduceLeDiff, Nat.reduceEqDiff, Nat.not_lt, Nat.not_le, q_lit, ↓q_m1, q_om, q_on, q_add, q_mul, q_sub, q_div, q_md, q_ltT, q_ltF, q_leT, q_leF, q_eqT, q_eqF, q_inT, q_inF, q_nn, q_mlt, q_ltm, q_mle, q_lem, q_nem, q_mne, z_same, z_neP, z_neK, zL_same, zL_neP, zL_neK, zr_same, zr_ne]
    exact hfin _
  · simp (disch := omega) only [g1, g2, g5, g6, n1, n2, n4, n5, a4, b1, b2, c1, ↓reduceIte, o_bind, and_true, true_and, and_false, false_and, or_true, true_or, or_false, false_or, not_true, not_false_eq_true, not_false_iff, ne_eq, Nat.reduceAdd, Nat.reduceMul, Nat.reduceSub, Nat.reduceDiv, Nat.reduceMod, Nat.reduceLT, Nat.reduceLeDiff, Nat.reduceEqDiff, Nat.not_lt, Nat.not_le, q_lit, ↓q_m1, q_om, q_on, q_add, q_mul, q_sub, q_div, q_md, q_ltT, q_ltF, q_leT, q_leF, q_eqT, q_eqF, q_inT, q_inF, q_nn, q_mlt, q_ltm, q_mle, q_lem, q_nem, q_mne, z_same, z_neP, z_neK, zL_same, zL_neP, zL_neK, zr_same, zr_ne]
    exact hfin _
/-! numbers that are longs -/
def qI (n : Nat) : Int64 := Int64.ofNat n
theorem Q_z (n : Nat) : qI n = qZ n := (Int64.ofInt_eq_ofNat).symm
theorem Q_lit (n : Nat) : (OfNat.ofNat n : Int64) = qI (OfNat.ofNat n) := rfl
theorem Q_add (a b : Nat) : qI a + qI b = qI (a + b) := (Int64.ofNat_add a b).symm
theorem Q_mul (a b : Nat) : qI a * qI b = qI (a * b) := (Int64.ofNat_mul a b).symm
theorem Q_sub {a b : Nat} (h : b ≤ a) : qI a - qI b = qI (a - b) := (Int64.ofNat_sub a b h).symm
theorem Q_div {a b : Nat} (ha : a < 9223372036854775808) (hb : b < 9223372036854775808) : qI a / qI b = qI (a / b) := (Int64.ofNat_div ha hb).symm
theorem Q_i {a : Nat} (ha : a < 2147483648) : (qi a).toInt64 = qI a := by
  rw [qi_z, Q_z, qz_64 (by omega) (by omega)]
theorem Q_32 (a : Nat) : (qI a).toInt32 = qi a := by
  rw [Q_z, qi_z, qZ_32]
theorem Q_eq {a b : Nat} (ha : a < 9223372036854775808) (hb : b < 9223372036854775808) : (qI a = qI b) ↔ a = b := by
  rw [Q_z, Q_z, qZ_eq (by omega) (by omega) (by omega) (by omega)]
  omega
theorem Q_nz {a : Nat} (h : 0 < a) (ha : a < 9223372036854775808) : (qI a = qI 0) = False := eq_false (fun e => by have := (Q_eq ha (by omega)).mp e; omega)
def lcg (x : Nat) : Nat := (1103515245 * x + 12345) % 2147483648
theorem lcg_b (x : Nat) : lcg x < 2147483648 := Nat.mod_lt _ (by omega)
theorem q_and31 (n : Nat) : qi n &&& qi 2147483647 = qi (n % 2147483648) := by
  apply Int32.toBitVec_inj.mp
  apply BitVec.eq_of_toNat_eq
  have e1 : ∀ k : Nat, (qi k).toBitVec = BitVec.ofNat 32 k := fun _ => rfl
  rw [Int32.toBitVec_and, BitVec.toNat_and, e1, e1, e1, BitVec.toNat_ofNat, BitVec.toNat_ofNat, BitVec.toNat_ofNat]
  rw [show 2147483647 % 2 ^ 32 = 2 ^ 31 - 1 by decide, Nat.and_two_pow_sub_one_eq_mod]
  omega
theorem cc_draw {N : Nat → Nat} {G : zG} {V : zI} {L : zL} {p x : Nat} (hx : V p 0 = qi x) : f_X1_drawOf N G p (qi 100) V L = some (qi (lcg x / 64 % 100), z_uI V p 0 (qi (lcg x)), L) := by
  have hb := lcg_b x
  unfold f_X1_drawOf g_X1_drawOf
  have e : ((1103515245 : Int32) * V p 0 + 12345) &&& 2147483647 = qi (lcg x) := by
    rw [hx]
    show (qi 1103515245 * qi x + qi 12345) &&& qi 2147483647 = _
    rw [q_mul, q_add, q_and31]
    rfl
  simp only [e, z_same]
  simp (disch := omega) only [↓reduceIte, o_bind, and_true, true_and, and_false, false_and, or_true, true_or, or_false, false_or, not_true, not_false_eq_true, not_false_iff, ne_eq, Nat.reduceAdd, Nat.reduceMul, Nat.reduceSub, Nat.reduceDiv, Nat.reduceMod, Nat.reduceLT, Nat.reduceLeDiff, Nat.reduceEqDiff, Nat.not_lt, Nat.not_le, q_lit, ↓q_m1, q_om, q_on, q_add, q_mul, q_sub, q_div, q_md, q_ltT, q_ltF, q_leT, q_leF, q_eqT, q_eqF, q_inT, q_inF, q_nn, q_mlt, q_ltm, q_mle, q_lem, q_nem, q_mne, z_same, z_neP, z_neK, zL_same, zL_neP, zL_neK, zr_same, zr_ne]
theorem r_draw {V : zI} {L : zL} {x : Nat} (hx : L 0 49 = qI x) (h : x < 2147483648) : f_draw (qi 100) V L = some (qi (lcg x / 64 % 100), V, z_uL L 0 49 (qI (lcg x))) := by
  have hb := lcg_b x
  have e : ((1103515245 : Int64) * L 0 49 + 12345) - ((1103515245 : Int64) * L 0 49 + 12345) / 2147483648 * 2147483648 = qI (lcg x) := by
    rw [hx]
    show (qI 1103515245 * qI x + qI 12345) - (qI 1103515245 * qI x + qI 12345) / qI 2147483648 * qI 2147483648 = qI (lcg x)
    rw [Q_mul, Q_add, Q_div (by omega) (by omega), Q_mul, Q_sub (Nat.div_mul_le_self _ _), q_md]
    rfl
  unfold f_draw
  simp only [e, zL_same]
  simp (disch := omega) only [Q_i, Q_lit, Q_div, Q_mul, Q_sub, q_md, Q_nz, Q_32, ↓reduceIte, o_bind, and_true, true_and, and_false, false_and, or_true, true_or, or_false, false_or, not_true, not_false_eq_true, not_false_iff, ne_eq, Nat.reduceAdd, Nat.reduceMul, Nat.reduceSub, Nat.reduceDiv, Nat.reduceMod, Nat.reduceLT, Nat.reduceLeDiff, Nat.reduceEqDiff, Nat.not_lt, Nat.not_le]
end
