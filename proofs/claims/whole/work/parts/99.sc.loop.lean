section
variable {b k cd n0 n c q tn tl tw i : Nat} {V V' R R' R0 : zI} {L M M' M0 : zL} {K N : Nat → Nat} {G : zG} {ed t w st : Nat → Nat} {tk : Nat → tkT} {C : List Nat} {U : aU}
/-! the end of a statement -/
theorem z_fskip {P : zI × zL → Prop} {x1 : Int32} {j0 : Nat} (hT : tpR R t tl) (hi : j0 ≤ tl) (hk : zW (f_finishes_53 x1 (qi (skP t tl j0)) R M) P) : zW (zfix b_finishes_17 FU (x1, qi j0, R, M)) P := by
  obtain ⟨h1, h2, h3⟩ := hT
  refine zW_lp (I := fun r z => ∃ j : Nat, j ≤ tl ∧ r = tl - j ∧ z = (x1, qi j, R, M) ∧ skP t tl j = skP t tl j0) ?_ FU (tl - j0) _ ⟨j0, hi, rfl, rfl, rfl⟩ (FU_big (by omega))
  rintro kk r z ⟨j, hj, rfl, rfl, hs⟩ ih
  by_cases hend : j = tl
  · subst hend
    rw [skP_e] at hs
    rw [← hs] at hk
    simp (disch := omega) only [b_finishes_17, h2, Nat.le_refl, ↓reduceIte, o_bind, and_true, true_and, and_false, false_and, or_true, true_or, or_false, false_or, not_true, not_false_eq_true, not_false_iff, ne_eq, Nat.reduceAdd, Nat.reduceMul, Nat.reduceSub, Nat.reduceDiv, Nat.reduceMod, Nat.reduceLT, Nat.reduceLeDiff, Nat.reduceEqDiff, Nat.not_lt, Nat.not_le, q_leT]
    exact hk
  · obtain ⟨e1, e2⟩ := h3 j (by omega)
    by_cases b1 : t j = 32
    · have hs' : skP t tl (j + 1) = skP t tl j0 := by rw [← skP_b (by omega) (Or.inl b1)]; exact hs
      have g := ih (tl - (j + 1)) (x1, qi (j + 1), R, M) (by omega) ⟨j + 1, by omega, rfl, rfl, hs'⟩
      simp (disch := omega) only [b_finishes_17, h2, e1, b1, ↓reduceIte, o_bind, and_true, true_and, and_false, false_and, or_true, true_or, or_false, false_or, not_true, not_false_eq_true, not_false_iff, ne_eq, Nat.reduceAdd, Nat.reduceMul, Nat.reduceSub, Nat.reduceDiv, Nat.reduceMod, Nat.reduceLT, Nat.reduceLeDiff, Nat.reduceEqDiff, Nat.not_lt, Nat.not_le, q_lit, ↓q_m1, q_om, q_on, q_add, q_mul, q_sub, q_div, q_md, q_ltT, q_ltF, q_leT, q_leF, q_eqT, q_eqF, q_inT, q_inF, q_nn, q_mlt, q_ltm, q_mle, q_lem, q_nem, q_mne]
      exact g
    · by_cases b2 : t j = 10
      · have hs' : skP t tl (j + 1) = skP t tl j0 := by rw [← skP_b (by omega) (Or.inr b2)]; exact hs
        have g := ih (tl - (j + 1)) (x1, qi (j + 1), R, M) (by omega) ⟨j + 1, by omega, rfl, rfl, hs'⟩
        simp (disch := omega) only [b_finishes_17, h2, e1, b2, ↓reduceIte, o_bind, and_true, true_and, and_false, false_and, or_true, true_or, or_false, false_or, not_true, not_false_eq_true, not_false_iff, ne_eq, Nat.reduceAdd, Nat.reduceMul, Nat.reduceSub, Nat.reduceDiv, Nat.reduceMod, Nat.reduceLT, Nat.reduceLeDiff, Nat.reduceEqDiff, Nat.not_lt, Nat.not_le, q_lit, ↓q_m1, q_om, q_on, q_add, q_mul, q_sub, q_div, q_md, q_ltT, q_ltF, q_leT, q_leF, q_eqT, q_eqF, q_inT, q_inF, q_nn, q_mlt, q_ltm, q_mle, q_lem, q_nem, q_mne]
        exact g
      · have hn : ¬ isB (t j) := fun h => by
          rcases h with h | h
          · exact b1 h
          · exact b2 h
        rw [skP_n (by omega) hn] at hs
        rw [← hs] at hk
        simp (disch := omega) only [b_finishes_17, h2, e1, ↓reduceIte, o_bind, and_true, true_and, and_false, false_and, or_true, true_or, or_false, false_or, not_true, not_false_eq_true, not_false_iff, ne_eq, Nat.reduceAdd, Nat.reduceMul, Nat.reduceSub, Nat.reduceDiv, Nat.reduceMod, Nat.reduceLT, Nat.reduceLeDiff, Nat.reduceEqDiff, Nat.not_lt, Nat.not_le, q_lit, ↓q_m1, q_om, q_on, q_add, q_mul, q_sub, q_div, q_md, q_ltT, q_ltF, q_leT, q_leF, q_eqT, q_eqF, q_inT, q_inF, q_nn, q_mlt, q_ltm, q_mle, q_lem, q_nem, q_mne]
        exact hk
theorem z_mustS (hA : AH t tl ed tk tn) (hT : tpR R0 t tl) (hW : TW tk tn) (hk : k < tn) (h : RZ R0 M0 ed tk k R M) (h5 : (tk k).1 ≠ 5) : zW (f_must 59 R M) (fun r => (tS (tk k) 59 ∧ RZ R0 M0 ed tk (k + 1) r.1 r.2) ∨ (¬ tS (tk k) 59 ∧ ZE R0 M0 1 (fp (tk k)) r.1 r.2)) := by
  unfold f_must
  rw [tk_lex0 h.2.2.2 h5, o_bind, show (59 : Int32) = qi 59 from rfl]
  refine zW_is (tk_sg h.2.2.2 h5 (by omega)) ?_
  by_cases e : tS (tk k) 59
  · rw [if_pos e]
    refine zW_if0 (show ¬ (qi 1 : Int32) = 0 by decide) ?_
    unfold f_must_21
    refine zW_if1 h.2.1.1 ?_
    refine zW_call (z_ahead hA hT (hW.1 k hk (by have := e.1; omega)) h) ?_
    rintro ⟨R1, M1⟩ h1
    exact zW_some (Or.inl ⟨e, h1⟩)
  · rw [if_neg e]
    refine zW_if1 (by rfl) ?_
    rw [show (1 : Int32) = qi 1 from rfl]
    refine zW_is (z_blame h) ?_
    have hz := ZE_mk (f := 1) (pl := (tk k).2.2) h (by omega)
    have hz' : ZE R0 M0 1 (fp (tk k)) (RB R 1 (tk k).2.2) M := by unfold fp; rw [if_neg h5]; exact hz
    unfold f_must_21
    exact zW_if0 (ZE_gt hz).2 (zW_some (Or.inr ⟨e, hz'⟩))
/-- what the tokens' places say -/
def PLC (t : Nat → Nat) (tl : Nat) (ed : Nat → Nat) (tk : Nat → tkT) (tn : Nat) : Prop := (∀ k, k < tn → ed k ≤ tl) ∧ ∀ k, k + 1 < tn → (tk (k + 1)).2.2 = skP t tl (ed k) ∧ ((tk (k + 1)).1 = 0 ↔ tl ≤ skP t tl (ed k)) ∧ skP t tl (ed k) ≤ tl
theorem z_fin (hi : i < 80) (hA : AH t tl ed tk tn) (hP : PLC t tl ed tk tn) (hW : TW tk tn) (hT : tpR R t tl) (hk : k < tn) (h : RZ R M ed tk k R M) : zW (f_finishes (qi (i + 1)) R M) (fun r => (tS (tk k) 59 ∧ (i + 1 = 80 → (tk (k + 1)).1 = 0) ∧ RZ R M ed tk (k + 1) r.1 r.2) ∨ (tS (tk k) 59 ∧ i + 1 = 80 ∧ (tk (k + 1)).1 ≠ 0 ∧ ZE R M 6 (tk (k + 1)).2.2 r.1 r.2) ∨ (¬ tS (tk k) 59 ∧ ZE R M 1 (fp (tk k)) r.1 r.2)) := by
  unfold f_finishes
  by_cases h5 : (tk k).1 = 5
  · rw [z_lex5 h h5, o_bind]
    have hz := ZE_mk (f := 1) (pl := fp (tk k)) h (by omega)
    exact zW_if0 (ZE_gt hz).1 (zW_some (Or.inr (Or.inr ⟨fun g => by have := g.1; omega, hz⟩)))
  rw [tk_lex0 h.2.2.2 h5, o_bind]
  dsimp only
  refine zW_if1 (by rw [h.2.1.1]; exact le00) ?_
  rw [h.2.2.1]
  refine z_fskip hT (hP.1 k hk) ?_
  unfold f_finishes_53
  rw [show (59 : Int32) = qi 59 from rfl]
  refine zW_is (tk_sg h.2.2.2 h5 (by omega)) ?_
  have hmust := z_mustS hA hT hW hk h h5
  have h83 : zW (f_finishes_83 R M) (fun r => (tS (tk k) 59 ∧ RZ R M ed tk (k + 1) r.1 r.2) ∨ (¬ tS (tk k) 59 ∧ ZE R M 1 (fp (tk k)) r.1 r.2)) := by
    unfold f_finishes_83
    refine zW_call hmust ?_
    rintro ⟨R1, M1⟩ h1
    exact zW_some h1
  by_cases e : tS (tk k) 59
  case neg =>
    rw [if_neg e]
    refine zW_if1 (by rfl) (zW_mono h83 ?_)
    rintro r (h1 | h1)
    · exact absurd h1.1 e
    · exact Or.inr (Or.inr h1)
  have hk1 := hW.1 k hk (by have := e.1; omega)
  obtain ⟨p1, p2, p3⟩ := hP.2 k hk1
  rw [if_pos e]
  refine zW_if0 (show ¬ (qi 1 : Int32) = 0 by decide) ?_
  dsimp only
  have hok : (i + 1 = 80 → (tk (k + 1)).1 = 0) → zW (f_finishes_83 R M) (fun r => (tS (tk k) 59 ∧ (i + 1 = 80 → (tk (k + 1)).1 = 0) ∧ RZ R M ed tk (k + 1) r.1 r.2) ∨ (tS (tk k) 59 ∧ i + 1 = 80 ∧ (tk (k + 1)).1 ≠ 0 ∧ ZE R M 6 (tk (k + 1)).2.2 r.1 r.2) ∨ (¬ tS (tk k) 59 ∧ ZE R M 1 (fp (tk k)) r.1 r.2)) := fun hh => by
    refine zW_mono h83 ?_
    rintro r (h1 | h1)
    · exact Or.inl ⟨h1.1, hh, h1.2⟩
    · exact absurd e h1.1
  by_cases e80 : i + 1 = 80
  · refine zW_if1 (by rw [e80]; rfl) ?_
    by_cases ee : (tk (k + 1)).1 = 0
    · exact zW_if1 (by rw [hT.2.1, q_le (by have := hT.1; omega) (by have := hT.1; omega)]; exact p2.mp ee) (hok (fun _ => ee))
    · refine zW_if0 (by rw [hT.2.1, q_le (by have := hT.1; omega) (by have := hT.1; omega)]; exact fun g => ee (p2.mpr g)) ?_
      have hz := ZE_mk (f := 6) (pl := skP t tl (ed k)) h (by omega)
      have hbl : f_blame 6 (qi (skP t tl (ed k))) R M = some (RB R 6 (skP t tl (ed k)), M) := by
        unfold f_blame
        rw [if_pos (show R 0 8 ≤ 0 by rw [h.2.1.1]; exact le00)]
        rfl
      refine zW_is hbl ?_
      unfold f_finishes_83 f_must
      rw [z_lexE hz, o_bind]
      obtain ⟨y, hy⟩ := sg_any (R := RB R 6 (skP t tl (ed k))) (M := M) 59
      have h21 : f_must_21 (RB R 6 (skP t tl (ed k))) M = some (RB R 6 (skP t tl (ed k)), M) := by
        unfold f_must_21
        rw [if_neg (ZE_gt hz).2]
      have hm : zW ((f_isSign 59 (RB R 6 (skP t tl (ed k))) M).bind fun r2 => if r2.1 = 0 then (f_blame 1 (r2.2.1 0 4) r2.2.1 r2.2.2).bind fun r3 => f_must_21 r3.1 r3.2 else f_must_21 r2.2.1 r2.2.2) (fun r => r = (RB R 6 (skP t tl (ed k)), M)) := by
        refine zW_is hy ?_
        dsimp only
        refine zW_ite (fun _ => ?_) (fun _ => ?_)
        · refine zW_is (z_blE hz) ?_
          dsimp only
          rw [h21]; exact zW_some rfl
        · rw [h21]; exact zW_some rfl
      refine zW_call hm ?_
      rintro r rfl
      refine zW_some (Or.inr (Or.inl ⟨e, e80, ee, ?_⟩))
      rw [p1]
      exact hz
  · exact zW_if0 (by rw [q_lit, q_eq (by omega) (by omega)]; exact e80) (hok (fun g => absurd g e80))
theorem z_finE {x : Int32} {f : Nat} (hf : 0 < f ∧ f < 100) (h8 : R 0 8 = qi f) : f_finishes x R M = some (R, M) := by
  have hgt : ¬ R 0 8 ≤ 0 := by rw [h8, q_lit, q_le (by omega) (by omega)]; omega
  have hlex : f_lex R M = some (R, M) := by
    unfold f_lex
    by_cases e : R 0 12 = -1
    · rw [if_pos e]
    · rw [if_neg e]
      unfold f_blame
      rw [if_neg hgt]
      rfl
  unfold f_finishes
  rw [hlex, o_bind, if_neg hgt]
end
