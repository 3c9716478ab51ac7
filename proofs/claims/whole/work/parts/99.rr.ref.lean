section
variable {k tn tl b : Nat} {R0 R : zI} {M0 M : zL} {ed t : Nat → Nat} {tk : Nat → tkT} {T : tkT}
/-! The reference between statements: only the token moves. -/
theorem z_own (x : Int64) : (f_isOwn x R M = some (1, R, M) ∧ ∃ i, i < 23 ∧ x = qI (ow i)) ∨ (f_isOwn x R M = some (0, R, M) ∧ ∀ i, i < 23 → ¬ x = qI (ow i)) := by
  unfold f_isOwn
  by_cases h0 : lg_cmp x 1953462126 = 0
  · rw [if_pos h0]
    exact Or.inl ⟨rfl, 0, by omega, (lg_cmp_eq _ _).mp h0⟩
  rw [if_neg h0]
  by_cases h1 : lg_cmp x 1667330676 = 0
  · rw [if_pos h1]
    exact Or.inl ⟨rfl, 1, by omega, (lg_cmp_eq _ _).mp h1⟩
  rw [if_neg h1]
  by_cases h2 : lg_cmp x 29807 = 0
  · rw [if_pos h2]
    exact Or.inl ⟨rfl, 2, by omega, (lg_cmp_eq _ _).mp h2⟩
  rw [if_neg h2]
  by_cases h3 : lg_cmp x 1684109683 = 0
  · rw [if_pos h3]
    exact Or.inl ⟨rfl, 3, by omega, (lg_cmp_eq _ _).mp h3⟩
  rw [if_neg h3]
  by_cases h4 : lg_cmp x 448545973363 = 0
  · rw [if_pos h4]
    exact Or.inl ⟨rfl, 4, by omega, (lg_cmp_eq _ _).mp h4⟩
  rw [if_neg h4]
  by_cases h5 : lg_cmp x 28518 = 0
  · rw [if_pos h5]
    exact Or.inl ⟨rfl, 5, by omega, (lg_cmp_eq _ _).mp h5⟩
  rw [if_neg h5]
  by_cases h6 : lg_cmp x 131333279212915 = 0
  · rw [if_pos h6]
    exact Or.inl ⟨rfl, 6, by omega, (lg_cmp_eq _ _).mp h6⟩
  rw [if_neg h6]
  by_cases h7 : lg_cmp x 465625113971 = 0
  · rw [if_pos h7]
    exact Or.inl ⟨rfl, 7, by omega, (lg_cmp_eq _ _).mp h7⟩
  rw [if_neg h7]
  by_cases h8 : lg_cmp x 512970880104 = 0
  · rw [if_pos h8]
    exact Or.inl ⟨rfl, 8, by omega, (lg_cmp_eq _ _).mp h8⟩
  rw [if_neg h8]
  by_cases h9 : lg_cmp x 1701733228 = 0
  · rw [if_pos h9]
    exact Or.inl ⟨rfl, 9, by omega, (lg_cmp_eq _ _).mp h9⟩
  rw [if_neg h9]
  by_cases h10 : lg_cmp x 1819243380 = 0
  · rw [if_pos h10]
    exact Or.inl ⟨rfl, 10, by omega, (lg_cmp_eq _ _).mp h10⟩
  rw [if_neg h10]
  by_cases h11 : lg_cmp x 1751477348 = 0
  · rw [if_pos h11]
    exact Or.inl ⟨rfl, 11, by omega, (lg_cmp_eq _ _).mp h11⟩
  rw [if_neg h11]
  by_cases h12 : lg_cmp x 6709618 = 0
  · rw [if_pos h12]
    exact Or.inl ⟨rfl, 12, by omega, (lg_cmp_eq _ _).mp h12⟩
  rw [if_neg h12]
  by_cases h13 : lg_cmp x 6578553 = 0
  · rw [if_pos h13]
    exact Or.inl ⟨rfl, 13, by omega, (lg_cmp_eq _ _).mp h13⟩
  rw [if_neg h13]
  by_cases h14 : lg_cmp x 1936027252 = 0
  · rw [if_pos h14]
    exact Or.inl ⟨rfl, 14, by omega, (lg_cmp_eq _ _).mp h14⟩
  rw [if_neg h14]
  by_cases h15 : lg_cmp x 6778740 = 0
  · rw [if_pos h15]
    exact Or.inl ⟨rfl, 15, by omega, (lg_cmp_eq _ _).mp h15⟩
  rw [if_neg h15]
  by_cases h16 : lg_cmp x 26982 = 0
  · rw [if_pos h16]
    exact Or.inl ⟨rfl, 16, by omega, (lg_cmp_eq _ _).mp h16⟩
  rw [if_neg h16]
  by_cases h17 : lg_cmp x 28530 = 0
  · rw [if_pos h17]
    exact Or.inl ⟨rfl, 17, by omega, (lg_cmp_eq _ _).mp h17⟩
  rw [if_neg h17]
  by_cases h18 : lg_cmp x 6385252 = 0
  · rw [if_pos h18]
    exact Or.inl ⟨rfl, 18, by omega, (lg_cmp_eq _ _).mp h18⟩
  rw [if_neg h18]
  by_cases h19 : lg_cmp x 7237492 = 0
  · rw [if_pos h19]
    exact Or.inl ⟨rfl, 19, by omega, (lg_cmp_eq _ _).mp h19⟩
  rw [if_neg h19]
  by_cases h20 : lg_cmp x 6384748 = 0
  · rw [if_pos h20]
    exact Or.inl ⟨rfl, 20, by omega, (lg_cmp_eq _ _).mp h20⟩
  rw [if_neg h20]
  by_cases h21 : lg_cmp x 7170414 = 0
  · rw [if_pos h21]
    exact Or.inl ⟨rfl, 21, by omega, (lg_cmp_eq _ _).mp h21⟩
  rw [if_neg h21]
  by_cases h22 : lg_cmp x 7168376 = 0
  · rw [if_pos h22]
    exact Or.inl ⟨rfl, 22, by omega, (lg_cmp_eq _ _).mp h22⟩
  rw [if_neg h22]
  refine Or.inr ⟨rfl, fun i hi e => ?_⟩
  have hi : i = 0 ∨ i = 1 ∨ i = 2 ∨ i = 3 ∨ i = 4 ∨ i = 5 ∨ i = 6 ∨ i = 7 ∨ i = 8 ∨ i = 9 ∨ i = 10 ∨ i = 11 ∨ i = 12 ∨ i = 13 ∨ i = 14 ∨ i = 15 ∨ i = 16 ∨ i = 17 ∨ i = 18 ∨ i = 19 ∨ i = 20 ∨ i = 21 ∨ i = 22 := by omega
  rcases hi with rfl | rfl | rfl | rfl | rfl | rfl | rfl | rfl | rfl | rfl | rfl | rfl | rfl | rfl | rfl | rfl | rfl | rfl | rfl | rfl | rfl | rfl | rfl
  · exact h0 ((lg_cmp_eq _ _).mpr e)
  · exact h1 ((lg_cmp_eq _ _).mpr e)
  · exact h2 ((lg_cmp_eq _ _).mpr e)
  · exact h3 ((lg_cmp_eq _ _).mpr e)
  · exact h4 ((lg_cmp_eq _ _).mpr e)
  · exact h5 ((lg_cmp_eq _ _).mpr e)
  · exact h6 ((lg_cmp_eq _ _).mpr e)
  · exact h7 ((lg_cmp_eq _ _).mpr e)
  · exact h8 ((lg_cmp_eq _ _).mpr e)
  · exact h9 ((lg_cmp_eq _ _).mpr e)
  · exact h10 ((lg_cmp_eq _ _).mpr e)
  · exact h11 ((lg_cmp_eq _ _).mpr e)
  · exact h12 ((lg_cmp_eq _ _).mpr e)
  · exact h13 ((lg_cmp_eq _ _).mpr e)
  · exact h14 ((lg_cmp_eq _ _).mpr e)
  · exact h15 ((lg_cmp_eq _ _).mpr e)
  · exact h16 ((lg_cmp_eq _ _).mpr e)
  · exact h17 ((lg_cmp_eq _ _).mpr e)
  · exact h18 ((lg_cmp_eq _ _).mpr e)
  · exact h19 ((lg_cmp_eq _ _).mpr e)
  · exact h20 ((lg_cmp_eq _ _).mpr e)
  · exact h21 ((lg_cmp_eq _ _).mpr e)
  · exact h22 ((lg_cmp_eq _ _).mpr e)
def ZF (R0 : zI) (M0 : zL) (R : zI) (M : zL) : Prop := (∀ j, j ≠ 3 → j ≠ 4 → j ≠ 5 → j ≠ 6 → j ≠ 8 → j ≠ 9 → j ≠ 12 → R 0 j = R0 0 j) ∧ (∀ w, w ≠ 0 → R w = R0 w) ∧ (∀ j, j ≠ 7 → M 0 j = M0 0 j) ∧ ∀ w, w ≠ 0 → M w = M0 w
def RZ (R0 : zI) (M0 : zL) (ed : Nat → Nat) (tk : Nat → tkT) (k : Nat) (R : zI) (M : zL) : Prop := ZF R0 M0 R M ∧ (R 0 8 = qi 0 ∧ R 0 9 = qm) ∧ R 0 5 = qi (ed k) ∧ tkR (tk k) R M
def ZE (R0 : zI) (M0 : zL) (f pl : Nat) (R : zI) (M : zL) : Prop := ZF R0 M0 R M ∧ R 0 8 = qi f ∧ R 0 9 = qi pl ∧ 0 < f ∧ f < 100
theorem z_ahead (hA : AH t tl ed tk tn) (hT : tpR R0 t tl) (hk : k + 1 < tn) (h : RZ R0 M0 ed tk k R M) : zW (f_ahead R M) (fun r => RZ R0 M0 ed tk (k + 1) r.1 r.2) := by
  obtain ⟨⟨a1, a2, a3, a4⟩, ⟨a5, a6⟩, a7, a8⟩ := h
  have hT' : tpR R t tl := by
    unfold tpR
    rw [a1 2 (by omega) (by omega) (by omega) (by omega) (by omega) (by omega) (by omega), a2 1 (by omega)]
    exact hT
  refine zW_mono (hA k R M hk hT' a7) ?_
  rintro ⟨R1, M1⟩ ⟨b1, b2, b3, b4, b5⟩
  dsimp only at b1 b2 b3 b4 b5 ⊢
  refine ⟨⟨fun j j3 j4 j5 j6 j8 j9 j12 => (b2 j j3 j4 j5 j6 j12).trans (a1 j j3 j4 j5 j6 j8 j9 j12), fun w hw => (b3 w hw).trans (a2 w hw), fun j hj => (b4 j hj).trans (a3 j hj), fun w hw => (b5 w hw).trans (a4 w hw)⟩, ⟨?_, ?_⟩, b1⟩
  · rw [b2 8 (by omega) (by omega) (by omega) (by omega) (by omega)]; exact a5
  · rw [b2 9 (by omega) (by omega) (by omega) (by omega) (by omega)]; exact a6
theorem ZE_mk {f pl : Nat} (h : RZ R0 M0 ed tk k R M) (hf : 0 < f ∧ f < 100) : ZE R0 M0 f pl (RB R f pl) M := by
  obtain ⟨⟨a1, a2, a3, a4⟩, -⟩ := h
  refine ⟨⟨fun j j3 j4 j5 j6 j8 j9 j12 => ?_, fun w hw => ?_, a3, a4⟩, RB_8, z_same, hf⟩
  · show z_uI (z_uI R 0 8 (qi f)) 0 9 (qi pl) 0 j = R0 0 j
    rw [z_neK j9, z_neK j8]; exact a1 j j3 j4 j5 j6 j8 j9 j12
  · show z_uI (z_uI R 0 8 (qi f)) 0 9 (qi pl) w = R0 w
    rw [z_neP hw, z_neP hw]; exact a2 w hw
theorem z_blame {f : Nat} (h : RZ R0 M0 ed tk k R M) : f_blame (qi f) (R 0 4) R M = some (RB R f (tk k).2.2, M) := by
  unfold f_blame
  rw [if_pos (show R 0 8 ≤ 0 by rw [h.2.1.1]; exact le00), h.2.2.2.1]
theorem ZE_gt {f pl : Nat} (h : ZE R0 M0 f pl R M) : ¬ R 0 8 ≤ 0 ∧ ¬ R 0 8 = 0 := by
  obtain ⟨-, h8, -, hf, hf'⟩ := h
  rw [h8]
  constructor
  · rw [q_lit, q_le (by omega) (by omega)]; omega
  · rw [q_lit, q_eq (by omega) (by omega)]; omega
theorem z_blE {f pl : Nat} {y z : Int32} (h : ZE R0 M0 f pl R M) : f_blame y z R M = some (R, M) := by
  unfold f_blame
  rw [if_neg (ZE_gt h).1]
theorem z_lexE {f pl : Nat} (h : ZE R0 M0 f pl R M) : f_lex R M = some (R, M) := by
  unfold f_lex
  by_cases e : R 0 12 = -1
  · rw [if_pos e]
  · rw [if_neg e, z_blE h]; rfl
theorem z_lex5 (h : RZ R0 M0 ed tk k R M) (h5 : (tk k).1 = 5) : f_lex R M = some (RB R 1 (fp (tk k)), M) := by
  unfold fp
  rw [if_pos h5]
  exact tk_lex5 h.2.2.2 h5 h.2.1.1
theorem z_must {i : Nat} (hi : i < 23) (hA : AH t tl ed tk tn) (hT : tpR R0 t tl) (hW : TW tk tn) (hk : k < tn) (h : RZ R0 M0 ed tk k R M) : zW (f_must_ (qI (ow i)) R M) (fun r => (tO (tk k) i ∧ RZ R0 M0 ed tk (k + 1) r.1 r.2) ∨ (¬ tO (tk k) i ∧ ZE R0 M0 1 (fp (tk k)) r.1 r.2)) := by
  unfold f_must_
  by_cases h5 : (tk k).1 = 5
  · rw [z_lex5 h h5, o_bind]
    have hz := ZE_mk (f := 1) (pl := fp (tk k)) h (by omega)
    exact zW_if0 (ZE_gt hz).1 (zW_some (Or.inr ⟨fun g => by have := g.1; omega, hz⟩))
  · rw [tk_lex0 h.2.2.2 h5, o_bind]
    dsimp only
    refine zW_if1 (by rw [h.2.1.1]; exact le00) ?_
    refine zW_is (tk_wd h.2.2.2 h5 hi) ?_
    by_cases e : tO (tk k) i
    · rw [if_pos e]
      refine zW_if0 (show ¬ (qi 1 : Int32) = 0 by decide) ?_
      unfold f_must__29
      refine zW_if1 h.2.1.1 ?_
      refine zW_call (z_ahead hA hT (hW.1 k hk (by have := e.1; omega)) h) ?_
      rintro ⟨R1, M1⟩ h1
      exact zW_some (Or.inl ⟨e, h1⟩)
    · rw [if_neg e]
      refine zW_if1 (by rfl) ?_
      rw [show (1 : Int32) = qi 1 from rfl]
      refine zW_is (z_blame h) ?_
      have hz := ZE_mk (f := 1) (pl := (tk k).2.2) h (by omega)
      have hz' : ZE R0 M0 1 (fp (tk k)) (RB R 1 (tk k).2.2) M := by unfold fp; rw [if_neg h5]; exact hz
      unfold f_must__29
      exact zW_if0 (ZE_gt hz).2 (zW_some (Or.inr ⟨e, hz'⟩))
theorem z_mustE {f pl : Nat} {x : Int64} (h : ZE R0 M0 f pl R M) : f_must_ x R M = some (R, M) := by
  unfold f_must_
  rw [z_lexE h, o_bind, if_neg (ZE_gt h).1]
theorem z_num {lo hi : Nat} (hl : lo ≤ 100) (hh : hi ≤ 100) (hA : AH t tl ed tk tn) (hT : tpR R0 t tl) (hW : TW tk tn) (hk : k < tn) (h : RZ R0 M0 ed tk k R M) : zW (f_number (qi lo) (qi hi) R M) (fun r => ((tk k).1 = 2 ∧ (lo ≤ (tk k).2.1 ∧ (tk k).2.1 ≤ hi) ∧ r.1 = qi (tk k).2.1 ∧ RZ R0 M0 ed tk (k + 1) r.2.1 r.2.2) ∨ ((tk k).1 = 2 ∧ ¬ (lo ≤ (tk k).2.1 ∧ (tk k).2.1 ≤ hi) ∧ ZE R0 M0 4 (tk k).2.2 r.2.1 r.2.2) ∨ ((tk k).1 ≠ 2 ∧ ZE R0 M0 1 (fp (tk k)) r.2.1 r.2.2)) := by
  have hT' := h.2.2.2
  unfold f_number
  by_cases h5 : (tk k).1 = 5
  · rw [z_lex5 h h5, o_bind]
    have hz := ZE_mk (f := 1) (pl := fp (tk k)) h (by omega)
    exact zW_if0 (ZE_gt hz).1 (zW_some (Or.inr (Or.inr ⟨by omega, hz⟩)))
  · rw [tk_lex0 hT' h5, o_bind]
    dsimp only
    refine zW_if1 (by rw [h.2.1.1]; exact le00) ?_
    by_cases e : (tk k).1 = 2
    · have hh2 : R 0 3 = qi 2 ∧ R 0 6 = qi (tk k).2.1 ∧ (tk k).2.1 < 10000 := by
        rcases hT'.2.2 with ⟨c, -⟩ | ⟨c, -⟩ | ⟨-, a3, -, a, a'⟩ | ⟨c, -⟩ | ⟨c, -⟩ | ⟨c, -⟩
        · omega
        · omega
        · exact ⟨a3, a, a'⟩
        · omega
        · omega
        · omega
      obtain ⟨g3, g6, gb⟩ := hh2
      refine zW_if1 g3 ?_
      unfold f_number_30
      refine zW_if1 h.2.1.1 ?_
      by_cases hin : lo ≤ (tk k).2.1 ∧ (tk k).2.1 ≤ hi
      · have his : f_is (R 0 6) (qi lo) (qi hi) = some 1 := by
          unfold f_is
          rw [g6, if_neg (by rw [q_lt (by omega) (by omega)]; omega), if_neg (by rw [q_lt (by omega) (by omega)]; omega)]
        refine zW_is his (zW_if0 (by decide) ?_)
        unfold f_number_58
        refine zW_if1 h.2.1.1 ?_
        refine zW_call (z_ahead hA hT (hW.1 k hk (by omega)) h) ?_
        rintro ⟨R1, M1⟩ h1
        exact zW_some (Or.inl ⟨e, hin, g6, h1⟩)
      · have his : f_is (R 0 6) (qi lo) (qi hi) = some 0 := by
          unfold f_is
          rw [g6]
          by_cases c : (tk k).2.1 < lo
          · rw [if_pos (by rw [q_lt (by omega) (by omega)]; exact c)]
          · rw [if_neg (by rw [q_lt (by omega) (by omega)]; exact c), if_pos (by rw [q_lt (by omega) (by omega)]; omega)]
        refine zW_is his (zW_if1 (by rfl) ?_)
        rw [show (4 : Int32) = qi 4 from rfl]
        refine zW_is (z_blame h) ?_
        have hz := ZE_mk (f := 4) (pl := (tk k).2.2) h (by omega)
        unfold f_number_58
        exact zW_if0 (ZE_gt hz).2 (zW_some (Or.inr (Or.inl ⟨e, hin, hz⟩)))
    · have hn3 : ¬ R 0 3 = 2 := by
        rcases hT'.2.2 with ⟨c, a, -⟩ | ⟨c, a, -⟩ | ⟨c, -⟩ | ⟨c, a, -⟩ | ⟨c, a, -⟩ | ⟨c, -⟩
        · rw [a]; decide
        · rw [a]; decide
        · exact absurd c e
        · rw [a]; decide
        · rw [a]; decide
        · exact absurd c h5
      refine zW_if0 hn3 ?_
      rw [show (1 : Int32) = qi 1 from rfl]
      refine zW_is (z_blame h) ?_
      have hz := ZE_mk (f := 1) (pl := (tk k).2.2) h (by omega)
      have hz' : ZE R0 M0 1 (fp (tk k)) (RB R 1 (tk k).2.2) M := by unfold fp; rw [if_neg h5]; exact hz
      unfold f_number_30
      refine zW_if0 (ZE_gt hz).2 ?_
      unfold f_number_58
      exact zW_if0 (ZE_gt hz).2 (zW_some (Or.inr (Or.inr ⟨e, hz'⟩)))
theorem z_numE {f pl : Nat} {x y : Int32} (h : ZE R0 M0 f pl R M) : f_number x y R M = some (0, R, M) := by
  unfold f_number
  rw [z_lexE h, o_bind, if_neg (ZE_gt h).1]
theorem z_cnt0 (hA : AH t tl ed tk tn) (hT : tpR R0 t tl) (hk : k + 1 < tn) (h : RZ R0 M0 ed tk k R M) : zW (f_counts 0 R M) (fun r => r.1 = 1 ∧ RZ R0 M0 ed tk (k + 1) r.2.1 r.2.2) := by
  unfold f_counts
  refine zW_if1 h.2.1.1 (zW_if1 (by rfl) ?_)
  unfold f_counts_21
  refine zW_if1 h.2.1.1 ?_
  refine zW_call (z_ahead hA hT hk h) ?_
  rintro ⟨R1, M1⟩ h1
  unfold f_counts_32
  exact zW_if1 h1.2.1.1 (zW_some ⟨rfl, h1⟩)
theorem z_cnt1 (h : RZ R0 M0 ed tk k R M) : zW (f_counts 1 R M) (fun r => r.1 = 0 ∧ ZE R0 M0 6 (tk k).2.2 r.2.1 r.2.2) := by
  unfold f_counts
  refine zW_if1 h.2.1.1 (zW_if0 (by decide) ?_)
  rw [show (6 : Int32) = qi 6 from rfl]
  refine zW_is (z_blame h) ?_
  have hz := ZE_mk (f := 6) (pl := (tk k).2.2) h (by omega)
  unfold f_counts_21
  refine zW_if0 (ZE_gt hz).2 ?_
  unfold f_counts_32
  exact zW_if0 (ZE_gt hz).2 (zW_some ⟨rfl, hz⟩)
end
