section
variable {t : Nat → Nat} {tl i m s e κ : Nat} {V R R' : zI} {L M M' : zL}
theorem skP_le : ∀ (f i : Nat), i + f = tl → skP t tl i ≤ tl ∧ i ≤ skP t tl i ∧ (skP t tl i < tl → ¬ isB (t (skP t tl i))) ∧ ∀ j, i ≤ j → j < skP t tl i → isB (t j) := by
  intro f
  induction f with
  | zero =>
    intro i h
    have : i = tl := by omega
    subst this
    rw [skP_e]
    exact ⟨Nat.le_refl _, Nat.le_refl _, fun h => by omega, fun j h1 h2 => by omega⟩
  | succ f ih =>
    intro i h
    by_cases hb : isB (t i)
    · rw [skP_b (by omega) hb]
      obtain ⟨h1, h2, h3, h4⟩ := ih (i + 1) (by omega)
      refine ⟨h1, by omega, h3, fun j h5 h6 => ?_⟩
      by_cases e : j = i
      · rw [e]; exact hb
      · exact h4 j (by omega) h6
    · rw [skP_n (by omega) hb]
      exact ⟨by omega, Nat.le_refl _, fun _ => hb, fun j h1 h2 => by omega⟩
theorem eT_run (hs : s < tl) (h1 : kdO (t s) ≠ 1) (hm : s + m ≤ tl) (hr : ∀ k, k < m → kdO (t (s + k)) = kdO (t s)) (he : s + m = tl ∨ kdO (t (s + m)) ≠ kdO (t s)) : eT t tl s = s + m := by
  unfold eT
  rw [if_neg (by omega), if_neg h1]
  exact rn_u m s hm hr he
/-- what ahead() leaves but for the token -/
def ahF (R : zI) (M : zL) (R' : zI) (M' : zL) : Prop := (∀ j, j ≠ 3 → j ≠ 4 → j ≠ 5 → j ≠ 6 → j ≠ 12 → R' 0 j = R 0 j) ∧ (∀ w, w ≠ 0 → R' w = R w) ∧ (∀ j, j ≠ 7 → M' 0 j = M 0 j) ∧ ∀ w, w ≠ 0 → M' w = M w
theorem a_41 {x2 x3 : Int32} (hs : s < tl) (hT : tpR R t tl) : f_ahead_41 (qi s) R M = (if isL (t s) ∨ isD (t s) then f_ahead_98 (qi s) (qi (decide (isL (t s))).toNat) (qi (decide (isD (t s))).toNat) (z_uI (z_uI (z_uI (z_uI R 0 4 (qi s)) 0 5 (qi s)) 0 3 (qi 0)) 0 12 qm) M else f_ahead_135 (qi s) (qi (decide (isL (t s))).toNat) (qi (decide (isD (t s))).toNat) (z_uI (z_uI (z_uI (z_uI R 0 4 (qi s)) 0 5 (qi s)) 0 3 (qi 0)) 0 12 qm) M) := by
  obtain ⟨T1, T2, T3⟩ := hT
  obtain ⟨e1, e2⟩ := T3 s hs
  have g2 : z_uI (z_uI (z_uI (z_uI R 0 4 (qi s)) 0 5 (qi s)) 0 3 0) 0 12 (-1) 0 2 = qi tl := by rw [z_neK (by omega), z_neK (by omega), z_neK (by omega), z_neK (by omega)]; exact T2
  have g1 : z_uI (z_uI (z_uI (z_uI R 0 4 (qi s)) 0 5 (qi s)) 0 3 0) 0 12 (-1) 1 (qi s).toNatClampNeg = qi (t s) := by rw [z_neP (by omega), z_neP (by omega), z_neP (by omega), z_neP (by omega), q_nn (by omega)]; exact e1
  unfold f_ahead_41
  rw [if_pos (show qi s < z_uI (z_uI (z_uI (z_uI R 0 4 (qi s)) 0 5 (qi s)) 0 3 0) 0 12 (-1) 0 2 by rw [g2, q_lt (by omega) (by omega)]; exact hs), if_pos (q_inP (by omega) (by omega)), g1, r_isL e2, o_bind, if_pos (q_inP (by omega) (by omega)), r_isD e2, o_bind]
  by_cases hl : isL (t s)
  · rw [if_pos (show isL (t s) ∨ isD (t s) from Or.inl hl), decide_eq_true hl, if_neg (by decide)]
    rfl
  · rw [decide_eq_false hl, if_pos (by rfl)]
    by_cases hd : isD (t s)
    · rw [if_pos (show isL (t s) ∨ isD (t s) from Or.inr hd), decide_eq_true hd, if_neg (by decide)]
      rfl
    · rw [if_neg (show ¬ (isL (t s) ∨ isD (t s)) from fun h => by
        rcases h with h | h
        · exact hl h
        · exact hd h), decide_eq_false hd, if_pos (by rfl)]
      rfl
theorem a_98 {x2 x3 : Int32} (hs : s < tl) (hT : tpR R t tl) (h12 : R 0 12 = qm) : f_ahead_98 (qi s) x2 x3 R M = f_ahead_135 (qi s) x2 x3 (if glu t s then z_uI R 0 12 (qi s) else R) M := by
  obtain ⟨T1, T2, T3⟩ := hT
  unfold f_ahead_98
  by_cases h0 : s = 0
  · rw [if_pos (show qi s ≤ 0 by rw [h0]; exact le00), if_neg (show ¬ glu t s from fun h => by have := h.1; omega)]
  · rw [if_neg (show ¬ qi s ≤ 0 by rw [q_lit, q_le (by omega) (by omega)]; omega)]
    obtain ⟨e1, e2⟩ := T3 (s - 1) (by omega)
    have e : qi s - 1 = qi (s - 1) := by rw [q_lit, q_sub (by omega)]
    have g1 : R 1 (qi (s - 1)).toNatClampNeg = qi (t (s - 1)) := by rw [q_nn (by omega)]; exact e1
    rw [e, if_pos (q_inP (by omega) (by omega)), g1, r_isL e2, o_bind]
    by_cases hl : isL (t (s - 1))
    · rw [decide_eq_true hl, if_neg (by decide), if_pos (show glu t s from ⟨by omega, Or.inl hl⟩)]
      rfl
    · rw [decide_eq_false hl, if_pos (by rfl), if_pos (q_inP (by omega) (by omega)), r_isD e2, o_bind]
      by_cases hd : isD (t (s - 1))
      · rw [decide_eq_true hd, if_neg (by decide), if_pos (show glu t s from ⟨by omega, Or.inr hd⟩)]
        rfl
      · rw [decide_eq_false hd, if_pos (by rfl), if_neg (show ¬ glu t s from fun h => by
          rcases h.2 with h | h
          · exact hl h
          · exact hd h)]
set_option maxHeartbeats 4000000 in
theorem r_ahd (hT : tpR R t tl) (he : e ≤ tl) (h5 : R 0 5 = qi e) : zW (f_ahead R M) (fun r => (r.1 0 5 = qi (eT t tl (skP t tl e)) ∧ tkR (tkn t tl (skP t tl e)) r.1 r.2) ∧ ahF R M r.1 r.2) := by
  obtain ⟨T1, T2, T3⟩ := id hT
  unfold f_ahead
  rw [h5]
  refine r_skip hT he ?_
  obtain ⟨p1, p2, p3, p4⟩ := skP_le (t := t) (tl := tl) (tl - e) e (by omega)
  generalize skP t tl e = s at p1 p2 p3 p4
  by_cases hend : s = tl
  · subst hend
    have hkn : tkn t s s = (0, 0, s) := by unfold tkn; rw [if_pos (Nat.le_refl _)]
    have hen : eT t s s = s := by unfold eT; rw [if_pos (Nat.le_refl _)]
    have g2 : z_uI (z_uI (z_uI (z_uI R 0 4 (qi s)) 0 5 (qi s)) 0 3 0) 0 12 (-1) 0 2 = qi s := by rw [z_neK (by omega), z_neK (by omega), z_neK (by omega), z_neK (by omega)]; exact T2
    unfold f_ahead_41
    rw [if_neg (show ¬ qi s < z_uI (z_uI (z_uI (z_uI R 0 4 (qi s)) 0 5 (qi s)) 0 3 0) 0 12 (-1) 0 2 by rw [g2, q_lt (by omega) (by omega)]; omega), hkn, hen]
    refine zW_some ⟨⟨?_, ?_, by omega, Or.inl ⟨rfl, ?_, ?_⟩⟩, fun j j3 j4 j5 j6 j12 => ?_, fun w hw => ?_, fun _ _ => rfl, fun _ _ => rfl⟩
    · dsimp only; rw [z_neK (by omega), z_neK (by omega), z_same]
    · dsimp only; rw [z_neK (by omega), z_neK (by omega), z_neK (by omega), z_same]
    · dsimp only; rw [z_neK (by omega), z_same]; rfl
    · dsimp only; rw [z_same]; rfl
    · dsimp only; rw [z_neK j12, z_neK j3, z_neK j5, z_neK j4]
    · dsimp only; rw [z_neP hw, z_neP hw, z_neP hw, z_neP hw]
  have hs : s < tl := by omega
  have hnb := p3 hs
  obtain ⟨o1, o2⟩ := T3 s hs
  rw [a_41 (x2 := 0) (x3 := 0) hs hT]
  obtain ⟨RA, hRA⟩ : ∃ RA, RA = z_uI (z_uI (z_uI (z_uI R 0 4 (qi s)) 0 5 (qi s)) 0 3 (qi 0)) 0 12 qm := ⟨_, rfl⟩
  rw [← hRA]
  have a4 : RA 0 4 = qi s := by rw [hRA, z_neK (by omega), z_neK (by omega), z_neK (by omega), z_same]
  have a12 : RA 0 12 = qm := by rw [hRA, z_same]
  have aj : ∀ j, j ≠ 3 → j ≠ 4 → j ≠ 5 → j ≠ 12 → RA 0 j = R 0 j := fun j j3 j4 j5 j12 => by rw [hRA, z_neK j12, z_neK j3, z_neK j5, z_neK j4]
  have aw : ∀ w, w ≠ 0 → RA w = R w := fun w hw => by rw [hRA, z_neP hw, z_neP hw, z_neP hw, z_neP hw]
  have hTA : tpR RA t tl := by unfold tpR; rw [aj 2 (by omega) (by omega) (by omega) (by omega), aw 1 (by omega)]; exact hT
  by_cases hLD : isL (t s) ∨ isD (t s)
  case neg =>
    have hl : ¬ isL (t s) := fun h => hLD (Or.inl h)
    have hd : ¬ isD (t s) := fun h => hLD (Or.inr h)
    have hk1 : kdO (t s) = 1 := by unfold kdO; rw [if_neg hl, if_neg hd, if_neg hnb]
    have hkn : tkn t tl s = (1, t s, s) := by unfold tkn; rw [if_neg (by omega), if_pos hk1]
    have hen : eT t tl s = s + 1 := by unfold eT; rw [if_neg (by omega), if_pos hk1]
    rw [if_neg hLD, decide_eq_false hl, decide_eq_false hd, hkn, hen]
    unfold f_ahead_135
    rw [if_pos (by rfl), if_pos (by rfl), if_pos (q_inP (by omega) (by omega)), show (1 : Int32) = qi 1 from rfl, q_add, q_nn (by omega)]
    have g1 : z_uI (z_uI (z_uI RA 0 6 0) 0 3 3) 0 5 (qi (s + 1)) 1 s = qi (t s) := by rw [z_neP (by omega), z_neP (by omega), z_neP (by omega), aw 1 (by omega)]; exact o1
    rw [g1]
    refine zW_some ⟨⟨?_, ?_, by show s ≤ 1600; omega, Or.inr (Or.inl ⟨rfl, ?_, ?_, by dsimp only; rw [z_same], by show t s < 256; omega⟩)⟩, fun j j3 j4 j5 j6 j12 => ?_, fun w hw => ?_, fun j hj => by dsimp only; rw [zL_neK hj], fun w hw => by dsimp only; rw [zL_neP hw]⟩
    · dsimp only; rw [z_neK (by omega), z_same]
    · dsimp only; rw [z_neK (by omega), z_neK (by omega), z_neK (by omega), z_neK (by omega)]; exact a4
    · dsimp only; rw [z_neK (by omega), z_neK (by omega), z_same]; rfl
    · dsimp only; rw [z_neK (by omega), z_neK (by omega), z_neK (by omega), z_neK (by omega)]; exact a12
    · dsimp only; rw [z_neK j6, z_neK j5, z_neK j3, z_neK j6]; exact aj j j3 j4 j5 j12
    · dsimp only; rw [z_neP hw, z_neP hw, z_neP hw, z_neP hw]; exact aw w hw
  rw [if_pos hLD, a_98 hs hTA a12]
  obtain ⟨RB', hRB⟩ : ∃ RB', RB' = (if glu t s then z_uI RA 0 12 (qi s) else RA) := ⟨_, rfl⟩
  rw [← hRB]
  have b12 : RB' 0 12 = (if glu t s then qi s else qm) := by
    rw [hRB]
    by_cases g : glu t s
    · rw [if_pos g, if_pos g, z_same]
    · rw [if_neg g, if_neg g]; exact a12
  have bj : ∀ j, j ≠ 12 → RB' 0 j = RA 0 j := fun j hj => by
    rw [hRB]
    by_cases g : glu t s
    · rw [if_pos g, z_neK hj]
    · rw [if_neg g]
  have bw : ∀ w, w ≠ 0 → RB' w = RA w := fun w hw => by
    rw [hRB]
    by_cases g : glu t s
    · rw [if_pos g, z_neP hw]
    · rw [if_neg g]
  obtain ⟨RC, hRC⟩ : ∃ RC, RC = z_uI (z_uI (z_uI RB' 0 6 0) 0 3 3) 0 5 (qi s + 1) := ⟨_, rfl⟩
  have cj : ∀ j, j ≠ 3 → j ≠ 5 → j ≠ 6 → RC 0 j = RB' 0 j := fun j j3 j5 j6 => by rw [hRC, z_neK j5, z_neK j3, z_neK j6]
  have c6 : RC 0 6 = qi 0 := by rw [hRC, z_neK (by omega), z_neK (by omega), z_same]; rfl
  have cw : ∀ w, w ≠ 0 → RC w = RB' w := fun w hw => by rw [hRC, z_neP hw, z_neP hw, z_neP hw]
  by_cases hl : isL (t s)
  · -- a word
    have hd : ¬ isD (t s) := fun h => by have := h.2; have := hl.1; omega
    have hk3 : kdO (t s) = 3 := kdO_3.mpr hl
    rw [decide_eq_true hl, decide_eq_false hd]
    have e135 : f_ahead_135 (qi s) (qi true.toNat) (qi false.toNat) RB' M = zfix b_ahead_204 FU (qi s, qi 1, qi 0, qi 6, qi 0, z_uI RC 0 3 (qi 1), z_uL M 0 7 (qI 0)) := by
      unfold f_ahead_135
      rw [if_neg (by decide)]
      unfold f_ahead_176
      rw [if_neg (by decide)]
      unfold f_ahead_186
      rw [if_neg (by decide)]
      rw [hRC]
      rfl
    rw [e135]
    have dj : ∀ j, j ≠ 3 → z_uI RC 0 3 (qi 1) 0 j = RC 0 j := fun j hj => z_neK hj
    have hTD : tpR (z_uI RC 0 3 (qi 1)) t tl := by unfold tpR; rw [dj 2 (by omega), cj 2 (by omega) (by omega) (by omega), bj 2 (by omega), z_neP (by omega), cw 1 (by omega), bw 1 (by omega)]; exact hTA
    refine zW_mono (r_runW hTD zL_same (by omega)) ?_
    rintro ⟨R1, M1⟩ ⟨m, m1, m2, m3, m4, ⟨w1, w2, w3, w4, w5, w6⟩⟩
    dsimp only at m4 w1 w2 w3 w4 w5 w6 ⊢
    have hm0 : 0 < m := by
      rcases Nat.eq_zero_or_pos m with h0 | h0
      · subst h0
        rcases m3 with h | h
        · omega
        · exact absurd hl h
      · exact h0
    have hen : eT t tl s = s + m := eT_run hs (by omega) m1 (fun k hk => by rw [hk3]; exact kdO_3.mpr (m2 k hk)) (by
      rcases m3 with h | h
      · exact Or.inl h
      · refine Or.inr ?_
        rw [hk3]
        exact fun g => h (kdO_3.mp g))
    have d12 : z_uI RC 0 3 (qi 1) 0 12 = (if glu t s then qi s else qm) := by rw [dj 12 (by omega), cj 12 (by omega) (by omega) (by omega)]; exact b12
    have f4 : R1 0 4 = qi s := by rw [w3 4 (by omega) (by omega), dj 4 (by omega), cj 4 (by omega) (by omega) (by omega), bj 4 (by omega)]; exact a4
    have f3 : R1 0 3 = qi 1 := by rw [w3 3 (by omega) (by omega), z_same]
    have hframe : ahF R M R1 M1 := by
      refine ⟨fun j j3 j4 j5 j6 j12 => ?_, fun w hw => ?_, fun j hj => ?_, fun w hw => ?_⟩
      · rw [w3 j j5 j12, dj j j3, cj j j3 j5 j6, bj j j12]; exact aj j j3 j4 j5 j12
      · rw [w4 w hw, z_neP hw, cw w hw, bw w hw]; exact aw w hw
      · rw [w5 j hj, zL_neK hj]
      · rw [w6 w hw, zL_neP hw]
    rw [hen]
    refine ⟨⟨m4, ?_⟩, hframe⟩
    unfold tkn
    rw [if_neg (by omega), if_neg (by omega), hen, Nat.add_sub_cancel_left]
    by_cases g : glu t s
    · rw [if_pos g]
      rw [d12, if_pos g, if_neg (show ¬ (6 < m ∧ qi s = qm) from fun h => q_nem (by omega) h.2)] at w2
      exact ⟨f4, by show s ≤ 1600; omega, Or.inr (Or.inr (Or.inr (Or.inr (Or.inr ⟨rfl, w2, by show s ≤ 1600; omega, Or.inl f3⟩))))⟩
    rw [if_neg g, if_neg (by omega)]
    rw [d12, if_neg g] at w2
    by_cases hm6 : 6 < m
    · rw [if_pos hm6]
      rw [if_pos ⟨hm6, rfl⟩] at w2
      exact ⟨f4, by show s ≤ 1600; omega, Or.inr (Or.inr (Or.inr (Or.inr (Or.inr ⟨rfl, w2, by show s + 6 ≤ 1600; omega, Or.inl f3⟩))))⟩
    rw [if_neg hm6]
    rw [if_neg (fun h => hm6 h.1)] at w2
    rw [show min 6 m = m by omega, ← ltr_R m m2] at w1
    have hnk : nmK (ltr t s m) := ⟨by rw [ltr_len]; omega, ltr_mem m m2⟩
    by_cases hix : ixF owL (nmR (ltr t s m)) < 23
    · rw [if_pos hix]
      refine ⟨f4, by show s ≤ 1600; omega, Or.inr (Or.inr (Or.inr (Or.inr (Or.inl ⟨rfl, f3, w2, hix, ?_⟩))))⟩
      rw [w1]
      show qI _ = qI (owL.getD (ixF owL (nmR (ltr t s m))) 0)
      rw [ixF_lt owL _ hix]
    · rw [if_neg hix]
      refine ⟨f4, by show s ≤ 1600; omega, Or.inr (Or.inr (Or.inr (Or.inl ⟨rfl, f3, w2, ltr t s m, hnk, rfl, w1, fun i hi => ?_⟩)))⟩
      exact fun h => ixF_ge owL _ (by show 23 ≤ _; omega) i hi h.symm
  · -- a number
    have hd : isD (t s) := by
      rcases hLD with h | h
      · exact absurd h hl
      · exact h
    have hk2 : kdO (t s) = 2 := kdO_2.mpr hd
    rw [decide_eq_false hl, decide_eq_true hd]
    have e135 : f_ahead_135 (qi s) (qi false.toNat) (qi true.toNat) RB' M = zfix b_ahead_204 FU (qi s, qi 0, qi 1, qi 4, qi 0, z_uI RC 0 3 (qi 2), z_uL M 0 7 (qI 0)) := by
      unfold f_ahead_135
      rw [if_pos (by rfl), if_neg (by decide)]
      unfold f_ahead_176
      rw [if_pos (by rfl)]
      unfold f_ahead_186
      rw [if_pos (by rfl)]
      rw [hRC]
      rfl
    rw [e135]
    have dj : ∀ j, j ≠ 3 → z_uI RC 0 3 (qi 2) 0 j = RC 0 j := fun j hj => z_neK hj
    have hTD : tpR (z_uI RC 0 3 (qi 2)) t tl := by unfold tpR; rw [dj 2 (by omega), cj 2 (by omega) (by omega) (by omega), bj 2 (by omega), z_neP (by omega), cw 1 (by omega), bw 1 (by omega)]; exact hTA
    refine zW_mono (r_runN hTD (by rw [dj 6 (by omega)]; exact c6) (by omega)) ?_
    rintro ⟨R1, M1⟩ ⟨m, m1, m2, m3, m4, ⟨w1, w2, w3, w4⟩, w5⟩
    dsimp only at m4 w1 w2 w3 w4 w5 ⊢
    subst w5
    have hm0 : 0 < m := by
      rcases Nat.eq_zero_or_pos m with h0 | h0
      · subst h0
        rcases m3 with h | h
        · omega
        · exact absurd hd h
      · exact h0
    have hen : eT t tl s = s + m := eT_run hs (by omega) m1 (fun k hk => by rw [hk2]; exact kdO_2.mpr (m2 k hk)) (by
      rcases m3 with h | h
      · exact Or.inl h
      · refine Or.inr ?_
        rw [hk2]
        exact fun g => h (kdO_2.mp g))
    have d12 : z_uI RC 0 3 (qi 2) 0 12 = (if glu t s then qi s else qm) := by rw [dj 12 (by omega), cj 12 (by omega) (by omega) (by omega)]; exact b12
    have f4 : R1 0 4 = qi s := by rw [w3 4 (by omega) (by omega) (by omega), dj 4 (by omega), cj 4 (by omega) (by omega) (by omega), bj 4 (by omega)]; exact a4
    have f3 : R1 0 3 = qi 2 := by rw [w3 3 (by omega) (by omega) (by omega), z_same]
    have hframe : ahF R M R1 (z_uL M 0 7 (qI 0)) := by
      refine ⟨fun j j3 j4 j5 j6 j12 => ?_, fun w hw => ?_, fun j hj => ?_, fun w hw => ?_⟩
      · rw [w3 j j5 j6 j12, dj j j3, cj j j3 j5 j6, bj j j12]; exact aj j j3 j4 j5 j12
      · rw [w4 w hw, z_neP hw, cw w hw, bw w hw]; exact aw w hw
      · rw [zL_neK hj]
      · rw [zL_neP hw]
    rw [hen]
    refine ⟨⟨m4, ?_⟩, hframe⟩
    unfold tkn
    rw [if_neg (by omega), if_neg (by omega), hen, Nat.add_sub_cancel_left]
    by_cases g : glu t s
    · rw [if_pos g]
      rw [d12, if_pos g, if_neg (show ¬ (4 < m ∧ qi s = qm) from fun h => q_nem (by omega) h.2)] at w2
      exact ⟨f4, by show s ≤ 1600; omega, Or.inr (Or.inr (Or.inr (Or.inr (Or.inr ⟨rfl, w2, by show s ≤ 1600; omega, Or.inr f3⟩))))⟩
    rw [if_neg g, if_pos hk2]
    rw [d12, if_neg g] at w2
    by_cases hm4 : 4 < m
    · rw [if_pos hm4]
      rw [if_pos ⟨hm4, rfl⟩] at w2
      exact ⟨f4, by show s ≤ 1600; omega, Or.inr (Or.inr (Or.inr (Or.inr (Or.inr ⟨rfl, w2, by show s + 4 ≤ 1600; omega, Or.inr f3⟩))))⟩
    rw [if_neg hm4]
    rw [if_neg (fun h => hm4 h.1)] at w2
    rw [show min 4 m = m by omega] at w1
    have hb := nmV_b m (by omega) m2
    have hb4 : 10 ^ m ≤ 10 ^ 4 := Nat.pow_le_pow_right (by decide) (by omega)
    exact ⟨f4, by show s ≤ 1600; omega, Or.inr (Or.inr (Or.inl ⟨rfl, f3, w2, w1, by show nmV t s m < 10000; omega⟩))⟩
end
