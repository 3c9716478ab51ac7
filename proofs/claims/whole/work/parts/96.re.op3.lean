section
variable {b fr k o w tn tl l x ph bg pr bs wo f : Nat} {R0 R R' : zI} {M0 M M' : zL} {ed t : Nat → Nat} {tk : Nat → tkT} {T : tkT} {C C' O O' P : List Nat} {F F' Fr : List fmT}
theorem o_par0 (h : RS b fr R0 M0 ed tk k C O o w F R M) (hN : tS (tk k) 40) : f_operand_171 R M = (f_opens (qi 2) R M).bind fun r3 => some (0, r3.1, r3.2) := by
  have h5 : (tk k).1 ≠ 5 := by have := hN.1; omega
  unfold f_operand_171
  rw [show (40 : Int32) = qi 40 from rfl, tk_sg h.2.1.2 h5 (by omega), if_pos hN, o_bind]
  dsimp only
  rw [if_neg (by decide)]
  rfl
theorem o_par (hA : AH t tl ed tk tn) (hT : tpR R0 t tl) (hk : k + 1 < tn) (h : RS b fr R0 M0 ed tk k C O o w F R M) (hF : F.length < 20) (ho : o < 7) (hN : tS (tk k) 40) : zW (f_operand_171 R M) (fun r => r.1 = qi 0 ∧ RS b fr R0 M0 ed tk (k + 1) C O (o + 1) w ((2, 0, 1, 0, O.length) :: F) r.2.1 r.2.2) := by
  rw [o_par0 h hN]
  refine zW_call (p_opens hA hT hk ho hF h) ?_
  rintro ⟨R1, M1⟩ h1
  exact zW_some ⟨rfl, h1⟩
theorem o_par7 (h : RS b fr R0 M0 ed tk k C O 7 w F R M) (hN : tS (tk k) 40) : zW (f_operand_171 R M) (fun r => r.1 = qi 0 ∧ RE b fr R0 M0 5 (tk k).2.2 r.2.1 r.2.2) := by
  rw [o_par0 h hN, p_opens7 h, o_bind]
  exact zW_some ⟨rfl, RE_mk h (by omega)⟩
/-- min, max, if: as far as the sign behind them -/
def fnS (i : Nat) : Nat := if i = 21 then 36 else if i = 22 then 37 else 44
set_option maxHeartbeats 2000000 in
theorem o_fun0 {i : Nat} (h : RS b fr R0 M0 ed tk k C O o w F R M) (hi : i = 21 ∨ i = 22 ∨ i = 16) (hN : tO (tk k) i) : f_operand_171 R M = f_operand_249 (qi (fnS i)) R M := by
  obtain ⟨n1, n2⟩ := id hN
  have h5 : (tk k).1 ≠ 5 := by omega
  have hT := h.2.1.2
  unfold f_operand_171
  rw [show (40 : Int32) = qi 40 from rfl, tk_sg hT h5 (by omega), if_neg (nS (by omega)), o_bind]
  dsimp only
  rw [if_pos (by rfl), wb_21 hT h5]
  dsimp only
  rcases hi with rfl | rfl | rfl
  · rw [if_pos hN, if_neg (by decide)]
    unfold f_operand_217
    rw [wb_21 hT h5, if_pos hN]
    dsimp only
    rw [if_neg (by decide)]
    rfl
  · rw [if_neg (nO (by omega)), if_pos (by rfl), wb_22 hT h5, if_pos hN]
    dsimp only
    rw [if_neg (by decide)]
    unfold f_operand_217
    rw [wb_21 hT h5, if_neg (nO (by omega))]
    dsimp only
    rw [if_pos (by rfl), wb_22 hT h5, if_pos hN]
    dsimp only
    rw [if_neg (by decide)]
    rfl
  · rw [if_neg (nO (by omega)), if_pos (by rfl), wb_22 hT h5, if_neg (nO (by omega))]
    dsimp only
    rw [if_pos (by rfl), wb_16 hT h5, if_pos hN]
    dsimp only
    rw [if_neg (by decide)]
    unfold f_operand_217
    rw [wb_21 hT h5, if_neg (nO (by omega))]
    dsimp only
    rw [if_pos (by rfl), wb_22 hT h5, if_neg (nO (by omega))]
    dsimp only
    rw [if_pos (by rfl)]
    rfl
theorem o_276 {s : Nat} (hs : s < 100) : f_operand_276 (qi s) R M = f_operand_289 (qi s) (qi (if s = 44 then 6 else 3)) R M := by
  unfold f_operand_276
  by_cases e : s = 44
  · rw [if_pos (by rw [e]; rfl), if_pos e]; rfl
  · rw [if_neg (by rw [q_lit, q_eq (by omega) (by omega)]; exact e), if_neg e]; rfl
theorem o_289E {s y pl : Nat} (h : RE b fr R0 M0 f pl R M) : zW (f_operand_289 (qi s) (qi y) R M) (fun r => r.1 = qi 0 ∧ RE b fr R0 M0 f pl r.2.1 r.2.2) := by
  unfold f_operand_289
  refine zW_call (p_opensE h) ?_
  rintro ⟨R1, M1⟩ ⟨rfl, rfl⟩
  dsimp only
  refine zW_if0 ?_ (zW_some ⟨rfl, h⟩)
  dsimp only at h
  rw [h.2.1, q_lit, q_eq (by have := h.2.2.2.2; omega) (by omega)]
  have := h.2.2.2.1; omega
set_option maxHeartbeats 2000000 in
theorem o_fun {i : Nat} (hA : AH t tl ed tk tn) (hT : tpR R0 t tl) (hk : k + 1 < tn) (h : RS b fr R0 M0 ed tk k C O o w F R M) (hi : i = 21 ∨ i = 22 ∨ i = 16) (hN : tO (tk k) i) : ((tk (k + 1)).1 = 5 → zW (f_operand_171 R M) (fun r => r.1 = qi 0 ∧ RE b fr R0 M0 1 (tk (k + 1)).2.1 r.2.1 r.2.2)) ∧ ((tk (k + 1)).1 ≠ 5 → ¬ tS (tk (k + 1)) 40 → zW (f_operand_171 R M) (fun r => r.1 = qi 0 ∧ RE b fr R0 M0 1 (tk (k + 1)).2.2 r.2.1 r.2.2)) ∧ (tS (tk (k + 1)) 40 → o = 7 → zW (f_operand_171 R M) (fun r => r.1 = qi 0 ∧ RE b fr R0 M0 5 (tk (k + 1)).2.2 r.2.1 r.2.2)) ∧ (tS (tk (k + 1)) 40 → o < 7 → F.length < 20 → k + 2 < tn → zW (f_operand_171 R M) (fun r => r.1 = qi 0 ∧ RS b fr R0 M0 ed tk (k + 2) C O (o + 1) w ((if i = 16 then 6 else 3, 0, 1, fnS i, O.length) :: F) r.2.1 r.2.2)) := by
  have hs : fnS i < 100 ∧ (if fnS i = 44 then 6 else 3) = (if i = 16 then 6 else 3) ∧ fnS i ≠ 0 := by
    rcases hi with rfl | rfl | rfl
    · decide
    · decide
    · decide
  rw [o_fun0 h hi hN]
  unfold f_operand_249
  obtain ⟨⟨R1, M1⟩, e1, h1⟩ := p_ahead hA hT hk h
  dsimp only at h1
  have hT1 := h1.2.1.2
  rw [e1, o_bind]
  dsimp only
  refine ⟨fun h5 => ?_, fun h5 hn => ?_, fun hp h7 => ?_, fun hp h7 hF hk2 => ?_⟩
  · have hre := RE_mk (f := 1) (pl := (tk (k + 1)).2.1) h1 (by omega)
    have hbl : ∀ y, f_blame 1 y (RB R1 1 (tk (k + 1)).2.1) M1 = some (RB R1 1 (tk (k + 1)).2.1, M1) := fun y => by
      unfold f_blame
      rw [if_neg]
      rw [hre.2.1, q_lit, q_le (by omega) (by omega)]
      omega
    rw [tk_lex5 hT1 h5 h1.2.2.1.1, o_bind]
    dsimp only
    have hsg : ∃ y, f_isSign 40 (RB R1 1 (tk (k + 1)).2.1) M1 = some (y, RB R1 1 (tk (k + 1)).2.1, M1) := by
      unfold f_isSign
      by_cases c1 : RB R1 1 (tk (k + 1)).2.1 0 3 = 3
      · rw [if_pos c1]
        by_cases c2 : RB R1 1 (tk (k + 1)).2.1 0 6 = 40
        · rw [if_pos c2]; exact ⟨_, rfl⟩
        · rw [if_neg c2]; exact ⟨_, rfl⟩
      · rw [if_neg c1]; exact ⟨_, rfl⟩
    obtain ⟨y, hy⟩ := hsg
    refine zW_is hy ?_
    dsimp only
    refine zW_ite (fun _ => ?_) (fun _ => ?_)
    · refine zW_is (hbl _) ?_
      rw [o_276 hs.1]
      exact o_289E hre
    · rw [o_276 hs.1]
      exact o_289E hre
  · have hre := RE_mk (f := 1) (pl := (tk (k + 1)).2.2) h1 (by omega)
    rw [tk_lex0 hT1 h5, o_bind]
    dsimp only
    rw [show (40 : Int32) = qi 40 from rfl, tk_sg hT1 h5 (by omega), if_neg hn, o_bind]
    dsimp only
    rw [if_pos (by rfl), show (1 : Int32) = qi 1 from rfl, p_blame h1, o_bind, o_276 hs.1]
    exact o_289E hre
  · have h5 : (tk (k + 1)).1 ≠ 5 := by have := hp.1; omega
    subst h7
    rw [tk_lex0 hT1 h5, o_bind]
    dsimp only
    rw [show (40 : Int32) = qi 40 from rfl, tk_sg hT1 h5 (by omega), if_pos hp, o_bind]
    dsimp only
    rw [if_neg (by decide), o_276 hs.1]
    unfold f_operand_289
    rw [p_opens7 h1, o_bind]
    refine zW_if0 ?_ (zW_some ⟨rfl, RE_mk h1 (by omega)⟩)
    show ¬ RB R1 5 (tk (k + 1)).2.2 0 8 = 0
    rw [RB_8]
    decide
  · have h5 : (tk (k + 1)).1 ≠ 5 := by have := hp.1; omega
    rw [tk_lex0 hT1 h5, o_bind]
    dsimp only
    rw [show (40 : Int32) = qi 40 from rfl, tk_sg hT1 h5 (by omega), if_pos hp, o_bind]
    dsimp only
    rw [if_neg (by decide), o_276 hs.1, hs.2.1]
    unfold f_operand_289
    refine zW_call (p_opens hA hT hk2 h7 hF h1) ?_
    rintro ⟨R2, M2⟩ h2
    dsimp only at h2 ⊢
    have e33 : R2 0 33 = qi (F.length + 1) := h2.2.2.1.2.2.2.1
    have e33' : R2 0 33 - 1 = qi F.length := by rw [e33, q_lit, q_sub (by omega), Nat.add_sub_cancel]
    rw [if_pos (show R2 0 8 = 0 from h2.2.2.1.1), if_pos (show inB (R2 0 33 - 1) 20 by rw [e33']; exact q_inP (by omega) (by omega)), e33', q_nn (by omega)]
    exact zW_some ⟨rfl, p_16 h2⟩
/-! a number, a fact, none of them -/
theorem o_425 {c y : Nat} (hA : AH t tl ed tk tn) (hE : EV b wo R0 t tl) (hk : k + 1 < tn) (h : RS b fr R0 M0 ed tk k C O o w F R M) (hC : fr + C.length < 1600) (hy : y = rsOf c) (hv : 100 ≤ c → R 0 6 = qi (c - 100)) : zW (f_operand_425 (qi y) R M) (fun r => r.1 = qi 1 ∧ RS b fr R0 M0 ed tk (k + 1) (C ++ [c]) O o w F r.2.1 r.2.2) := by
  subst hy
  unfold f_operand_425
  rw [h.2.2.1.1, if_pos le00]
  refine zW_call (p_add hE h hC hv) ?_
  rintro ⟨R1, M1⟩ ⟨h1, -⟩
  refine zW_call (p_ahead hA hE.2.1 hk h1) ?_
  rintro ⟨R2, M2⟩ h2
  exact zW_some ⟨rfl, h2⟩
theorem o_425b (h : RS b fr R0 M0 ed tk k C O o w F R M) : zW (f_operand_411 qm R M) (fun r => r.1 = qi 1 ∧ RE b fr R0 M0 1 (tk k).2.2 r.2.1 r.2.2) := by
  unfold f_operand_411
  rw [if_pos (by rfl), show (1 : Int32) = qi 1 from rfl, p_blame h, o_bind]
  unfold f_operand_425
  refine zW_if0 ?_ (zW_some ⟨rfl, RE_mk h (by omega)⟩)
  show ¬ RB R 1 (tk k).2.2 0 8 ≤ 0
  rw [RB_8, q_lit, q_le (by omega) (by omega)]
  omega
theorem o_396 {s : Nat} (hs : s ≤ 5) (hE : EV b wo R0 t tl) (h : RS b fr R0 M0 ed tk k C O o w F R M) (hn : ¬ (4 ≤ s ∧ wo = 1)) (hwo : wo ≤ 1) : f_operand_396 (qi s) R M = f_operand_425 (qi s) R M := by
  have hm : ¬ qi s = -1 := q_nem (by omega)
  have e411 : f_operand_411 (qi s) R M = f_operand_425 (qi s) R M := by
    unfold f_operand_411
    rw [if_neg hm]
  unfold f_operand_396
  by_cases h3 : s ≤ 3
  · rw [if_pos (by rw [q_lit, q_le (by omega) (by omega)]; exact h3)]
    exact e411
  · rw [if_neg (by rw [q_lit, q_le (by omega) (by omega)]; exact h3), (RS_26 hE h).2, if_pos (by rw [q_lit, q_eq (by omega) (by omega)]; omega)]
    exact e411
theorem o_396b {s : Nat} (hs : s ≤ 5) (hE : EV b wo R0 t tl) (h : RS b fr R0 M0 ed tk k C O o w F R M) (hn : 4 ≤ s ∧ wo = 1) : f_operand_396 (qi s) R M = f_operand_411 qm R M := by
  unfold f_operand_396
  rw [if_neg (by rw [q_lit, q_le (by omega) (by omega)]; omega), (RS_26 hE h).2, hn.2, if_neg (by decide)]
  rfl
theorem o_396m (h : RS b fr R0 M0 ed tk k C O o w F R M) : f_operand_396 (-1) R M = f_operand_411 qm R M := by
  unfold f_operand_396
  rw [if_pos (by decide)]
  rfl
set_option maxHeartbeats 2000000 in
theorem o_chain (h : RS b fr R0 M0 ed tk k C O o w F R M) (h5 : (tk k).1 ≠ 5) (n1 : ¬ tS (tk k) 40) (n2 : ¬ tO (tk k) 21) (n3 : ¬ tO (tk k) 22) (n4 : ¬ tO (tk k) 16) : f_operand_171 R M = if (tk k).1 = 2 then f_operand_396 0 R M else if tO (tk k) 11 then f_operand_396 1 R M else if tO (tk k) 12 then f_operand_396 2 R M else if tO (tk k) 13 then f_operand_396 3 R M else if tO (tk k) 14 then f_operand_396 4 R M else if tO (tk k) 15 then f_operand_396 5 R M else f_operand_396 (-1) R M := by
  have hT := h.2.1.2
  have e3 : (R 0 3 = 2) ↔ (tk k).1 = 2 := by
    have hh := hT.2.2
    rcases hh with ⟨c, a, -⟩ | ⟨c, a, -⟩ | ⟨c, a, -⟩ | ⟨c, a, -⟩ | ⟨c, a, -⟩ | ⟨c, -⟩
    · rw [a, q_lit, q_eq (by omega) (by omega)]; omega
    · rw [a, q_lit, q_eq (by omega) (by omega)]; omega
    · rw [a, q_lit, q_eq (by omega) (by omega)]; omega
    · rw [a, q_lit, q_eq (by omega) (by omega)]; omega
    · rw [a, q_lit, q_eq (by omega) (by omega)]; omega
    · exact absurd c h5
  unfold f_operand_171
  rw [show (40 : Int32) = qi 40 from rfl, tk_sg hT h5 (by omega), if_neg n1, o_bind]
  dsimp only
  rw [if_pos (by rfl), wb_21 hT h5, if_neg n2]
  dsimp only
  rw [if_pos (by rfl), wb_22 hT h5, if_neg n3]
  dsimp only
  rw [if_pos (by rfl), wb_16 hT h5, if_neg n4]
  dsimp only
  rw [if_pos (by rfl)]
  by_cases g2 : (tk k).1 = 2
  · rw [if_pos (e3.mpr g2), if_pos g2]
  rw [if_neg (fun g => g2 (e3.mp g)), if_neg g2, wb_11 hT h5]
  dsimp only
  by_cases g11 : tO (tk k) 11
  · rw [if_pos g11, if_neg (by decide), if_pos g11]
  rw [if_neg g11, if_pos (by rfl), if_neg g11, wb_12 hT h5]
  dsimp only
  by_cases g12 : tO (tk k) 12
  · rw [if_pos g12, if_neg (by decide), if_pos g12]
  rw [if_neg g12, if_pos (by rfl), if_neg g12, wb_13 hT h5]
  dsimp only
  by_cases g13 : tO (tk k) 13
  · rw [if_pos g13, if_neg (by decide), if_pos g13]
  rw [if_neg g13, if_pos (by rfl), if_neg g13, wb_14 hT h5]
  dsimp only
  by_cases g14 : tO (tk k) 14
  · rw [if_pos g14, if_neg (by decide), if_pos g14]
  rw [if_neg g14, if_pos (by rfl), if_neg g14, wb_15 hT h5]
  dsimp only
  by_cases g15 : tO (tk k) 15
  · rw [if_pos g15, if_neg (by decide), if_pos g15]
  rw [if_neg g15, if_pos (by rfl), if_neg g15]
end
