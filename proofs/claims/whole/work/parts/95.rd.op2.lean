section
variable {b fr k o w tn tl l x ph bg pr bs wo f : Nat} {R0 R R' : zI} {M0 M M' : zL} {ed t : Nat → Nat} {tk : Nat → tkT} {T : tkT} {C C' O O' P : List Nat} {F F' Fr : List fmT}
abbrev tst (x : Nat) : Prop := x = 1 ∨ x = 5 ∨ x = 6
theorem f_tst (hx : x < 100) : f_isTest (qi x) = some (qi (if tst x then 1 else 0)) := by
  unfold f_isTest
  by_cases h1 : x = 1
  · rw [if_pos (by rw [h1]; rfl), if_pos (Or.inl h1)]; rfl
  rw [if_neg (by rw [q_lit, q_eq (by omega) (by omega)]; exact h1)]
  by_cases h5 : x = 5
  · rw [if_pos (by rw [h5]; rfl), if_pos (Or.inr (Or.inl h5))]; rfl
  rw [if_neg (by rw [q_lit, q_eq (by omega) (by omega)]; exact h5)]
  by_cases h6 : x = 6
  · rw [if_pos (by rw [h6]; rfl), if_pos (Or.inr (Or.inr h6))]; rfl
  rw [if_neg (by rw [q_lit, q_eq (by omega) (by omega)]; exact h6), if_neg (fun h => by rcases h with h | h | h <;> omega)]
  rfl
theorem o_lex (h : RS b fr R0 M0 ed tk k C O o w F R M) (h5 : (tk k).1 = 5) : zW (f_operand R M) (fun r => r.1 = qi 1 ∧ RE b fr R0 M0 1 (tk k).2.1 r.2.1 r.2.2) := by
  unfold f_operand
  rw [tk_lex5 h.2.1.2 h5 h.2.2.1.1, o_bind]
  refine zW_if0 ?_ (zW_some ⟨rfl, RE_mk h (by omega)⟩)
  show ¬ RB R 1 (tk k).2.1 0 8 ≤ 0
  rw [RB_8, q_lit, q_le (by omega) (by omega)]
  omega
theorem o_in (h : RS b fr R0 M0 ed tk k C O o w ((x, ph, bg, pr, bs) :: Fr) R M) (h5 : (tk k).1 ≠ 5) (hF : Fr.length < 20) (hx : x < 100) (hbg : bg ≤ 1) : f_operand R M = f_operand_46 (qi Fr.length) (qi (if tst x ∧ bg = 1 then 1 else 0)) R M := by
  have e33 : R 0 33 = qi (Fr.length + 1) := h.2.2.1.2.2.2.1
  have e33' : R 0 33 - 1 = qi Fr.length := by rw [e33, q_lit, q_sub (by omega), Nat.add_sub_cancel]
  obtain ⟨⟨e13, -, e15, -⟩, -⟩ := h.2.2.2.2.2
  unfold f_operand
  rw [tk_lex0 h.2.1.2 h5, o_bind]
  dsimp only
  have e13' : R 13 Fr.length = qi x := e13
  have e15' : R 15 Fr.length = qi bg := e15
  have hq := q_nn (a := Fr.length) (by omega)
  have hin : inB (qi Fr.length) 20 := q_inP hF (by omega)
  rw [if_pos (show R 0 8 ≤ 0 by rw [h.2.2.1.1]; exact le00), if_pos (show inB (R 0 33 - 1) 20 by rw [e33']; exact hin)]
  simp only [e33', hq, e13', f_tst hx, o_bind]
  by_cases ht : tst x
  · rw [if_pos ht, if_neg (by decide), if_pos hin]
    have hb : bg = 0 ∨ bg = 1 := by omega
    rcases hb with rfl | rfl
    · rw [if_pos (show R 15 Fr.length = 0 from e15'), if_neg (show ¬ (tst x ∧ 0 = 1) from fun h => absurd h.2 (by decide))]; rfl
    · rw [if_neg (show ¬ R 15 Fr.length = 0 by rw [e15']; decide), if_pos (show tst x ∧ 1 = 1 from ⟨ht, rfl⟩)]; rfl
  · rw [if_neg ht, if_pos (by rfl), if_neg (show ¬ (tst x ∧ bg = 1) from fun h => ht h.1)]; rfl
set_option maxHeartbeats 2000000 in
theorem o_171 (h : RS b fr R0 M0 ed tk k C O o w ((x, ph, bg, pr, bs) :: Fr) R M) (h5 : (tk k).1 ≠ 5) (hF : Fr.length < 20) (hx : x < 100) (hbg : bg ≤ 1) (hn : tst x → bg = 1 → ¬ tO (tk k) 19 ∧ ¬ tS (tk k) 91 ∧ ¬ tO (tk k) 20) : f_operand R M = f_operand_171 (z_uI R 15 Fr.length (qi 0)) M := by
  have h1 := p_15 (y := 0) h
  rw [o_in h h5 hF hx hbg]
  by_cases hf : tst x ∧ bg = 1
  · obtain ⟨n1, n2, n3⟩ := hn hf.1 hf.2
    rw [if_pos hf]
    unfold f_operand_46
    rw [if_neg (by decide), wb_19 h.2.1.2 h5, if_neg n1]
    dsimp only
    rw [if_pos (by rfl)]
    unfold f_operand_110
    rw [if_pos (q_inP (by omega) (by omega)), if_neg (by decide), nar_0, q_nn (by omega), show (91 : Int32) = qi 91 from rfl, tk_sg h1.2.1.2 h5 (by omega), if_neg n2, o_bind]
    dsimp only
    rw [if_pos (by rfl)]
    unfold f_operand_137
    rw [if_neg (by decide), wb_20 h1.2.1.2 h5, if_neg n3]
    dsimp only
    rw [if_pos (by rfl)]
  · rw [if_neg hf]
    unfold f_operand_46
    rw [if_pos (by rfl)]
    unfold f_operand_110
    rw [if_pos (q_inP (by omega) (by omega)), if_pos (by rfl), nar_0, q_nn (by omega)]
    unfold f_operand_137
    rw [if_pos (by rfl)]
theorem o_not (hA : AH t tl ed tk tn) (hT : tpR R0 t tl) (hk : k + 1 < tn) (h : RS b fr R0 M0 ed tk k C O o w ((x, ph, 1, pr, bs) :: Fr) R M) (hF : Fr.length < 20) (hx : x < 100) (ht : tst x) (hO : O.length < 500) (ho : o < 7) (hN : tO (tk k) 19) : zW (f_operand R M) (fun r => r.1 = qi 0 ∧ RS b fr R0 M0 ed tk (k + 1) C (17 :: O) (o + 1) w ((x, ph, 1, pr, bs) :: Fr) r.2.1 r.2.2) := by
  have hN1 := hN.1
  have hN2 := hN.2
  have h5 : (tk k).1 ≠ 5 := by omega
  have e34 : R 0 34 = qi o := h.2.2.1.2.2.2.2.1
  rw [o_in h h5 hF hx (by omega), if_pos ⟨ht, rfl⟩]
  unfold f_operand_46
  rw [if_neg (by decide), wb_19 h.2.1.2 h5, if_pos hN]
  dsimp only
  rw [if_neg (by decide), if_neg (show ¬ R 0 34 = 7 by rw [e34, q_lit, q_eq (by omega) (by omega)]; omega)]
  unfold f_operand_79
  rw [h.2.2.1.1, if_pos le00, e34, show (1 : Int32) = qi 1 from rfl, q_add]
  refine zW_call (p_hold (c := 17) (p_s34 h) hO) ?_
  rintro ⟨R1, M1⟩ h1
  refine zW_call (p_ahead hA hT hk h1) ?_
  rintro ⟨R2, M2⟩ h2
  exact zW_some ⟨rfl, h2⟩
theorem o_not7 (h : RS b fr R0 M0 ed tk k C O 7 w ((x, ph, 1, pr, bs) :: Fr) R M) (hF : Fr.length < 20) (hx : x < 100) (ht : tst x) (hN : tO (tk k) 19) : zW (f_operand R M) (fun r => r.1 = qi 1 ∧ RE b fr R0 M0 5 (tk k).2.2 r.2.1 r.2.2) := by
  have hN1 := hN.1
  have hN2 := hN.2
  have h5 : (tk k).1 ≠ 5 := by omega
  have e34 : R 0 34 = qi 7 := h.2.2.1.2.2.2.2.1
  rw [o_in h h5 hF hx (by omega), if_pos ⟨ht, rfl⟩]
  unfold f_operand_46
  rw [if_neg (by decide), wb_19 h.2.1.2 h5, if_pos hN]
  dsimp only
  rw [if_neg (by decide), if_pos (show R 0 34 = 7 from e34), show (5 : Int32) = qi 5 from rfl, p_blame h, o_bind]
  unfold f_operand_79
  refine zW_if0 ?_ (zW_some ⟨rfl, RE_mk h (by omega)⟩)
  show ¬ RB R 5 (tk k).2.2 0 8 ≤ 0
  rw [RB_8, q_lit, q_le (by omega) (by omega)]
  omega
theorem o_brk0 (h : RS b fr R0 M0 ed tk k C O o w ((x, ph, 1, pr, bs) :: Fr) R M) (hF : Fr.length < 20) (hx : x < 100) (ht : tst x) (hN : tS (tk k) 91) : f_operand R M = (f_opens (qi 5) (z_uI R 15 Fr.length (qi 0)) M).bind fun r3 => some (0, r3.1, r3.2) := by
  have hN1 := hN.1
  have hN2 := hN.2
  have h5 : (tk k).1 ≠ 5 := by omega
  have h1 := p_15 (y := 0) h
  rw [o_in h h5 hF hx (by omega), if_pos ⟨ht, rfl⟩]
  unfold f_operand_46
  rw [if_neg (by decide), wb_19 h.2.1.2 h5, if_neg (nO (by omega))]
  dsimp only
  rw [if_pos (by rfl)]
  unfold f_operand_110
  rw [if_pos (q_inP (by omega) (by omega)), if_neg (by decide), nar_0, q_nn (by omega), show (91 : Int32) = qi 91 from rfl, tk_sg h1.2.1.2 h5 (by omega), if_pos hN, o_bind]
  dsimp only
  rw [if_neg (by decide)]
  rfl
theorem o_brk (hA : AH t tl ed tk tn) (hT : tpR R0 t tl) (hk : k + 1 < tn) (h : RS b fr R0 M0 ed tk k C O o w ((x, ph, 1, pr, bs) :: Fr) R M) (hF : Fr.length + 1 < 20) (hx : x < 100) (ht : tst x) (ho : o < 7) (hN : tS (tk k) 91) : zW (f_operand R M) (fun r => r.1 = qi 0 ∧ RS b fr R0 M0 ed tk (k + 1) C O (o + 1) w ((5, 0, 1, 0, O.length) :: (x, ph, 0, pr, bs) :: Fr) r.2.1 r.2.2) := by
  rw [o_brk0 h (by omega) hx ht hN]
  refine zW_call (p_opens (F := (x, ph, 0, pr, bs) :: Fr) hA hT hk ho hF (p_15 (y := 0) h)) ?_
  rintro ⟨R1, M1⟩ h1
  exact zW_some ⟨rfl, h1⟩
theorem o_brk7 (h : RS b fr R0 M0 ed tk k C O 7 w ((x, ph, 1, pr, bs) :: Fr) R M) (hF : Fr.length < 20) (hx : x < 100) (ht : tst x) (hN : tS (tk k) 91) : zW (f_operand R M) (fun r => r.1 = qi 0 ∧ RE b fr R0 M0 5 (tk k).2.2 r.2.1 r.2.2) := by
  rw [o_brk0 h (by omega) hx ht hN, p_opens7 (p_15 (y := 0) h), o_bind]
  exact zW_some ⟨rfl, RE_mk (p_15 (y := 0) h) (by omega)⟩
theorem o_all (hA : AH t tl ed tk tn) (hE : EV b wo R0 t tl) (hk : k + 1 < tn) (h : RS b fr R0 M0 ed tk k C O o w ((x, ph, 1, pr, bs) :: Fr) R M) (hF : Fr.length < 20) (hx : x < 100) (ht : tst x) (hC : fr + C.length < 1600) (hN : tO (tk k) 20) : zW (f_operand R M) (fun r => r.1 = qi 1 ∧ RS b fr R0 M0 ed tk (k + 1) (C ++ [50]) O o w ((x, 2, 0, pr, bs) :: Fr) r.2.1 r.2.2) := by
  have hN1 := hN.1
  have hN2 := hN.2
  have h5 : (tk k).1 ≠ 5 := by omega
  have h1 := p_15 (y := 0) h
  rw [o_in h h5 hF hx (by omega), if_pos ⟨ht, rfl⟩]
  unfold f_operand_46
  rw [if_neg (by decide), wb_19 h.2.1.2 h5, if_neg (nO (by omega))]
  dsimp only
  rw [if_pos (by rfl)]
  unfold f_operand_110
  rw [if_pos (q_inP (by omega) (by omega)), if_neg (by decide), nar_0, q_nn (by omega), show (91 : Int32) = qi 91 from rfl, tk_sg h1.2.1.2 h5 (by omega), if_neg (nS (by omega)), o_bind]
  dsimp only
  rw [if_pos (by rfl)]
  unfold f_operand_137
  rw [if_neg (by decide), wb_20 h1.2.1.2 h5, if_pos hN]
  dsimp only
  rw [if_neg (by decide)]
  refine zW_call (p_add (c := 50) (y := 0) hE h1 hC (fun h => by omega)) ?_
  rintro ⟨R1, M1⟩ ⟨h2, -⟩
  dsimp only at h2 ⊢
  rw [if_pos (q_inP (by omega) (by omega)), q_nn (by omega), show (2 : Int32) = qi 2 from rfl]
  refine zW_call (p_ahead hA hE.2.1 hk (p_14 h2)) ?_
  rintro ⟨R2, M2⟩ h3
  exact zW_some ⟨rfl, h3⟩
end
