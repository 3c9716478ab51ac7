section
variable {b fr k o w tn tl l x ph bg pr bs wo f : Nat} {R0 R R' : zI} {M0 M M' : zL} {ed t : Nat → Nat} {tk : Nat → tkT} {T : tkT} {C C' O O' P : List Nat} {F F' Fr : List fmT}
def cmC (c : Nat) : Nat := if c = 14 then 60 else if c = 15 then 62 else 61
theorem g_264 {c : Nat} (hA : AH t tl ed tk tn) (hT : tpR R0 t tl) (hk : k + 1 < tn) (hO : O.length < 500) (hF : Fr.length < 20) (h : RS b fr R0 M0 ed tk k C O o w ((x, ph, bg, pr, bs) :: Fr) R M) : zW (f_goesOn_264 (qi Fr.length) (qi (rsOf c)) R M) (fun r => r.1 = qi 1 ∧ RS b fr R0 M0 ed tk (k + 1) C (c :: O) o 0 ((x, 1, bg, pr, bs) :: Fr) r.2.1 r.2.2) := by
  unfold f_goesOn_264
  refine zW_call (p_hold h hO) ?_
  rintro ⟨R1, M1⟩ h1
  dsimp only at h1 ⊢
  rw [if_pos (q_inP (by omega) (by omega)), q_nn (by omega), show (1 : Int32) = qi 1 from rfl]
  refine zW_call (p_ahead hA hT hk (p_14 h1)) ?_
  rintro ⟨R2, M2⟩ h2
  exact zW_some ⟨rfl, p_s37 h2⟩
set_option maxHeartbeats 4000000 in
theorem g_cmp {c : Nat} (hA : AH t tl ed tk tn) (hE : EV b wo R0 t tl) (hk : k + 1 < tn) (hc : 14 ≤ c ∧ c ≤ 16) (hs : tS (tk k) (cmC c)) (ht : tst x) (hx : x < 100) (hP : pnd 5 P) (hlow : low 5 bs O) (hbs : bs ≤ O.length) (hln : P.length + O.length < 500) (hC : fr + C.length + P.length ≤ 1600) (hF : Fr.length < 20) (ho : o < 100) (h : RS b fr R0 M0 ed tk k C (P ++ O) o w ((x, 0, bg, pr, bs) :: Fr) R M) : zW (f_goesOn R M) (fun r => r.1 = qi 1 ∧ RS b fr R0 M0 ed tk (k + 1) (C ++ P) (c :: O) o 0 ((x, 1, bg, pr, bs) :: Fr) r.2.1 r.2.2) := by
  have e3 : c = 14 ∨ c = 15 ∨ c = 16 := by omega
  have s1 := hs.1
  have s2 := hs.2
  have h5 : (tk k).1 ≠ 5 := by omega
  have hT := h.2.1.2
  have e14 : R 14 Fr.length = qi 0 := h.2.2.2.2.2.1.2.1
  have hn0 : nots P = 0 := nots_0 (pnd_le hP (by omega))
  have hj : zW (f_joins (qi 5) R M) (fun r => RS b fr R0 M0 ed tk k (C ++ P) O o w ((x, 0, bg, pr, bs) :: Fr) r.1 r.2) := by
    have := p_joins hE (show 5 ≤ 6 by omega) hP hlow hbs hln hC hF (by omega) ho h
    rw [hn0] at this
    exact this
  have hna : ¬ ari (tk k) := fun g => by
    have g2 := g.2
    rcases e3 with rfl | rfl | rfl
    · have : (tk k).2.1 = 60 := s2
      omega
    · have : (tk k).2.1 = 62 := s2
      omega
    · have : (tk k).2.1 = 61 := s2
      omega
  have hfin : ∀ r : zI × zL, RS b fr R0 M0 ed tk k (C ++ P) O o w ((x, 0, bg, pr, bs) :: Fr) r.1 r.2 → zW (f_goesOn_264 (qi Fr.length) (qi (rsOf c)) r.1 r.2) (fun r => r.1 = qi 1 ∧ RS b fr R0 M0 ed tk (k + 1) (C ++ P) (c :: O) o 0 ((x, 1, bg, pr, bs) :: Fr) r.2.1 r.2.2) := fun r hr => g_264 hA hE.2.1 hk (by omega) hF hr
  have h228 : zW (f_goesOn_228 (qi Fr.length) R M) (fun r => r.1 = qi 1 ∧ RS b fr R0 M0 ed tk (k + 1) (C ++ P) (c :: O) o 0 ((x, 1, bg, pr, bs) :: Fr) r.2.1 r.2.2) := by
    unfold f_goesOn_228
    refine zW_call hj ?_
    rintro ⟨R1, M1⟩ h1
    dsimp only at h1 ⊢
    rw [show (60 : Int32) = qi 60 from rfl, tk_sg h1.2.1.2 h5 (by omega), o_bind]
    dsimp only
    rcases e3 with rfl | rfl | rfl
    · rw [if_pos (show tS (tk k) 60 from hs), if_neg (by decide)]
      exact hfin (R1, M1) h1
    · have s2 : (tk k).2.1 = 62 := s2
      rw [if_neg (nS (by omega)), if_pos (by rfl), show (62 : Int32) = qi 62 from rfl, tk_sg h1.2.1.2 h5 (by omega), o_bind]
      dsimp only
      rw [if_pos (show tS (tk k) 62 from hs), if_neg (by decide)]
      exact hfin (R1, M1) h1
    · have s2 : (tk k).2.1 = 61 := s2
      rw [if_neg (nS (by omega)), if_pos (by rfl), show (62 : Int32) = qi 62 from rfl, tk_sg h1.2.1.2 h5 (by omega), o_bind]
      dsimp only
      rw [if_neg (nS (by omega)), if_pos (by rfl)]
      exact hfin (R1, M1) h1
  rw [g_in h h5 hF hx (by omega), if_neg (fun g => hna g.2), if_pos ht]
  unfold f_goesOn_188
  rw [if_neg (by decide), if_pos (q_inP (by omega) (by omega)), q_nn (by omega), e14, if_pos (by rfl), show (60 : Int32) = qi 60 from rfl, tk_sg hT h5 (by omega), o_bind]
  dsimp only
  rcases e3 with rfl | rfl | rfl
  · rw [if_pos (show tS (tk k) 60 from hs), if_neg (by decide)]
    exact h228
  · have s2 : (tk k).2.1 = 62 := s2
    rw [if_neg (nS (by omega)), if_pos (by rfl), show (62 : Int32) = qi 62 from rfl, tk_sg hT h5 (by omega), o_bind]
    dsimp only
    rw [if_pos (show tS (tk k) 62 from hs), if_neg (by decide)]
    exact h228
  · have s2 : (tk k).2.1 = 61 := s2
    rw [if_neg (nS (by omega)), if_pos (by rfl), show (62 : Int32) = qi 62 from rfl, tk_sg hT h5 (by omega), o_bind]
    dsimp only
    rw [if_neg (nS (by omega)), if_pos (by rfl), show (61 : Int32) = qi 61 from rfl, tk_sg hT h5 (by omega), o_bind]
    dsimp only
    rw [if_pos (show tS (tk k) 61 from hs), if_neg (by decide)]
    exact h228
/-- past the comparisons -/
theorem g_285 (h : RS b fr R0 M0 ed tk k C O o w ((x, ph, bg, pr, bs) :: Fr) R M) (h5 : (tk k).1 ≠ 5) (hF : Fr.length < 20) (hx : x < 100) (hph : ph < 100) (na : ph < 2 → ¬ ari (tk k)) (nc : tst x → ph = 0 → ¬ cmS (tk k)) : f_goesOn R M = f_goesOn_285 (qi Fr.length) (qi x) (qi (if tst x then 1 else 0)) R M := by
  have hT := h.2.1.2
  have e14 : R 14 Fr.length = qi ph := h.2.2.2.2.2.1.2.1
  rw [g_in h h5 hF hx hph, if_neg (fun g => na g.1 g.2)]
  unfold f_goesOn_188
  by_cases ht : tst x
  · rw [if_pos ht, if_neg (by decide), if_pos (q_inP (by omega) (by omega)), q_nn (by omega), e14]
    by_cases h0 : ph = 0
    · have nc' := nc ht h0
      rw [if_pos (by rw [h0]; rfl), show (60 : Int32) = qi 60 from rfl, tk_sg hT h5 (by omega), o_bind]
      dsimp only
      rw [if_neg (show ¬ tS (tk k) 60 from fun g => nc' ⟨g.1, Or.inl g.2⟩), if_pos (by rfl), show (62 : Int32) = qi 62 from rfl, tk_sg hT h5 (by omega), o_bind]
      dsimp only
      rw [if_neg (show ¬ tS (tk k) 62 from fun g => nc' ⟨g.1, Or.inr (Or.inl g.2)⟩), if_pos (by rfl), show (61 : Int32) = qi 61 from rfl, tk_sg hT h5 (by omega), o_bind]
      dsimp only
      rw [if_neg (show ¬ tS (tk k) 61 from fun g => nc' ⟨g.1, Or.inr (Or.inr g.2)⟩), if_pos (by rfl)]
    · rw [if_neg (by rw [q_lit, q_eq (by omega) (by omega)]; exact h0)]
  · rw [if_neg ht, if_pos (by rfl)]
theorem g_309 (h : RS b fr R0 M0 ed tk k C O o w ((x, ph, bg, pr, bs) :: Fr) R M) (hF : Fr.length < 20) (hx : x < 100) (hph : ph < 100) (ht : tst x) (hj : cnj (tk k)) : f_goesOn R M = f_goesOn_309 (qi Fr.length) R M := by
  obtain ⟨j1, j2⟩ := id hj
  have h5 : (tk k).1 ≠ 5 := by omega
  have hT := h.2.1.2
  rw [g_285 h h5 hF hx hph (fun _ g => by have := g.1; omega) (fun _ _ g => by have := g.1; omega), if_pos ht]
  unfold f_goesOn_285
  rw [if_neg (by decide), wb_18 hT h5]
  dsimp only
  by_cases c : tO (tk k) 18
  · rw [if_pos c, if_neg (by decide)]
  · rw [if_neg c, if_pos (by rfl), wb_17 hT h5]
    dsimp only
    have c17 : tO (tk k) 17 := ⟨j1, by
      rcases j2 with g | g
      · exact absurd ⟨j1, g⟩ c
      · exact g⟩
    rw [if_pos c17, if_neg (by decide)]
theorem g_372 {c : Nat} (hA : AH t tl ed tk tn) (hT : tpR R0 t tl) (hk : k + 1 < tn) (hO : O.length < 500) (hF : Fr.length < 20) (h : RS b fr R0 M0 ed tk k C O o w ((x, ph, bg, pr, bs) :: Fr) R M) : zW (f_goesOn_372 (qi Fr.length) (qi (rsOf c)) R M) (fun r => r.1 = qi 1 ∧ RS b fr R0 M0 ed tk (k + 1) C (c :: O) o 0 ((x, 0, 1, pr, bs) :: Fr) r.2.1 r.2.2) := by
  unfold f_goesOn_372
  refine zW_call (p_hold h hO) ?_
  rintro ⟨R1, M1⟩ h1
  dsimp only at h1 ⊢
  rw [if_pos (q_inP (by omega) (by omega)), if_pos (q_inP (by omega) (by omega)), q_nn (by omega), nar_1, show (0 : Int32) = qi 0 from rfl]
  refine zW_call (p_ahead hA hT hk (p_15 (p_14 h1))) ?_
  rintro ⟨R2, M2⟩ h2
  exact zW_some ⟨rfl, p_s37 h2⟩
set_option maxHeartbeats 4000000 in
theorem g_and {c : Nat} (hA : AH t tl ed tk tn) (hE : EV b wo R0 t tl) (hk : k + 1 < tn) (hc : c = 12 ∨ c = 13) (hs : tO (tk k) (if c = 13 then 18 else 17)) (ht : tst x) (hx : x < 100) (hp1 : 1 ≤ ph) (hph : ph < 100) (hP : pnd (rk c) P) (hlow : low (rk c) bs O) (hbs : bs ≤ O.length) (hln : P.length + O.length < 500) (hC : fr + C.length + P.length ≤ 1600) (hF : Fr.length < 20) (hn : nots P ≤ o) (ho : o < 100) (h : RS b fr R0 M0 ed tk k C (P ++ O) o w ((x, ph, bg, pr, bs) :: Fr) R M) : zW (f_goesOn R M) (fun r => r.1 = qi 1 ∧ RS b fr R0 M0 ed tk (k + 1) (C ++ P) (c :: O) (o - nots P) 0 ((x, 0, 1, pr, bs) :: Fr) r.2.1 r.2.2) := by
  have s1 := hs.1
  have s2 := hs.2
  have h5 : (tk k).1 ≠ 5 := by omega
  have hT := h.2.1.2
  have e14 : R 14 Fr.length = qi ph := h.2.2.2.2.2.1.2.1
  have hj := p_joins hE (show rk c ≤ 6 by
    rcases hc with rfl | rfl
    · decide
    · decide) hP hlow hbs hln hC hF hn ho h
  rw [g_309 h hF hx hph ht ⟨s1, by
    rcases hc with rfl | rfl
    · exact Or.inr s2
    · exact Or.inl s2⟩]
  unfold f_goesOn_309
  rw [if_pos (q_inP (by omega) (by omega)), q_nn (by omega), e14, if_neg (by rw [q_lit, q_eq (by omega) (by omega)]; omega)]
  unfold f_goesOn_327
  rw [h.2.2.1.1, if_pos le00, wb_18 hT h5]
  dsimp only
  rcases hc with rfl | rfl
  · have s2 : (tk k).2.1 = 17 := s2
    rw [if_neg (nO (by omega)), if_pos (by rfl)]
    unfold f_goesOn_356
    refine zW_call hj ?_
    rintro ⟨R1, M1⟩ h1
    rw [if_pos (by rfl)]
    exact g_372 (c := 12) hA hE.2.1 hk (by omega) hF h1
  · rw [if_pos (show tO (tk k) 18 from hs), if_neg (by decide)]
    unfold f_goesOn_356
    refine zW_call hj ?_
    rintro ⟨R1, M1⟩ h1
    rw [if_neg (by decide)]
    exact g_372 (c := 13) hA hE.2.1 hk (by omega) hF h1
theorem g_andE (h : RS b fr R0 M0 ed tk k C O o w ((x, 0, bg, pr, bs) :: Fr) R M) (hF : Fr.length < 20) (hx : x < 100) (ht : tst x) (hj : cnj (tk k)) : zW (f_goesOn R M) (fun r => r.1 = qi 0 ∧ RE b fr R0 M0 1 (tk k).2.2 r.2.1 r.2.2) := by
  have e14 : R 14 Fr.length = qi 0 := h.2.2.2.2.2.1.2.1
  rw [g_309 h hF hx (by omega) ht hj]
  unfold f_goesOn_309
  rw [if_pos (q_inP (by omega) (by omega)), q_nn (by omega), e14, if_pos (by rfl), show (1 : Int32) = qi 1 from rfl, p_blame h, o_bind]
  unfold f_goesOn_327
  refine zW_if0 ?_ (zW_some ⟨rfl, RE_mk h (by omega)⟩)
  show ¬ RB R 1 (tk k).2.2 0 8 ≤ 0
  rw [RB_8, q_lit, q_le (by omega) (by omega)]
  omega
theorem g_400 (h : RS b fr R0 M0 ed tk k C O o w ((x, ph, bg, pr, bs) :: Fr) R M) (h5 : (tk k).1 ≠ 5) (hF : Fr.length < 20) (hx : x < 100) (hph : ph < 100) (na : ph < 2 → ¬ ari (tk k)) (nc : tst x → ph = 0 → ¬ cmS (tk k)) (nj : tst x → ¬ cnj (tk k)) : f_goesOn R M = f_goesOn_400 (qi Fr.length) (qi x) (qi (if tst x then 1 else 0)) R M := by
  have hT := h.2.1.2
  rw [g_285 h h5 hF hx hph na nc]
  unfold f_goesOn_285
  by_cases ht : tst x
  · have nj' := nj ht
    rw [if_pos ht, if_neg (by decide), wb_18 hT h5]
    dsimp only
    rw [if_neg (show ¬ tO (tk k) 18 from fun g => nj' ⟨g.1, Or.inl g.2⟩), if_pos (by rfl), wb_17 hT h5]
    dsimp only
    rw [if_neg (show ¬ tO (tk k) 17 from fun g => nj' ⟨g.1, Or.inr g.2⟩), if_pos (by rfl)]
  · rw [if_neg ht, if_pos (by rfl)]
theorem bl_E {pl : Nat} {y z : Int32} (h : RE b fr R0 M0 f pl R M) : f_blame y z R M = some (R, M) := by
  obtain ⟨-, h8, -, hf, hf'⟩ := h
  unfold f_blame
  rw [if_neg]
  rw [h8, q_lit, q_le (by omega) (by omega)]
  omega
theorem sg_any (y : Int32) : ∃ z, f_isSign y R M = some (z, R, M) := by
  unfold f_isSign
  by_cases c1 : R 0 3 = 3
  · rw [if_pos c1]
    by_cases c2 : R 0 6 = y
    · rw [if_pos c2]; exact ⟨_, rfl⟩
    · rw [if_neg c2]; exact ⟨_, rfl⟩
  · rw [if_neg c1]; exact ⟨_, rfl⟩
theorem RE_gt {pl : Nat} (h : RE b fr R0 M0 f pl R M) : ¬ R 0 8 ≤ 0 ∧ ¬ R 0 8 = 0 := by
  obtain ⟨-, h8, -, hf, hf'⟩ := h
  rw [h8]
  constructor
  · rw [q_lit, q_le (by omega) (by omega)]; omega
  · rw [q_lit, q_eq (by omega) (by omega)]; omega
theorem g_470E {pl : Nat} {y z : Int32} (h : RE b fr R0 M0 f pl R M) : zW (f_goesOn_470 y z R M) (fun r => r.1 = qi 0 ∧ RE b fr R0 M0 f pl r.2.1 r.2.2) := by
  unfold f_goesOn_470
  exact zW_if0 (RE_gt h).1 (zW_some ⟨rfl, h⟩)
theorem g_546E {pl : Nat} {y z : Int32} (h : RE b fr R0 M0 f pl R M) : zW (f_goesOn_546 y z R M) (fun r => r.1 = qi 0 ∧ RE b fr R0 M0 f pl r.2.1 r.2.2) := by
  unfold f_goesOn_546
  exact zW_if0 (RE_gt h).1 (zW_some ⟨rfl, h⟩)
theorem g_422E {pl : Nat} {y z : Int32} (h : RE b fr R0 M0 f pl R M) : zW (f_goesOn_422 y z R M) (fun r => r.1 = qi 0 ∧ RE b fr R0 M0 f pl r.2.1 r.2.2) := by
  have g452 : zW (f_goesOn_452 y z R M) (fun r => r.1 = qi 0 ∧ RE b fr R0 M0 f pl r.2.1 r.2.2) := by
    unfold f_goesOn_452
    obtain ⟨v, hv⟩ := sg_any (R := R) (M := M) 44
    refine zW_is hv ?_
    dsimp only
    refine zW_ite (fun _ => zW_is (bl_E h) (g_470E h)) (fun _ => g_470E h)
  have g531 : ∀ s, zW (f_goesOn_531 y z s R M) (fun r => r.1 = qi 0 ∧ RE b fr R0 M0 f pl r.2.1 r.2.2) := fun s => by
    unfold f_goesOn_531
    obtain ⟨v, hv⟩ := sg_any (R := R) (M := M) s
    refine zW_is hv ?_
    dsimp only
    refine zW_ite (fun _ => zW_is (bl_E h) (g_546E h)) (fun _ => g_546E h)
  unfold f_goesOn_422
  refine zW_ite (fun _ => ?_) (fun _ => zW_if0 (RE_gt h).2 (zW_some ⟨rfl, h⟩))
  refine zW_ite (fun _ => g452) (fun _ => zW_ite (fun _ => g452) (fun _ => zW_ite (fun _ => g531 _) (fun _ => g531 _)))
theorem g_0E (h : RS b fr R0 M0 ed tk k C O o w ((x, 0, bg, pr, bs) :: Fr) R M) (h5 : (tk k).1 ≠ 5) (hF : Fr.length < 20) (hx : x < 100) (ht : tst x) (na : ¬ ari (tk k)) (nc : ¬ cmS (tk k)) : zW (f_goesOn R M) (fun r => r.1 = qi 0 ∧ RE b fr R0 M0 1 (tk k).2.2 r.2.1 r.2.2) := by
  by_cases nj : cnj (tk k)
  · exact g_andE h hF hx ht nj
  have e14 : R 14 Fr.length = qi 0 := h.2.2.2.2.2.1.2.1
  rw [g_400 h h5 hF hx (by omega) (fun _ => na) (fun _ _ => nc) (fun _ => nj), if_pos ht]
  unfold f_goesOn_400
  rw [if_neg (by decide), if_pos (q_inP (by omega) (by omega)), q_nn (by omega), e14, if_pos (by rfl), show (1 : Int32) = qi 1 from rfl, p_blame h, o_bind]
  exact g_422E (RE_mk h (by omega))
theorem g_422 (h : RS b fr R0 M0 ed tk k C O o w ((x, ph, bg, pr, bs) :: Fr) R M) (h5 : (tk k).1 ≠ 5) (hF : Fr.length < 20) (hx : x < 100) (hph : ph < 100) (na : ph < 2 → ¬ ari (tk k)) (hp : tst x → ph ≠ 0) (nj : tst x → ¬ cnj (tk k)) : f_goesOn R M = f_goesOn_422 (qi Fr.length) (qi x) R M := by
  have e14 : R 14 Fr.length = qi ph := h.2.2.2.2.2.1.2.1
  rw [g_400 h h5 hF hx hph na (fun ht e => absurd e (hp ht)) nj]
  unfold f_goesOn_400
  by_cases ht : tst x
  · rw [if_pos ht, if_neg (by decide), if_pos (q_inP (by omega) (by omega)), q_nn (by omega), e14, if_neg (by rw [q_lit, q_eq (by omega) (by omega)]; exact hp ht)]
  · rw [if_neg ht, if_pos (by rfl)]
end
