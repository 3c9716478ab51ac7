section
variable {b fr k o w tn tl l x ph bg pr bs wo f : Nat} {R0 R R' : zI} {M0 M M' : zL} {ed t : Nat → Nat} {tk : Nat → tkT} {T : tkT} {C C' O O' P : List Nat} {F F' Fr : List fmT}
abbrev ari (T : tkT) : Prop := T.1 = 1 ∧ (T.2.1 = 43 ∨ T.2.1 = 45 ∨ T.2.1 = 42 ∨ T.2.1 = 47 ∨ T.2.1 = 37)
abbrev cmS (T : tkT) : Prop := T.1 = 1 ∧ (T.2.1 = 60 ∨ T.2.1 = 62 ∨ T.2.1 = 61)
abbrev cnj (T : tkT) : Prop := T.1 = 4 ∧ (T.2.1 = 18 ∨ T.2.1 = 17)
theorem nots_0 : ∀ {P : List Nat}, pnd 4 P → nots P = 0 := by
  intro P
  induction P with
  | nil => intro _; rfl
  | cons a P ih =>
    intro h
    have ha := (h a List.mem_cons_self).2
    have h2 := ih (fun x hx => h x (List.mem_cons_of_mem _ hx))
    show (if a = 17 then 1 else 0) + nots P = 0
    rw [if_neg (fun e => by subst e; exact absurd ha (by decide)), h2]
theorem pnd_le {l' : Nat} (h : pnd l P) (hl : l' ≤ l) : pnd l' P := fun a ha => ⟨(h a ha).1, Nat.le_trans hl (h a ha).2⟩
theorem g_lex (h : RS b fr R0 M0 ed tk k C O o w F R M) (h5 : (tk k).1 = 5) : zW (f_goesOn R M) (fun r => r.1 = qi 0 ∧ RE b fr R0 M0 1 (tk k).2.1 r.2.1 r.2.2) := by
  unfold f_goesOn
  rw [tk_lex5 h.2.1.2 h5 h.2.2.1.1, o_bind]
  refine zW_if0 ?_ (zW_some ⟨rfl, RE_mk h (by omega)⟩)
  show ¬ RB R 1 (tk k).2.1 0 8 ≤ 0
  rw [RB_8, q_lit, q_le (by omega) (by omega)]
  omega
theorem d_33 (h : RS b fr R0 M0 ed tk k C O o w ((x, ph, bg, pr, bs) :: Fr) R M) : R 0 33 - 1 = qi Fr.length := by
  have e33 : R 0 33 = qi (Fr.length + 1) := h.2.2.1.2.2.2.1
  rw [e33, q_lit, q_sub (by omega), Nat.add_sub_cancel]
set_option maxHeartbeats 2000000 in
theorem g_in (h : RS b fr R0 M0 ed tk k C O o w ((x, ph, bg, pr, bs) :: Fr) R M) (h5 : (tk k).1 ≠ 5) (hF : Fr.length < 20) (hx : x < 100) (hph : ph < 100) : f_goesOn R M = if ph < 2 ∧ ari (tk k) then f_goesOn_87 R M else f_goesOn_188 (qi Fr.length) (qi x) (qi (if tst x then 1 else 0)) R M := by
  have hT := h.2.1.2
  obtain ⟨⟨e13, e14, -⟩, -⟩ := h.2.2.2.2.2
  unfold f_goesOn
  rw [tk_lex0 hT h5, o_bind]
  dsimp only
  have e13' : R 13 Fr.length = qi x := e13
  have e14' : R 14 Fr.length = qi ph := e14
  have hq := q_nn (a := Fr.length) (by omega)
  have hin : inB (qi Fr.length) 20 := q_inP hF (by omega)
  rw [if_pos (show R 0 8 ≤ 0 by rw [h.2.2.1.1]; exact le00), if_pos (show inB (R 0 33 - 1) 20 by rw [d_33 h]; exact hin)]
  simp only [d_33 h, hq, e13', f_tst hx, o_bind, if_pos hin]
  by_cases hp : ph < 2
  · rw [if_neg (show ¬ 2 ≤ R 14 Fr.length by rw [e14', q_lit, q_le (by omega) (by omega)]; omega), show (43 : Int32) = qi 43 from rfl, tk_sg hT h5 (by omega), o_bind]
    dsimp only
    by_cases c1 : tS (tk k) 43
    · rw [if_pos c1, if_neg (by decide), if_pos (show ph < 2 ∧ ari (tk k) from ⟨hp, c1.1, by have := c1.2; omega⟩)]
    rw [if_neg c1, if_pos (by rfl), show (45 : Int32) = qi 45 from rfl, tk_sg hT h5 (by omega), o_bind]
    dsimp only
    by_cases c2 : tS (tk k) 45
    · rw [if_pos c2, if_neg (by decide), if_pos (show ph < 2 ∧ ari (tk k) from ⟨hp, c2.1, by have := c2.2; omega⟩)]
    rw [if_neg c2, if_pos (by rfl), show (42 : Int32) = qi 42 from rfl, tk_sg hT h5 (by omega), o_bind]
    dsimp only
    by_cases c3 : tS (tk k) 42
    · rw [if_pos c3, if_neg (by decide), if_pos (show ph < 2 ∧ ari (tk k) from ⟨hp, c3.1, by have := c3.2; omega⟩)]
    rw [if_neg c3, if_pos (by rfl), show (47 : Int32) = qi 47 from rfl, tk_sg hT h5 (by omega), o_bind]
    dsimp only
    by_cases c4 : tS (tk k) 47
    · rw [if_pos c4, if_neg (by decide), if_pos (show ph < 2 ∧ ari (tk k) from ⟨hp, c4.1, by have := c4.2; omega⟩)]
    rw [if_neg c4, if_pos (by rfl), show (37 : Int32) = qi 37 from rfl, tk_sg hT h5 (by omega), o_bind]
    dsimp only
    by_cases c5 : tS (tk k) 37
    · rw [if_pos c5, if_neg (by decide), if_pos (show ph < 2 ∧ ari (tk k) from ⟨hp, c5.1, by have := c5.2; omega⟩)]
    rw [if_neg c5, if_pos (by rfl), if_neg (c := ph < 2 ∧ ari (tk k))]
    rintro ⟨-, g1, g⟩
    rcases g with g | g | g | g | g
    · exact c1 ⟨g1, g⟩
    · exact c2 ⟨g1, g⟩
    · exact c3 ⟨g1, g⟩
    · exact c4 ⟨g1, g⟩
    · exact c5 ⟨g1, g⟩
  · rw [if_pos (show 2 ≤ R 14 Fr.length by rw [e14', q_lit, q_le (by omega) (by omega)]; omega), if_neg (show ¬ (ph < 2 ∧ ari (tk k)) from fun g => hp g.1)]
/-- an op that joins numbers: its sign, what it is called -/
def arS (c : Nat) : Nat := if c = 5 then 43 else if c = 6 then 45 else if c = 7 then 42 else if c = 8 then 47 else 37
theorem g_174 {c : Nat} (hA : AH t tl ed tk tn) (hT : tpR R0 t tl) (hk : k + 1 < tn) (hO : O.length < 500) (h : RS b fr R0 M0 ed tk k C O o w F R M) : zW (f_goesOn_174 (qi (rsOf c)) R M) (fun r => r.1 = qi 1 ∧ RS b fr R0 M0 ed tk (k + 1) C (c :: O) o 0 F r.2.1 r.2.2) := by
  unfold f_goesOn_174
  refine zW_call (p_hold h hO) ?_
  rintro ⟨R1, M1⟩ h1
  refine zW_call (p_ahead hA hT hk h1) ?_
  rintro ⟨R2, M2⟩ h2
  exact zW_some ⟨rfl, p_s37 h2⟩
set_option maxHeartbeats 4000000 in
theorem g_ari {c : Nat} (hA : AH t tl ed tk tn) (hE : EV b wo R0 t tl) (hk : k + 1 < tn) (hc : 5 ≤ c ∧ c ≤ 9) (hs : tS (tk k) (arS c)) (hph : ph < 2) (hx : x < 100) (hP : pnd (rk c) P) (hlow : low (rk c) bs O) (hbs : bs ≤ O.length) (hln : P.length + O.length < 500) (hC : fr + C.length + P.length ≤ 1600) (hF : Fr.length < 20) (ho : o < 100) (h : RS b fr R0 M0 ed tk k C (P ++ O) o w ((x, ph, bg, pr, bs) :: Fr) R M) : zW (f_goesOn R M) (fun r => r.1 = qi 1 ∧ RS b fr R0 M0 ed tk (k + 1) (C ++ P) (c :: O) o 0 ((x, ph, bg, pr, bs) :: Fr) r.2.1 r.2.2) := by
  obtain ⟨s1, s2⟩ := id hs
  have h5 : (tk k).1 ≠ 5 := by omega
  have hT := h.2.1.2
  have hn0 : nots P = 0 := nots_0 (pnd_le hP (by
    have e : c = 5 ∨ c = 6 ∨ c = 7 ∨ c = 8 ∨ c = 9 := by omega
    rcases e with rfl | rfl | rfl | rfl | rfl
    all_goals decide))
  have hj : zW (f_joins (qi (rk c)) R M) (fun r => RS b fr R0 M0 ed tk k (C ++ P) O o w ((x, ph, bg, pr, bs) :: Fr) r.1 r.2) := by
    have := p_joins hE (show rk c ≤ 6 by
      have e : c = 5 ∨ c = 6 ∨ c = 7 ∨ c = 8 ∨ c = 9 := by omega
      rcases e with rfl | rfl | rfl | rfl | rfl
      all_goals decide) hP hlow hbs hln hC hF (by omega) ho h
    rw [hn0] at this
    exact this
  rw [g_in h h5 hF hx (by omega), if_pos ⟨hph, s1, by
    have e : c = 5 ∨ c = 6 ∨ c = 7 ∨ c = 8 ∨ c = 9 := by omega
    rcases e with rfl | rfl | rfl | rfl | rfl
    · exact Or.inl s2
    · exact Or.inr (Or.inl s2)
    · exact Or.inr (Or.inr (Or.inl s2))
    · exact Or.inr (Or.inr (Or.inr (Or.inl s2)))
    · exact Or.inr (Or.inr (Or.inr (Or.inr s2)))⟩]
  have hfin : ∀ r : zI × zL, RS b fr R0 M0 ed tk k (C ++ P) O o w ((x, ph, bg, pr, bs) :: Fr) r.1 r.2 → zW (f_goesOn_174 (qi (rsOf c)) r.1 r.2) (fun r => r.1 = qi 1 ∧ RS b fr R0 M0 ed tk (k + 1) (C ++ P) (c :: O) o 0 ((x, ph, bg, pr, bs) :: Fr) r.2.1 r.2.2) := fun r hr => g_174 hA hE.2.1 hk (by omega) hr
  unfold f_goesOn_87
  rw [show (43 : Int32) = qi 43 from rfl, tk_sg hT h5 (by omega), o_bind]
  dsimp only
  have e : c = 5 ∨ c = 6 ∨ c = 7 ∨ c = 8 ∨ c = 9 := by omega
  rcases e with rfl | rfl | rfl | rfl | rfl
  · rw [if_pos (show tS (tk k) 43 from hs), if_neg (by decide)]
    unfold f_goesOn_106 f_goesOn_112
    refine zW_call hj ?_
    rintro ⟨R1, M1⟩ h1
    dsimp only at h1 ⊢
    rw [show (43 : Int32) = qi 43 from rfl, tk_sg h1.2.1.2 h5 (by omega), o_bind]
    dsimp only
    rw [if_pos (show tS (tk k) 43 from hs), if_neg (by decide)]
    exact hfin (R1, M1) h1
  · have s2 : (tk k).2.1 = 45 := s2
    rw [if_neg (nS (by omega)), if_pos (by rfl), show (45 : Int32) = qi 45 from rfl, tk_sg hT h5 (by omega), o_bind]
    dsimp only
    rw [if_pos (show tS (tk k) 45 from hs), if_neg (by decide)]
    unfold f_goesOn_106 f_goesOn_112
    refine zW_call hj ?_
    rintro ⟨R1, M1⟩ h1
    dsimp only at h1 ⊢
    rw [show (43 : Int32) = qi 43 from rfl, tk_sg h1.2.1.2 h5 (by omega), o_bind]
    dsimp only
    rw [if_neg (nS (by omega)), if_pos (by rfl), show (45 : Int32) = qi 45 from rfl, tk_sg h1.2.1.2 h5 (by omega), o_bind]
    dsimp only
    rw [if_pos (show tS (tk k) 45 from hs), if_neg (by decide)]
    exact hfin (R1, M1) h1
  all_goals
    have n43 : ¬ tS (tk k) 43 := fun g => absurd (s2.symm.trans g.2) (by decide)
    have n45 : ¬ tS (tk k) 45 := fun g => absurd (s2.symm.trans g.2) (by decide)
    rw [if_neg n43, if_pos (by rfl), show (45 : Int32) = qi 45 from rfl, tk_sg hT h5 (by omega), o_bind]
    dsimp only
    rw [if_neg n45, if_pos (by rfl)]
    unfold f_goesOn_112
    refine zW_call hj ?_
    rintro ⟨R1, M1⟩ h1
    dsimp only at h1 ⊢
    rw [show (43 : Int32) = qi 43 from rfl, tk_sg h1.2.1.2 h5 (by omega), o_bind]
    dsimp only
    rw [if_neg n43, if_pos (by rfl), show (45 : Int32) = qi 45 from rfl, tk_sg h1.2.1.2 h5 (by omega), o_bind]
    dsimp only
    rw [if_neg n45, if_pos (by rfl), show (42 : Int32) = qi 42 from rfl, tk_sg h1.2.1.2 h5 (by omega), o_bind]
    dsimp only
  · rw [if_pos (show tS (tk k) 42 from hs), if_neg (by decide)]
    exact hfin (R1, M1) h1
  · have s2 : (tk k).2.1 = 47 := s2
    rw [if_neg (nS (by omega)), if_pos (by rfl), show (47 : Int32) = qi 47 from rfl, tk_sg h1.2.1.2 h5 (by omega), o_bind]
    dsimp only
    rw [if_pos (show tS (tk k) 47 from hs), if_neg (by decide)]
    exact hfin (R1, M1) h1
  · have s2 : (tk k).2.1 = 37 := s2
    rw [if_neg (nS (by omega)), if_pos (by rfl), show (47 : Int32) = qi 47 from rfl, tk_sg h1.2.1.2 h5 (by omega), o_bind]
    dsimp only
    rw [if_neg (nS (by omega)), if_pos (by rfl)]
    exact hfin (R1, M1) h1
end
