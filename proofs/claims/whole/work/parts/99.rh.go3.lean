section
variable {b fr k o w tn tl l x ph bg pr bs wo f : Nat} {R0 R R' : zI} {M0 M M' : zL} {ed t : Nat → Nat} {tk : Nat → tkT} {T : tkT} {C C' O O' P : List Nat} {F F' Fr : List fmT}
theorem g_end (hE : EV b wo R0 t tl) (h5 : (tk k).1 ≠ 5) (hx : x ≤ 1) (hph : ph < 100) (na : ph < 2 → ¬ ari (tk k)) (hp : tst x → ph ≠ 0) (nj : tst x → ¬ cnj (tk k)) (hP : pnd 1 P) (hlow : low 1 bs O) (hbs : bs ≤ O.length) (hln : P.length + O.length < 500) (hC : fr + C.length + P.length ≤ 1600) (hF : Fr.length < 20) (hn : nots P ≤ o) (ho : o < 100) (h : RS b fr R0 M0 ed tk k C (P ++ O) o w ((x, ph, bg, pr, bs) :: Fr) R M) : zW (f_goesOn R M) (fun r => r.1 = qi 0 ∧ RS b fr R0 M0 ed tk k (C ++ P) O (o - nots P) w ((x, ph, bg, pr, bs) :: Fr) r.2.1 r.2.2) := by
  rw [g_422 h h5 hF (by omega) hph na hp nj]
  unfold f_goesOn_422
  refine zW_if0 (by rw [q_lit, q_le (by omega) (by omega)]; omega) (zW_if1 h.2.2.1.1 ?_)
  refine zW_call (p_joins hE (show 1 ≤ 6 by omega) hP hlow hbs hln hC hF hn ho h) ?_
  rintro ⟨R1, M1⟩ h1
  exact zW_some ⟨rfl, h1⟩
theorem g_452 (hx : x = 3 ∨ x = 6) {y : Int32} : f_goesOn_422 y (qi x) R M = f_goesOn_452 y (qi x) R M := by
  unfold f_goesOn_422
  rcases hx with rfl | rfl
  · rw [if_pos (by decide), if_pos (by rfl)]
  · rw [if_pos (by decide), if_neg (by decide), if_pos (by rfl)]
def clS (x : Nat) : Nat := if x = 5 then 93 else 41
theorem g_531 (hx : x = 2 ∨ x = 4 ∨ x = 5) {y : Int32} : f_goesOn_422 y (qi x) R M = f_goesOn_531 y (qi x) (qi (clS x)) R M := by
  unfold f_goesOn_422
  rcases hx with rfl | rfl | rfl
  · rw [if_pos (by decide), if_neg (by decide), if_neg (by decide), if_neg (by decide)]; rfl
  · rw [if_pos (by decide), if_neg (by decide), if_neg (by decide), if_neg (by decide)]; rfl
  · rw [if_pos (by decide), if_neg (by decide), if_neg (by decide), if_pos (by rfl)]; rfl
theorem g_499 {y : Nat} (hA : AH t tl ed tk tn) (hT : tpR R0 t tl) (hk : k + 1 < tn) (hF : Fr.length < 20) (h : RS b fr R0 M0 ed tk k C O o w ((x, ph, bg, pr, bs) :: Fr) R M) : zW (f_goesOn_499 (qi Fr.length) (qi Fr.length) (qi y) R M) (fun r => r.1 = qi 1 ∧ RS b fr R0 M0 ed tk (k + 1) C O o 0 ((y, 0, bg, pr, bs) :: Fr) r.2.1 r.2.2) := by
  unfold f_goesOn_499
  rw [if_pos (q_inP (by omega) (by omega)), if_pos (q_inP (by omega) (by omega)), q_nn (by omega), show (0 : Int32) = qi 0 from rfl]
  refine zW_call (p_ahead hA hT hk (p_14 (p_13 h))) ?_
  rintro ⟨R2, M2⟩ h2
  exact zW_some ⟨rfl, p_s37 h2⟩
theorem g_com (hA : AH t tl ed tk tn) (hE : EV b wo R0 t tl) (hk : k + 1 < tn) (hx : x = 3 ∨ x = 6) (hs : tS (tk k) 44) (hph : ph < 100) (hp : tst x → ph ≠ 0) (hP : pnd 1 P) (hlow : low 1 bs O) (hbs : bs ≤ O.length) (hln : P.length + O.length < 500) (hC : fr + C.length + P.length ≤ 1600) (hF : Fr.length < 20) (hn : nots P ≤ o) (ho : o < 100) (h : RS b fr R0 M0 ed tk k C (P ++ O) o w ((x, ph, bg, pr, bs) :: Fr) R M) : zW (f_goesOn R M) (fun r => r.1 = qi 1 ∧ RS b fr R0 M0 ed tk (k + 1) (C ++ P) O (o - nots P) 0 ((if x = 3 then 4 else 3, 0, bg, pr, bs) :: Fr) r.2.1 r.2.2) := by
  obtain ⟨s1, s2⟩ := id hs
  have h5 : (tk k).1 ≠ 5 := by omega
  rw [g_422 h h5 hF (by omega) hph (fun _ g => by have := g.2; omega) hp (fun _ g => by have := g.1; omega), g_452 hx]
  unfold f_goesOn_452
  rw [show (44 : Int32) = qi 44 from rfl, tk_sg h.2.1.2 h5 (by omega), if_pos hs, o_bind]
  dsimp only
  rw [if_neg (by decide)]
  unfold f_goesOn_470
  refine zW_if1 (by rw [h.2.2.1.1]; exact le00) ?_
  refine zW_call (p_joins hE (show 1 ≤ 6 by omega) hP hlow hbs hln hC hF hn ho h) ?_
  rintro ⟨R1, M1⟩ h1
  dsimp only at h1 ⊢
  rcases hx with rfl | rfl
  · exact zW_if1 (by rfl) (g_499 (y := 4) hA hE.2.1 hk hF h1)
  · exact zW_if0 (by decide) (g_499 (y := 3) hA hE.2.1 hk hF h1)
theorem g_comE (h5 : (tk k).1 ≠ 5) (hx : x = 3 ∨ x = 6) (hs : ¬ tS (tk k) 44) (hph : ph < 100) (na : ph < 2 → ¬ ari (tk k)) (hp : tst x → ph ≠ 0) (nj : tst x → ¬ cnj (tk k)) (hF : Fr.length < 20) (h : RS b fr R0 M0 ed tk k C O o w ((x, ph, bg, pr, bs) :: Fr) R M) : zW (f_goesOn R M) (fun r => r.1 = qi 0 ∧ RE b fr R0 M0 1 (tk k).2.2 r.2.1 r.2.2) := by
  rw [g_422 h h5 hF (by omega) hph na hp nj, g_452 hx]
  unfold f_goesOn_452
  rw [show (44 : Int32) = qi 44 from rfl, tk_sg h.2.1.2 h5 (by omega), if_neg hs, o_bind]
  dsimp only
  rw [if_pos (by rfl), show (1 : Int32) = qi 1 from rfl, p_blame h, o_bind]
  exact g_470E (RE_mk h (by omega))
theorem g_clsE (h5 : (tk k).1 ≠ 5) (hx : x = 2 ∨ x = 4 ∨ x = 5) (hs : ¬ tS (tk k) (clS x)) (hph : ph < 100) (na : ph < 2 → ¬ ari (tk k)) (hp : tst x → ph ≠ 0) (nj : tst x → ¬ cnj (tk k)) (hF : Fr.length < 20) (h : RS b fr R0 M0 ed tk k C O o w ((x, ph, bg, pr, bs) :: Fr) R M) : zW (f_goesOn R M) (fun r => r.1 = qi 0 ∧ RE b fr R0 M0 1 (tk k).2.2 r.2.1 r.2.2) := by
  have hc : clS x < 256 := by
    rcases hx with rfl | rfl | rfl
    · decide
    · decide
    · decide
  rw [g_422 h h5 hF (by omega) hph na hp nj, g_531 hx]
  unfold f_goesOn_531
  rw [tk_sg h.2.1.2 h5 hc, if_neg hs, o_bind]
  dsimp only
  rw [if_pos (by rfl), show (1 : Int32) = qi 1 from rfl, p_blame h, o_bind]
  exact g_546E (RE_mk h (by omega))
theorem g_613 (hA : AH t tl ed tk tn) (hT : tpR R0 t tl) (hk : k + 1 < tn) (h : RS b fr R0 M0 ed tk k C O o w F R M) : zW (f_goesOn_613 R M) (fun r => r.1 = qi 1 ∧ RS b fr R0 M0 ed tk (k + 1) C O o w F r.2.1 r.2.2) := by
  unfold f_goesOn_613
  refine zW_call (p_ahead hA hT hk h) ?_
  rintro ⟨R2, M2⟩ h2
  exact zW_some ⟨rfl, h2⟩
theorem g_cls0 (hE : EV b wo R0 t tl) (hx : x = 2 ∨ x = 4 ∨ x = 5) (hs : tS (tk k) (clS x)) (hph : ph < 100) (hp : tst x → ph ≠ 0) (hP : pnd 1 P) (hlow : low 1 bs O) (hbs : bs ≤ O.length) (hln : P.length + O.length < 500) (hC : fr + C.length + P.length ≤ 1600) (hF : Fr.length < 20) (hn : nots P + 1 ≤ o) (ho : o < 100) (h : RS b fr R0 M0 ed tk k C (P ++ O) o w ((x, ph, bg, pr, bs) :: Fr) R M) {Q : Int32 × zI × zL → Prop} (hQ : ∀ (R2 : zI) (M2 : zL), RS b fr R0 M0 ed tk k (C ++ P) O (o - nots P - 1) w Fr R2 M2 → (x = 4 → pr ≠ 0 → R2 16 Fr.length = qi pr) → zW (if qi x = 4 then (if inB (qi Fr.length) 20 then (f_add (R2 16 Fr.length) 0 R2 M2).bind fun r3 => f_goesOn_596 (qi x) r3.1 r3.2 else none) else f_goesOn_596 (qi x) R2 M2) Q) : zW (f_goesOn R M) Q := by
  obtain ⟨s1, s2⟩ := id hs
  have h5 : (tk k).1 ≠ 5 := by omega
  have hc : clS x < 256 ∧ clS x ≠ 43 ∧ clS x ≠ 45 ∧ clS x ≠ 42 ∧ clS x ≠ 47 ∧ clS x ≠ 37 := by
    rcases hx with rfl | rfl | rfl
    · decide
    · decide
    · decide
  rw [g_422 h h5 hF (by omega) hph (fun _ g => by have := g.2; omega) hp (fun _ g => by have := g.1; omega), g_531 hx]
  unfold f_goesOn_531
  rw [tk_sg h.2.1.2 h5 hc.1, if_pos hs, o_bind]
  dsimp only
  rw [if_neg (by decide)]
  unfold f_goesOn_546
  refine zW_if1 (by rw [h.2.2.1.1]; exact le00) ?_
  refine zW_call (p_joins hE (show 1 ≤ 6 by omega) hP hlow hbs hln hC hF (by omega) ho h) ?_
  rintro ⟨R1, M1⟩ h1
  dsimp only at h1 ⊢
  have e33 := d_33 h1
  have e34 : R1 0 34 = qi (o - nots P) := h1.2.2.1.2.2.2.2.1
  have e34' : z_uI R1 0 33 (qi Fr.length) 0 34 - 1 = qi (o - nots P - 1) := by rw [z_neK (by omega), e34, q_lit, q_sub (by omega)]
  have h2 := p_s34 (o' := o - nots P - 1) (p_pop h1)
  have g := hQ _ M1 h2 (fun _ hpr => by
    rw [z_neP (by omega), z_neP (by omega)]
    exact h1.2.2.2.2.2.1.2.2.2.1 hpr)
  have hq := q_nn (a := Fr.length) (by omega)
  rw [e33, e34']
  simp only [hq]
  exact g
theorem g_cls2 (hA : AH t tl ed tk tn) (hE : EV b wo R0 t tl) (hk : k + 1 < tn) (hs : tS (tk k) 41) (hph : ph < 100) (hP : pnd 1 P) (hlow : low 1 bs O) (hbs : bs ≤ O.length) (hln : P.length + O.length < 500) (hC : fr + C.length + P.length ≤ 1600) (hF : Fr.length < 20) (hn : nots P + 1 ≤ o) (ho : o < 100) (h : RS b fr R0 M0 ed tk k C (P ++ O) o w ((2, ph, bg, pr, bs) :: Fr) R M) : zW (f_goesOn R M) (fun r => r.1 = qi 1 ∧ RS b fr R0 M0 ed tk (k + 1) (C ++ P) O (o - nots P - 1) w Fr r.2.1 r.2.2) := by
  refine g_cls0 hE (Or.inl rfl) hs hph (fun h => by rcases h with h | h | h <;> omega) hP hlow hbs hln hC hF hn ho h (fun R2 M2 h2 _ => ?_)
  rw [if_neg (by decide)]
  unfold f_goesOn_596
  rw [if_neg (by decide)]
  exact g_613 hA hE.2.1 hk h2
theorem g_cls4 {c : Nat} (hA : AH t tl ed tk tn) (hE : EV b wo R0 t tl) (hk : k + 1 < tn) (hs : tS (tk k) 41) (hph : ph < 100) (hc : pr = rsOf c ∧ pr ≠ 0 ∧ c < 100) (hP : pnd 1 P) (hlow : low 1 bs O) (hbs : bs ≤ O.length) (hln : P.length + O.length < 500) (hC : fr + C.length + P.length < 1600) (hF : Fr.length < 20) (hn : nots P + 1 ≤ o) (ho : o < 100) (h : RS b fr R0 M0 ed tk k C (P ++ O) o w ((4, ph, bg, pr, bs) :: Fr) R M) : zW (f_goesOn R M) (fun r => r.1 = qi 1 ∧ RS b fr R0 M0 ed tk (k + 1) (C ++ P ++ [c]) O (o - nots P - 1) w Fr r.2.1 r.2.2) := by
  refine g_cls0 hE (Or.inr (Or.inl rfl)) hs hph (fun h => by rcases h with h | h | h <;> omega) hP hlow hbs hln (by omega) hF hn ho h (fun R2 M2 h2 h16 => ?_)
  rw [if_pos (by rfl), if_pos (q_inP (by omega) (by omega)), h16 rfl hc.2.1, hc.1]
  refine zW_call (p_add hE h2 (by rw [List.length_append]; omega) (fun h => by omega)) ?_
  rintro ⟨R3, M3⟩ ⟨h3, -⟩
  dsimp only at h3 ⊢
  unfold f_goesOn_596
  rw [if_neg (by decide)]
  exact g_613 hA hE.2.1 hk h3
theorem g_cls5 {y ph2 bg2 pr2 bs2 : Nat} (hA : AH t tl ed tk tn) (hE : EV b wo R0 t tl) (hk : k + 1 < tn) (hs : tS (tk k) 93) (hp0 : ph ≠ 0) (hph : ph < 100) (hP : pnd 1 P) (hlow : low 1 bs O) (hbs : bs ≤ O.length) (hln : P.length + O.length < 500) (hC : fr + C.length + P.length ≤ 1600) (hF : Fr.length + 1 < 20) (hn : nots P + 1 ≤ o) (ho : o < 100) (h : RS b fr R0 M0 ed tk k C (P ++ O) o w ((5, ph, bg, pr, bs) :: (y, ph2, bg2, pr2, bs2) :: Fr) R M) : zW (f_goesOn R M) (fun r => r.1 = qi 1 ∧ RS b fr R0 M0 ed tk (k + 1) (C ++ P) O (o - nots P - 1) w ((y, 2, bg2, pr2, bs2) :: Fr) r.2.1 r.2.2) := by
  refine g_cls0 (Fr := (y, ph2, bg2, pr2, bs2) :: Fr) hE (Or.inr (Or.inr rfl)) hs hph (fun _ => hp0) hP hlow hbs hln hC hF hn ho h (fun R2 M2 h2 _ => ?_)
  rw [if_neg (by decide)]
  unfold f_goesOn_596
  rw [if_pos (by rfl), if_pos (show inB (R2 0 33 - 1) 20 by rw [d_33 h2]; exact q_inP (by omega) (by omega)), d_33 h2, q_nn (by omega), show (2 : Int32) = qi 2 from rfl]
  exact g_613 hA hE.2.1 hk (p_14 h2)
end
