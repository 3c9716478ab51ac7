section
variable {b fr k o w tn tl l x ph bg pr bs wo : Nat} {R0 R R' : zI} {M0 M M' : zL} {ed t : Nat → Nat} {tk : Nat → tkT} {T : tkT} {C C' O O' P : List Nat} {F F' Fr : List fmT}
/-- what stays while a rule is read -/
def EV (b wo : Nat) (R0 : zI) (t : Nat → Nat) (tl : Nat) : Prop := b < 2 ∧ tpR R0 t tl ∧ R0 0 26 = qi b ∧ R0 0 27 = qi wo
theorem RS_26 (hE : EV b wo R0 t tl) (h : RS b fr R0 M0 ed tk k C O o w F R M) : R 0 26 = qi b ∧ R 0 27 = qi wo := by
  have h1 := h.1.1
  exact ⟨(h1 26 (by omega) (by omega) (by omega) (by omega) (by omega) (by omega) (by omega) (by omega) (by omega) (by omega) (by omega) (by omega)).trans hE.2.2.1, (h1 27 (by omega) (by omega) (by omega) (by omega) (by omega) (by omega) (by omega) (by omega) (by omega) (by omega) (by omega) (by omega)).trans hE.2.2.2⟩
theorem gD_app {c j : Nat} (hj : j < C.length) : (C ++ [c]).getD j 0 = C.getD j 0 := by
  rw [List.getD_eq_getElem?_getD, List.getD_eq_getElem?_getD, List.getElem?_append_left hj]
theorem gD_last {c : Nat} : (C ++ [c]).getD C.length 0 = c := by
  rw [List.getD_eq_getElem?_getD, List.getElem?_append_right (Nat.le_refl _), Nat.sub_self]
  rfl
theorem p_add (hE : EV b wo R0 t tl) (h : RS b fr R0 M0 ed tk k C O o w F R M) (hc : fr + C.length < 1600) {c : Nat} {y : Int32} (hv : 100 ≤ c → y = qi (c - 100)) : zW (f_add (qi (rsOf c)) y R M) (fun r => RS b fr R0 M0 ed tk k (C ++ [c]) O o w F r.1 r.2 ∧ r.1 18 = R 18 ∧ r.1 13 = R 13 ∧ r.1 16 = R 16) := by
  obtain ⟨e26, -⟩ := RS_26 hE h
  have hb := hE.1
  obtain ⟨-, -, ⟨-, -, a10, a11, a12, a13, a14⟩, c1, os, fs⟩ := id h
  have e : 1600 * b + (fr + C.length) = 1600 * b + fr + C.length := by omega
  simp (disch := omega) only [f_add, e26, a10, ↓reduceIte, o_bind, and_true, true_and, and_false, false_and, or_true, true_or, or_false, false_or, not_true, not_false_eq_true, not_false_iff, ne_eq, Nat.reduceAdd, Nat.reduceMul, Nat.reduceSub, Nat.reduceDiv, Nat.reduceMod, Nat.reduceLT, Nat.reduceLeDiff, Nat.reduceEqDiff, Nat.not_lt, Nat.not_le, q_lit, ↓q_m1, q_om, q_on, q_add, q_mul, q_sub, q_div, q_md, q_ltT, q_ltF, q_leT, q_leF, q_eqT, q_eqF, q_inT, q_inF, q_nn, q_mlt, q_ltm, q_mle, q_lem, q_nem, q_mne, z_same, z_neP, z_neK, zL_same, zL_neP, zL_neK, zr_same, zr_ne]
  refine zW_some ?_
  dsimp only
  refine ⟨RS_up h (fun j j1 j2 j3 j4 j5 => ?_) (fun v v0 v1 v2 v3 => ?_) (fun j hj => ⟨?_, ?_⟩) ?_ ?_ ?_ ?_ ?_ (fun j hj => ?_) (OS_fr os (fun j _ => ?_)) (FS_fr fs (fun v j _ _ _ => ?_)), ?_, ?_, ?_⟩
  · simp (disch := omega) only [z_same, z_neP, z_neK, zL_same, zL_neP, zL_neK, zr_same, zr_ne]
  · simp (disch := omega) only [z_same, z_neP, z_neK, zL_same, zL_neP, zL_neK, zr_same, zr_ne]
  · simp (disch := omega) only [z_same, z_neP, z_neK, zL_same, zL_neP, zL_neK, zr_same, zr_ne]
  · simp (disch := omega) only [z_same, z_neP, z_neK, zL_same, zL_neP, zL_neK, zr_same, zr_ne]
  · rw [z_same, List.length_append]; rfl
  · simp (disch := omega) only [z_same, z_neP, z_neK, zL_same, zL_neP, zL_neK, zr_same, zr_ne]; exact a11
  · simp (disch := omega) only [z_same, z_neP, z_neK, zL_same, zL_neP, zL_neK, zr_same, zr_ne]; exact a12
  · simp (disch := omega) only [z_same, z_neP, z_neK, zL_same, zL_neP, zL_neK, zr_same, zr_ne]; exact a13
  · simp (disch := omega) only [z_same, z_neP, z_neK, zL_same, zL_neP, zL_neK, zr_same, zr_ne]; exact a14
  · rw [List.length_append] at hj
    have hj : j < C.length + 1 := hj
    by_cases ej : j = C.length
    · subst ej
      rw [gD_last, e]
      simp (disch := omega) only [z_same, z_neP, z_neK, zL_same, zL_neP, zL_neK, zr_same, zr_ne]
      exact ⟨trivial, hv⟩
    · rw [gD_app (by omega)]
      simp (disch := omega) only [z_same, z_neP, z_neK, zL_same, zL_neP, zL_neK, zr_same, zr_ne]
      exact c1 j (by omega)
  · simp (disch := omega) only [z_same, z_neP, z_neK, zL_same, zL_neP, zL_neK, zr_same, zr_ne]
  · simp (disch := omega) only [z_same, z_neP, z_neK, zL_same, zL_neP, zL_neK, zr_same, zr_ne]
  · simp (disch := omega) only [z_same, z_neP, z_neK, zL_same, zL_neP, zL_neK, zr_same, zr_ne]
  · simp (disch := omega) only [z_same, z_neP, z_neK, zL_same, zL_neP, zL_neK, zr_same, zr_ne]
  · simp (disch := omega) only [z_same, z_neP, z_neK, zL_same, zL_neP, zL_neK, zr_same, zr_ne]
theorem p_hold (h : RS b fr R0 M0 ed tk k C O o w F R M) (hc : O.length < 500) {c : Nat} : zW (f_holdsBack (qi (rsOf c)) R M) (fun r => RS b fr R0 M0 ed tk k C (c :: O) o w F r.1 r.2) := by
  obtain ⟨-, -, ⟨-, -, a10, a11, a12, a13, a14⟩, c1, os, fs⟩ := id h
  simp (disch := omega) only [f_holdsBack, a13, ↓reduceIte, o_bind, and_true, true_and, and_false, false_and, or_true, true_or, or_false, false_or, not_true, not_false_eq_true, not_false_iff, ne_eq, Nat.reduceAdd, Nat.reduceMul, Nat.reduceSub, Nat.reduceDiv, Nat.reduceMod, Nat.reduceLT, Nat.reduceLeDiff, Nat.reduceEqDiff, Nat.not_lt, Nat.not_le, q_lit, ↓q_m1, q_om, q_on, q_add, q_mul, q_sub, q_div, q_md, q_ltT, q_ltF, q_leT, q_leF, q_eqT, q_eqF, q_inT, q_inF, q_nn, q_mlt, q_ltm, q_mle, q_lem, q_nem, q_mne, z_same, z_neP, z_neK, zL_same, zL_neP, zL_neK, zr_same, zr_ne]
  refine zW_some ?_
  dsimp only
  refine RS_up h (fun j j1 j2 j3 j4 j5 => ?_) (fun v v0 v1 v2 v3 => ?_) (fun j hj => ⟨?_, ?_⟩) ?_ ?_ ?_ z_same ?_ (fun j hj => ?_) ⟨?_, OS_fr os (fun j _ => ?_)⟩ (FS_fr fs (fun v j _ _ _ => ?_))
  · simp (disch := omega) only [z_same, z_neP, z_neK, zL_same, zL_neP, zL_neK, zr_same, zr_ne]
  · simp (disch := omega) only [z_same, z_neP, z_neK, zL_same, zL_neP, zL_neK, zr_same, zr_ne]
  · simp (disch := omega) only [z_same, z_neP, z_neK, zL_same, zL_neP, zL_neK, zr_same, zr_ne]
  · simp (disch := omega) only [z_same, z_neP, z_neK, zL_same, zL_neP, zL_neK, zr_same, zr_ne]
  · simp (disch := omega) only [z_same, z_neP, z_neK, zL_same, zL_neP, zL_neK, zr_same, zr_ne]; exact a10
  · simp (disch := omega) only [z_same, z_neP, z_neK, zL_same, zL_neP, zL_neK, zr_same, zr_ne]; exact a11
  · simp (disch := omega) only [z_same, z_neP, z_neK, zL_same, zL_neP, zL_neK, zr_same, zr_ne]; exact a12
  · simp (disch := omega) only [z_same, z_neP, z_neK, zL_same, zL_neP, zL_neK, zr_same, zr_ne]; exact a14
  · simp (disch := omega) only [z_same, z_neP, z_neK, zL_same, zL_neP, zL_neK, zr_same, zr_ne]; exact c1 j hj
  · simp (disch := omega) only [z_same, z_neP, z_neK, zL_same, zL_neP, zL_neK, zr_same, zr_ne]
  · simp (disch := omega) only [z_same, z_neP, z_neK, zL_same, zL_neP, zL_neK, zr_same, zr_ne]
  · simp (disch := omega) only [z_same, z_neP, z_neK, zL_same, zL_neP, zL_neK, zr_same, zr_ne]
set_option maxHeartbeats 2000000 in
theorem p_push (h : RS b fr R0 M0 ed tk k C O o w F R M) (hc : F.length < 20) : zW (f_pushes (qi x) R M) (fun r => RS b fr R0 M0 ed tk k C O o w ((x, 0, 1, 0, O.length) :: F) r.1 r.2) := by
  obtain ⟨-, -, ⟨-, -, a10, a11, a12, a13, a14⟩, c1, os, fs⟩ := id h
  simp (disch := omega) only [f_pushes, a11, a13, nar_1, nar_q1, ↓reduceIte, o_bind, and_true, true_and, and_false, false_and, or_true, true_or, or_false, false_or, not_true, not_false_eq_true, not_false_iff, ne_eq, Nat.reduceAdd, Nat.reduceMul, Nat.reduceSub, Nat.reduceDiv, Nat.reduceMod, Nat.reduceLT, Nat.reduceLeDiff, Nat.reduceEqDiff, Nat.not_lt, Nat.not_le, q_lit, ↓q_m1, q_om, q_on, q_add, q_mul, q_sub, q_div, q_md, q_ltT, q_ltF, q_leT, q_leF, q_eqT, q_eqF, q_inT, q_inF, q_nn, q_mlt, q_ltm, q_mle, q_lem, q_nem, q_mne, z_same, z_neP, z_neK, zL_same, zL_neP, zL_neK, zr_same, zr_ne]
  refine zW_some ?_
  dsimp only
  refine RS_up h (fun j j1 j2 j3 j4 j5 => ?_) (fun v v0 v1 v2 v3 => ?_) (fun j hj => ⟨?_, ?_⟩) ?_ z_same ?_ ?_ ?_ (fun j hj => ?_) (OS_fr os (fun j _ => ?_)) ⟨⟨?_, ?_, ?_, fun h => absurd rfl h, ?_⟩, FS_fr fs (fun v j h1 h2 h3 => ?_)⟩
  · simp (disch := omega) only [z_same, z_neP, z_neK, zL_same, zL_neP, zL_neK, zr_same, zr_ne]
  · simp (disch := omega) only [z_same, z_neP, z_neK, zL_same, zL_neP, zL_neK, zr_same, zr_ne]
  · simp (disch := omega) only [z_same, z_neP, z_neK, zL_same, zL_neP, zL_neK, zr_same, zr_ne]
  · simp (disch := omega) only [z_same, z_neP, z_neK, zL_same, zL_neP, zL_neK, zr_same, zr_ne]
  · simp (disch := omega) only [z_same, z_neP, z_neK, zL_same, zL_neP, zL_neK, zr_same, zr_ne]; exact a10
  · simp (disch := omega) only [z_same, z_neP, z_neK, zL_same, zL_neP, zL_neK, zr_same, zr_ne]; exact a12
  · simp (disch := omega) only [z_same, z_neP, z_neK, zL_same, zL_neP, zL_neK, zr_same, zr_ne]; exact a13
  · simp (disch := omega) only [z_same, z_neP, z_neK, zL_same, zL_neP, zL_neK, zr_same, zr_ne]; exact a14
  · simp (disch := omega) only [z_same, z_neP, z_neK, zL_same, zL_neP, zL_neK, zr_same, zr_ne]; exact c1 j hj
  · simp (disch := omega) only [z_same, z_neP, z_neK, zL_same, zL_neP, zL_neK, zr_same, zr_ne]
  · simp (disch := omega) only [z_same, z_neP, z_neK, zL_same, zL_neP, zL_neK, zr_same, zr_ne]
  · simp (disch := omega) only [z_same, z_neP, z_neK, zL_same, zL_neP, zL_neK, zr_same, zr_ne]
  · simp (disch := omega) only [z_same, z_neP, z_neK, zL_same, zL_neP, zL_neK, zr_same, zr_ne]
  · simp (disch := omega) only [z_same, z_neP, z_neK, zL_same, zL_neP, zL_neK, zr_same, zr_ne]
  · have g : ∀ u y, z_uI R u F.length y v j = R v j := fun u y => by
      by_cases e : v = u
      · rw [← e, z_neK (by omega)]
      · rw [z_neP e]
    rw [z_neP (by omega)]
    have hv : v = 13 ∨ v = 14 ∨ v = 15 ∨ v = 16 ∨ v = 17 := by omega
    rcases hv with rfl | rfl | rfl | rfl | rfl
    · simp (disch := omega) only [z_same, z_neP, z_neK, zL_same, zL_neP, zL_neK, zr_same, zr_ne]
    · simp (disch := omega) only [z_same, z_neP, z_neK, zL_same, zL_neP, zL_neK, zr_same, zr_ne]
    · simp (disch := omega) only [z_same, z_neP, z_neK, zL_same, zL_neP, zL_neK, zr_same, zr_ne]
    · simp (disch := omega) only [z_same, z_neP, z_neK, zL_same, zL_neP, zL_neK, zr_same, zr_ne]
    · simp (disch := omega) only [z_same, z_neP, z_neK, zL_same, zL_neP, zL_neK, zr_same, zr_ne]
/-! ranks, and what is put out -/
def rk (a : Nat) : Nat := if a = 12 then 1 else if a = 13 then 2 else if a = 17 then 3 else if a = 14 ∨ a = 15 ∨ a = 16 then 4 else if a = 5 ∨ a = 6 then 5 else 6
abbrev isop (a : Nat) : Prop := (5 ≤ a ∧ a ≤ 9) ∨ (12 ≤ a ∧ a ≤ 17)
theorem op_rk {a : Nat} (h : isop a) : f_rank (qi (rsOf a)) = some (qi (rk a)) ∧ ((qi (rsOf a) = qi 43) ↔ a = 17) ∧ rk a ≤ 6 ∧ 1 ≤ rk a := by
  have e : a = 5 ∨ a = 6 ∨ a = 7 ∨ a = 8 ∨ a = 9 ∨ a = 12 ∨ a = 13 ∨ a = 14 ∨ a = 15 ∨ a = 16 ∨ a = 17 := by omega
  rcases e with rfl | rfl | rfl | rfl | rfl | rfl | rfl | rfl | rfl | rfl | rfl
  all_goals exact ⟨rfl, by decide, by decide, by decide⟩
def nots : List Nat → Nat
  | [] => 0
  | a :: l => (if a = 17 then 1 else 0) + nots l
abbrev pnd (l : Nat) (P : List Nat) : Prop := ∀ a ∈ P, isop a ∧ l ≤ rk a
def low (l bs : Nat) (O : List Nat) : Prop := O.length = bs ∨ ∃ a O', O = a :: O' ∧ isop a ∧ rk a < l
set_option maxHeartbeats 2000000 in
theorem p_joins (hE : EV b wo R0 t tl) (hl : l ≤ 6) (hP : pnd l P) (hlow : low l bs O) (hbs : bs ≤ O.length) (hln : P.length + O.length < 500) (hC : fr + C.length + P.length ≤ 1600) (hF : Fr.length < 20) (hn : nots P ≤ o) (ho : o < 100) (h : RS b fr R0 M0 ed tk k C (P ++ O) o w ((x, ph, bg, pr, bs) :: Fr) R M) : zW (f_joins (qi l) R M) (fun r => RS b fr R0 M0 ed tk k (C ++ P) O (o - nots P) w ((x, ph, bg, pr, bs) :: Fr) r.1 r.2) := by
  unfold f_joins
  refine zW_lp (I := fun r z => ∃ (P' C' : List Nat) (o' : Nat) (R1 : zI) (M1 : zL), r = P'.length ∧ z = (qi l, R1, M1) ∧ pnd l P' ∧ C' ++ P' = C ++ P ∧ nots P' ≤ o' ∧ o' - nots P' = o - nots P ∧ o' < 100 ∧ P'.length + O.length < 500 ∧ RS b fr R0 M0 ed tk k C' (P' ++ O) o' w ((x, ph, bg, pr, bs) :: Fr) R1 M1) ?_ FU P.length _ ⟨P, C, o, R, M, rfl, rfl, hP, rfl, hn, rfl, ho, hln, h⟩ (FU_big (by omega))
  rintro kk r z ⟨P', C', o', R1, M1, rfl, rfl, hP', hcp, hn', hno, ho', hln', h'⟩ ih
  obtain ⟨-, -, ⟨-, -, a10, a11, a12, a13, a14⟩, c1, os, fs⟩ := id h'
  have a11 : R1 0 33 = qi (Fr.length + 1) := a11
  have a17 : R1 17 Fr.length = qi bs := fs.1.2.2.2.2
  match P', hP', hcp, hn', hno, hln', h', ih, a13, os with
  | [], hP', hcp, hn', hno, hln', h', ih, a13, os =>
    have a13 : R1 0 36 = qi O.length := a13
    have hfin : zW (some (R1, M1)) (fun r => RS b fr R0 M0 ed tk k (C ++ P) O (o - nots P) w ((x, ph, bg, pr, bs) :: Fr) r.1 r.2) := zW_some (by
      rw [List.append_nil] at hcp
      rw [← hcp, ← hno]
      exact h')
    rcases hlow with e | ⟨a, O', rfl, ha, hlt⟩
    · simp (disch := omega) only [b_joins_0, a11, a13, a17, e, ↓reduceIte, o_bind, and_true, true_and, and_false, false_and, or_true, true_or, or_false, false_or, not_true, not_false_eq_true, not_false_iff, ne_eq, Nat.reduceAdd, Nat.reduceMul, Nat.reduceSub, Nat.reduceDiv, Nat.reduceMod, Nat.reduceLT, Nat.reduceLeDiff, Nat.reduceEqDiff, Nat.not_lt, Nat.not_le, q_lit, ↓q_m1, q_om, q_on, q_add, q_mul, q_sub, q_div, q_md, q_ltT, q_ltF, q_leT, q_leF, q_eqT, q_eqF, q_inT, q_inF, q_nn, q_mlt, q_ltm, q_mle, q_lem, q_nem, q_mne, z_same, z_neP, z_neK, zL_same, zL_neP, zL_neK, zr_same, zr_ne, Nat.add_sub_cancel]
      exact hfin
    · obtain ⟨g1, -, g3, -⟩ := op_rk ha
      have a18 : R1 18 O'.length = qi (rsOf a) := os.1
      have a13' : R1 0 36 = qi (O'.length + 1) := a13
      have hln2 : O'.length + 1 < 500 := by
        have : (a :: O').length = O'.length + 1 := rfl
        rw [this] at hln; omega
      by_cases e : O'.length + 1 = bs
      · simp (disch := omega) only [b_joins_0, a11, a13', a17, e, ↓reduceIte, o_bind, and_true, true_and, and_false, false_and, or_true, true_or, or_false, false_or, not_true, not_false_eq_true, not_false_iff, ne_eq, Nat.reduceAdd, Nat.reduceMul, Nat.reduceSub, Nat.reduceDiv, Nat.reduceMod, Nat.reduceLT, Nat.reduceLeDiff, Nat.reduceEqDiff, Nat.not_lt, Nat.not_le, q_lit, ↓q_m1, q_om, q_on, q_add, q_mul, q_sub, q_div, q_md, q_ltT, q_ltF, q_leT, q_leF, q_eqT, q_eqF, q_inT, q_inF, q_nn, q_mlt, q_ltm, q_mle, q_lem, q_nem, q_mne, z_same, z_neP, z_neK, zL_same, zL_neP, zL_neK, zr_same, zr_ne, Nat.add_sub_cancel]
        exact hfin
      · have hbs' : bs ≤ O'.length + 1 := hbs
        simp (disch := omega) only [b_joins_0, a11, a13', a17, a18, g1, ↓reduceIte, o_bind, and_true, true_and, and_false, false_and, or_true, true_or, or_false, false_or, not_true, not_false_eq_true, not_false_iff, ne_eq, Nat.reduceAdd, Nat.reduceMul, Nat.reduceSub, Nat.reduceDiv, Nat.reduceMod, Nat.reduceLT, Nat.reduceLeDiff, Nat.reduceEqDiff, Nat.not_lt, Nat.not_le, q_lit, ↓q_m1, q_om, q_on, q_add, q_mul, q_sub, q_div, q_md, q_ltT, q_ltF, q_leT, q_leF, q_eqT, q_eqF, q_inT, q_inF, q_nn, q_mlt, q_ltm, q_mle, q_lem, q_nem, q_mne, z_same, z_neP, z_neK, zL_same, zL_neP, zL_neK, zr_same, zr_ne, Nat.add_sub_cancel]
        exact hfin
  | a :: P'', hP', hcp, hn', hno, hln', h', ih, a13, os =>
    have a13 : R1 0 36 = qi ((P'' ++ O).length + 1) := a13
    have hpl : (P'' ++ O).length = P''.length + O.length := List.length_append
    have hln2 : P''.length + 1 + O.length < 500 := hln'
    have ha := hP' a List.mem_cons_self
    have ha17 : a ≤ 17 := by rcases ha.1 with h | h <;> omega
    obtain ⟨g1, g2, g3, -⟩ := op_rk ha.1
    have a18 : R1 18 (P'' ++ O).length = qi (rsOf a) := os.1
    have hclen : C'.length + (P''.length + 1) = C.length + P.length := by
      have := congrArg List.length hcp
      rw [List.length_append, List.length_append] at this
      exact this
    simp (disch := omega) only [b_joins_0, a11, a13, a17, a18, g1, ↓reduceIte, o_bind, and_true, true_and, and_false, false_and, or_true, true_or, or_false, false_or, not_true, not_false_eq_true, not_false_iff, ne_eq, Nat.reduceAdd, Nat.reduceMul, Nat.reduceSub, Nat.reduceDiv, Nat.reduceMod, Nat.reduceLT, Nat.reduceLeDiff, Nat.reduceEqDiff, Nat.not_lt, Nat.not_le, q_lit, ↓q_m1, q_om, q_on, q_add, q_mul, q_sub, q_div, q_md, q_ltT, q_ltF, q_leT, q_leF, q_eqT, q_eqF, q_inT, q_inF, q_nn, q_mlt, q_ltm, q_mle, q_lem, q_nem, q_mne, z_same, z_neP, z_neK, zL_same, zL_neP, zL_neK, zr_same, zr_ne, Nat.add_sub_cancel]
    have h0 : RS b fr R0 M0 ed tk k C' (a :: (P'' ++ O)) o' w ((x, ph, bg, pr, bs) :: Fr) R1 M1 := h'
    refine zW_call (p_add hE (p_drop h0) (by omega) (c := a) (y := qi 0) (fun h => by omega)) ?_
    rintro ⟨R2, M2⟩ ⟨h2, h18, -, -⟩
    dsimp only at h2 h18 ⊢
    obtain ⟨-, -, ⟨-, -, b10, b11, b12, b13, b14⟩, -⟩ := id h2
    have b18 : R2 18 (P'' ++ O).length = qi (rsOf a) := by rw [h18, z_neP (by omega)]; exact a18
    have hcp' : (C' ++ [a]) ++ P'' = C ++ P := by rw [List.append_assoc]; exact hcp
    simp (disch := omega) only [b13, b18, ↓reduceIte, o_bind, and_true, true_and, and_false, false_and, or_true, true_or, or_false, false_or, not_true, not_false_eq_true, not_false_iff, ne_eq, Nat.reduceAdd, Nat.reduceMul, Nat.reduceSub, Nat.reduceDiv, Nat.reduceMod, Nat.reduceLT, Nat.reduceLeDiff, Nat.reduceEqDiff, Nat.not_lt, Nat.not_le, q_lit, ↓q_m1, q_om, q_on, q_add, q_mul, q_sub, q_div, q_md, q_ltT, q_ltF, q_leT, q_leF, q_eqT, q_eqF, q_inT, q_inF, q_nn, q_mlt, q_ltm, q_mle, q_lem, q_nem, q_mne, z_same, z_neP, z_neK, zL_same, zL_neP, zL_neK, zr_same, zr_ne]
    by_cases e : a = 17
    · have g2' := g2.mpr e
      have hn2 : 1 + nots P'' ≤ o' := by
        have : nots (a :: P'') = 1 + nots P'' := by show (if a = 17 then 1 else 0) + nots P'' = _; rw [if_pos e]
        omega
      have hno2 : o' - (1 + nots P'') = o - nots P := by
        have : nots (a :: P'') = 1 + nots P'' := by show (if a = 17 then 1 else 0) + nots P'' = _; rw [if_pos e]
        omega
      have b12' : R2 0 34 = qi (o' - 1 + 1) := by rw [b12, show o' - 1 + 1 = o' by omega]
      rw [if_pos g2', b12, q_sub (by omega)]
      exact ih P''.length _ (Nat.lt_succ_self _) ⟨P'', C' ++ [a], o' - 1, _, _, rfl, rfl, fun x hx => hP' x (List.mem_cons_of_mem _ hx), hcp', by omega, by omega, by omega, by omega, p_s34 h2⟩
    · have g2' : ¬ qi (rsOf a) = qi 43 := fun g => e (g2.mp g)
      have hn2 : nots (a :: P'') = nots P'' := by show (if a = 17 then 1 else 0) + nots P'' = _; rw [if_neg e]; omega
      rw [if_neg g2']
      exact ih P''.length _ (Nat.lt_succ_self _) ⟨P'', C' ++ [a], o', _, _, rfl, rfl, fun x hx => hP' x (List.mem_cons_of_mem _ hx), hcp', by omega, by omega, by omega, by omega, h2⟩
end
