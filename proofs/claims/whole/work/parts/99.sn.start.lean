section
variable {t : Nat → Nat} {tl b i : Nat} {R : zI} {M : zL}
theorem z_dflt (hb : b < 2) : zW (f_isDefault (qi b) R M) (fun r => (r.1 7 (2 * b) = qi 1 ∧ r.1 7 (2 * b + 1) = qi 0) ∧ (∀ k, k < 36 → r.1 4 (36 * b + k) = qi 0 ∧ r.1 6 (36 * b + k) = qi 0) ∧ (∀ j, (j < 2 * b ∨ 2 * b + 2 ≤ j) → r.1 7 j = R 7 j) ∧ (∀ j, (j < 36 * b ∨ 36 * b + 36 ≤ j) → r.1 4 j = R 4 j ∧ r.1 6 j = R 6 j) ∧ (∀ w, w ≠ 4 → w ≠ 6 → w ≠ 7 → r.1 w = R w) ∧ r.2 = M) := by
  have e0 : (2 : Int32) * qi b + 0 = qi (2 * b) := by rw [show (2 : Int32) = qi 2 from rfl, show (0 : Int32) = qi 0 from rfl, q_mul, q_add, Nat.add_zero]
  have e1 : (2 : Int32) * qi b + 1 = qi (2 * b + 1) := by rw [show (2 : Int32) = qi 2 from rfl, show (1 : Int32) = qi 1 from rfl, q_mul, q_add]
  unfold f_isDefault
  rw [e0, e1, if_pos (show inB (qi (2 * b)) 4 from q_inP (by omega) (by omega)), if_pos (show inB (qi (2 * b + 1)) 4 from q_inP (by omega) (by omega)), q_nn (by omega), q_nn (by omega)]
  refine zW_lp (I := fun r z => ∃ (i : Nat) (R1 : zI), i ≤ 36 ∧ r = 36 - i ∧ z = (qi b, qi i, R1, M) ∧ (R1 7 (2 * b) = qi 1 ∧ R1 7 (2 * b + 1) = qi 0) ∧ (∀ k, k < i → R1 4 (36 * b + k) = qi 0 ∧ R1 6 (36 * b + k) = qi 0) ∧ (∀ j, (j < 2 * b ∨ 2 * b + 2 ≤ j) → R1 7 j = R 7 j) ∧ (∀ j, (j < 36 * b ∨ 36 * b + 36 ≤ j) → R1 4 j = R 4 j ∧ R1 6 j = R 6 j) ∧ (∀ w, w ≠ 4 → w ≠ 6 → w ≠ 7 → R1 w = R w)) ?_ FU 36 _ ⟨0, _, by omega, by omega, rfl, ⟨by rw [z_neK (by omega), z_same]; rfl, by rw [z_same]; rfl⟩, fun k hk => absurd hk (Nat.not_lt_zero _), fun j hj => by rw [z_neK (by omega), z_neK (by omega)], fun j hj => ⟨by rw [z_neP (by omega), z_neP (by omega)], by rw [z_neP (by omega), z_neP (by omega)]⟩, fun w h4 h6 h7 => by rw [z_neP h7, z_neP h7]⟩ (FU_big (by omega))
  rintro kk r z ⟨i, R1, hi, rfl, rfl, h7, h46, o7, o46, ow'⟩ ih
  show zW (if 36 ≤ qi i then some (R1, M) else if inB (((36 : Int32) * qi b) + qi i) 72 then if inB (((36 : Int32) * qi b) + qi i) 72 then kk (qi b, (qi i + 1), z_uI (z_uI R1 4 (((36 : Int32) * qi b) + qi i).toNatClampNeg 0) 6 (((36 : Int32) * qi b) + qi i).toNatClampNeg 0, M) else none else none) _
  by_cases e : i = 36
  · subst e
    exact zW_if1 (by decide) (zW_some ⟨h7, h46, o7, o46, ow', rfl⟩)
  have e36 : (36 : Int32) * qi b + qi i = qi (36 * b + i) := by rw [show (36 : Int32) = qi 36 from rfl, q_mul, q_add]
  refine zW_if0 (by rw [q_lit, q_le (by omega) (by omega)]; omega) (zW_if1 (by rw [e36]; exact q_inP (by omega) (by omega)) (zW_if1 (by rw [e36]; exact q_inP (by omega) (by omega)) ?_))
  rw [e36, q_nn (by omega), show (1 : Int32) = qi 1 from rfl, q_add, show (0 : Int32) = qi 0 from rfl]
  refine ih (36 - (i + 1)) _ (by omega) ⟨i + 1, _, by omega, rfl, rfl, ?_, fun k hk => ?_, fun j hj => ?_, fun j hj => ?_, fun w h4 h6 h7 => ?_⟩
  · rw [z_neP (by omega), z_neP (by omega)]; exact h7
  · by_cases ek : k = i
    · subst ek
      rw [z_neP (by omega), z_same, z_same]
      exact ⟨rfl, rfl⟩
    · rw [z_neP (by omega), z_neK (by omega), z_neK (by omega), z_neP (by omega)]
      exact h46 k (by omega)
  · rw [z_neP (by omega), z_neP (by omega)]; exact o7 j hj
  · rw [z_neP (by omega), z_neK (by omega), z_neK (by omega), z_neP (by omega)]; exact o46 j hj
  · rw [z_neP h6, z_neP h4]; exact ow' w h4 h6 h7
/-- what union() begins to read with -/
def US (b : Nat) (t : Nat → Nat) (tl : Nat) (R : zI) (M : zL) (R1 : zI) (M1 : zL) : Prop := (tpR R1 t tl ∧ (R1 0 8 = qi 0 ∧ R1 0 9 = qm) ∧ R1 0 5 = qi (edP t tl 0) ∧ tkR (tkP t tl 0) R1 M1) ∧ (R1 0 26 = qi b ∧ R1 0 25 = qi 0 ∧ R1 0 1 = qi 0 ∧ R1 2 b = qi 0 ∧ R1 3 b = qi 0 ∧ R1 7 (2 * b) = qi 1 ∧ R1 7 (2 * b + 1) = qi 0) ∧ (∀ k, k < 36 → R1 4 (36 * b + k) = qi 0 ∧ R1 6 (36 * b + k) = qi 0) ∧ (∀ r, r < 3 → R1 8 (3 * b + r) = qm) ∧ ((∀ j, j ≠ 1 → j ≠ 2 → j ≠ 3 → j ≠ 4 → j ≠ 5 → j ≠ 6 → j ≠ 8 → j ≠ 9 → j ≠ 12 → j ≠ 25 → j ≠ 26 → R1 0 j = R 0 j) ∧ (∀ j, j ≠ b → R1 2 j = R 2 j ∧ R1 3 j = R 3 j) ∧ (∀ j, (j < 2 * b ∨ 2 * b + 2 ≤ j) → R1 7 j = R 7 j) ∧ (∀ j, (j < 36 * b ∨ 36 * b + 36 ≤ j) → R1 4 j = R 4 j ∧ R1 6 j = R 6 j) ∧ (∀ j, (j < 3 * b ∨ 3 * b + 3 ≤ j) → R1 8 j = R 8 j) ∧ ∀ w, w ≠ 0 → w ≠ 2 → w ≠ 3 → w ≠ 4 → w ≠ 6 → w ≠ 7 → w ≠ 8 → R1 w = R w) ∧ (∀ j, j ≠ 7 → M1 0 j = M 0 j) ∧ ∀ w, w ≠ 0 → M1 w = M w
theorem z73_1 {x1 : Int32} {f : Nat} : zfix b_union_73 (f + 1) (x1, R, M) = (if (((3 : Int32) * (R 0 26)) + 3) ≤ x1 then (f_ahead (z_uI R 0 25 0) M).bind fun r1 => zfix (b_union_109) FU (0, r1.1, r1.2) else if inB x1 6 then zfix b_union_73 f ((x1 + 1), z_uI R 8 x1.toNatClampNeg (-1), M) else none) := rfl
set_option maxHeartbeats 4000000 in
theorem z_start {b0 : Nat} (hb0 : b0 < 2) (h13 : R 0 13 = qi b0) (htl : tl ≤ 1600) (h1 : R 0 1 = qi tl) (ht : ∀ k, k < tl → R 1 k = qi (t k) ∧ t k < 256) : ∃ R1 M1, f_union R M = zfix b_union_109 FU (0, R1, M1) ∧ US (1 - b0) t tl R M R1 M1 := by
  have hb : 1 - b0 < 2 := by omega
  generalize hbb : 1 - b0 = b at hb
  have e13 : z_uI (z_uI (z_uI (z_uI (z_uI R 0 2 (R 0 1)) 0 1 0) 0 5 0) 0 8 0) 0 9 (-1) 0 13 = qi b0 := by
    rw [z_neK (by omega), z_neK (by omega), z_neK (by omega), z_neK (by omega), z_neK (by omega)]; exact h13
  have e1b : (1 : Int32) - qi b0 = qi b := by rw [show (1 : Int32) = qi 1 from rfl, q_sub (by omega), hbb]
  unfold f_union
  rw [e13, e1b]
  obtain ⟨RA, hRA⟩ : ∃ RA, RA = z_uI (z_uI (z_uI (z_uI (z_uI (z_uI R 0 2 (R 0 1)) 0 1 0) 0 5 0) 0 8 0) 0 9 (-1)) 0 26 (qi b) := ⟨_, rfl⟩
  rw [← hRA]
  have a26 : RA 0 26 = qi b := by rw [hRA, z_same]
  have aj : ∀ j, j ≠ 1 → j ≠ 2 → j ≠ 5 → j ≠ 8 → j ≠ 9 → j ≠ 26 → RA 0 j = R 0 j := fun j h1 h2 h5 h8 h9 h26 => by rw [hRA, z_neK h26, z_neK h9, z_neK h8, z_neK h5, z_neK h1, z_neK h2]
  have a2 : RA 0 2 = qi tl := by rw [hRA, z_neK (by omega), z_neK (by omega), z_neK (by omega), z_neK (by omega), z_neK (by omega), z_same]; exact h1
  have a1 : RA 0 1 = qi 0 := by rw [hRA, z_neK (by omega), z_neK (by omega), z_neK (by omega), z_neK (by omega), z_same]; rfl
  have a5 : RA 0 5 = qi 0 := by rw [hRA, z_neK (by omega), z_neK (by omega), z_neK (by omega), z_same]; rfl
  have a8 : RA 0 8 = qi 0 := by rw [hRA, z_neK (by omega), z_neK (by omega), z_same]; rfl
  have a9 : RA 0 9 = qm := by rw [hRA, z_neK (by omega), z_same]; rfl
  have aw : ∀ w, w ≠ 0 → RA w = R w := fun w hw => by rw [hRA, z_neP hw, z_neP hw, z_neP hw, z_neP hw, z_neP hw, z_neP hw]
  have b26 : z_uI RA 2 (RA 0 26).toNatClampNeg 0 0 26 = qi b := by rw [z_neP (by omega)]; exact a26
  rw [if_pos (show inB (RA 0 26) 2 by rw [a26]; exact q_inP hb (by omega)), if_pos (show inB (z_uI RA 2 (RA 0 26).toNatClampNeg 0 0 26) 2 by rw [b26]; exact q_inP hb (by omega)), b26, a26, q_nn (by omega)]
  have c26 : z_uI (z_uI RA 2 b 0) 3 b 0 0 26 = qi b := by rw [z_neP (by omega), z_neP (by omega)]; exact a26
  rw [c26]
  obtain ⟨⟨RB', MB⟩, eB, ⟨d7, d7'⟩, d46, o7, o46, ow', eM⟩ := z_dflt (R := z_uI (z_uI RA 2 b 0) 3 b 0) (M := M) hb
  dsimp only at d7 d7' d46 o7 o46 ow' eM
  subst eM
  rw [eB, o_bind]
  dsimp only
  have f26 : RB' 0 26 = qi b := by rw [ow' 0 (by omega) (by omega) (by omega)]; exact c26
  have e3 : (3 : Int32) * RB' 0 26 = qi (3 * b) := by rw [f26, show (3 : Int32) = qi 3 from rfl, q_mul]
  rw [e3]
  -- three rounds
  have hstep : ∀ (R' : zI) (j f : Nat), R' 0 26 = qi b → j < 3 → zfix b_union_73 (f + 1) (qi (3 * b + j), R', MB) = zfix b_union_73 f (qi (3 * b + j + 1), z_uI R' 8 (3 * b + j) qm, MB) := fun R' j f h26 hj => by
    rw [z73_1, if_neg (by rw [h26, show (3 : Int32) = qi 3 from rfl, q_mul, q_add, q_le (by omega) (by omega)]; omega), if_pos (q_inP (by omega) (by omega)), q_nn (by omega), show (1 : Int32) = qi 1 from rfl, q_add]
    rfl
  have hlast : ∀ (R' : zI) (f : Nat), R' 0 26 = qi b → zfix b_union_73 (f + 1) (qi (3 * b + 3), R', MB) = (f_ahead (z_uI R' 0 25 0) MB).bind fun r1 => zfix (b_union_109) FU (0, r1.1, r1.2) := fun R' f h26 => by
    rw [z73_1, if_pos (by rw [h26, show (3 : Int32) = qi 3 from rfl, q_mul, q_add, q_le (by omega) (by omega)]; omega)]
  have g26 : ∀ (R' : zI) (j : Nat), R' 0 26 = qi b → z_uI R' 8 (3 * b + j) qm 0 26 = qi b := fun R' j h => by rw [z_neP (by omega)]; exact h
  rw [show FU = 9999996 + 1 + 1 + 1 + 1 from rfl, show 3 * b = 3 * b + 0 from rfl, hstep RB' 0 _ f26 (by omega), show 3 * b + 0 + 1 = 3 * b + 1 from rfl, hstep _ 1 _ (g26 _ _ f26) (by omega), show 3 * b + 1 + 1 = 3 * b + 2 from rfl, hstep _ 2 _ (g26 _ _ (g26 _ _ f26)) (by omega), show 3 * b + 2 + 1 = 3 * b + 3 from rfl, hlast _ _ (g26 _ _ (g26 _ _ (g26 _ _ f26)))]
  obtain ⟨RC, hRC⟩ : ∃ RC, RC = z_uI (z_uI (z_uI (z_uI RB' 8 (3 * b + 0) qm) 8 (3 * b + 1) qm) 8 (3 * b + 2) qm) 0 25 0 := ⟨_, rfl⟩
  rw [← hRC]
  have c0 : ∀ j, j ≠ 25 → RC 0 j = RA 0 j := fun j hj => by rw [hRC, z_neK hj, z_neP (by omega), z_neP (by omega), z_neP (by omega), ow' 0 (by omega) (by omega) (by omega), z_neP (by omega), z_neP (by omega)]
  have cw : ∀ w, w ≠ 0 → w ≠ 8 → RC w = RB' w := fun w h0 h8 => by rw [hRC, z_neP h0, z_neP h8, z_neP h8, z_neP h8]
  have c25 : RC 0 25 = qi 0 := by rw [hRC, z_same]; rfl
  have hTC : tpR RC t tl := by
    unfold tpR
    rw [c0 2 (by omega), cw 1 (by omega) (by omega), ow' 1 (by omega) (by omega) (by omega), z_neP (by omega), z_neP (by omega), aw 1 (by omega)]
    exact ⟨htl, a2, ht⟩
  obtain ⟨⟨R1, M1⟩, ea, ⟨h5, hk⟩, f1, f2, f3, f4⟩ := r_ahd (e := 0) (M := MB) hTC (Nat.zero_le _) (by rw [c0 5 (by omega)]; exact a5)
  dsimp only at h5 hk f1 f2 f3 f4
  rw [ea, o_bind]
  refine ⟨R1, M1, rfl, ⟨?_, ⟨?_, ?_⟩, h5, hk⟩, ⟨?_, ?_, ?_, ?_, ?_, ?_, ?_⟩, fun k hk36 => ?_, fun r hr => ?_, ⟨fun j j1 j2 j3 j4 j5 j6 j8 j9 j12 j25 j26 => ?_, fun j hj => ?_, fun j hj => ?_, fun j hj => ?_, fun j hj => ?_, fun w w0 w2 w3 w4 w6 w7 w8 => ?_⟩, f3, f4⟩
  · unfold tpR; rw [f1 2 (by omega) (by omega) (by omega) (by omega) (by omega), f2 1 (by omega)]; exact hTC
  · rw [f1 8 (by omega) (by omega) (by omega) (by omega) (by omega), c0 8 (by omega)]; exact a8
  · rw [f1 9 (by omega) (by omega) (by omega) (by omega) (by omega), c0 9 (by omega)]; exact a9
  · rw [f1 26 (by omega) (by omega) (by omega) (by omega) (by omega), c0 26 (by omega)]; exact a26
  · rw [f1 25 (by omega) (by omega) (by omega) (by omega) (by omega)]; exact c25
  · rw [f1 1 (by omega) (by omega) (by omega) (by omega) (by omega), c0 1 (by omega)]; exact a1
  · rw [f2 2 (by omega), cw 2 (by omega) (by omega), ow' 2 (by omega) (by omega) (by omega), z_neP (by omega), z_same]; rfl
  · rw [f2 3 (by omega), cw 3 (by omega) (by omega), ow' 3 (by omega) (by omega) (by omega), z_same]; rfl
  · rw [f2 7 (by omega), cw 7 (by omega) (by omega)]; exact d7
  · rw [f2 7 (by omega), cw 7 (by omega) (by omega)]; exact d7'
  · rw [f2 4 (by omega), f2 6 (by omega), cw 4 (by omega) (by omega), cw 6 (by omega) (by omega)]; exact d46 k hk36
  · rw [f2 8 (by omega), hRC, z_neP (by omega)]
    have hr3 : r = 0 ∨ r = 1 ∨ r = 2 := by omega
    rcases hr3 with rfl | rfl | rfl
    · rw [z_neK (by omega), z_neK (by omega), z_same]
    · rw [z_neK (by omega), z_same]
    · rw [z_same]
  · rw [f1 j j3 j4 j5 j6 j12, c0 j j25]; exact aj j j1 j2 j5 j8 j9 j26
  · rw [f2 2 (by omega), f2 3 (by omega), cw 2 (by omega) (by omega), cw 3 (by omega) (by omega), ow' 2 (by omega) (by omega) (by omega), ow' 3 (by omega) (by omega) (by omega), z_neP (by omega), z_neK hj, z_neK hj, z_neP (by omega), aw 2 (by omega), aw 3 (by omega)]
    exact ⟨rfl, rfl⟩
  · rw [f2 7 (by omega), cw 7 (by omega) (by omega), o7 j hj, z_neP (by omega), z_neP (by omega), aw 7 (by omega)]
  · rw [f2 4 (by omega), f2 6 (by omega), cw 4 (by omega) (by omega), cw 6 (by omega) (by omega), (o46 j hj).1, (o46 j hj).2, z_neP (by omega), z_neP (by omega), z_neP (by omega), z_neP (by omega), aw 4 (by omega), aw 6 (by omega)]
    exact ⟨rfl, rfl⟩
  · rw [f2 8 (by omega), hRC, z_neP (by omega), z_neK (by omega), z_neK (by omega), z_neK (by omega), ow' 8 (by omega) (by omega) (by omega), z_neP (by omega), z_neP (by omega), aw 8 (by omega)]
  · rw [f2 w w0, cw w w0 w8, ow' w w4 w6 w7, z_neP w3, z_neP w2, aw w w0]
end
