section
variable {b k cd n0 n tn tl tw u p7 : Nat} {V V' R R' : zI} {L M M' : zL} {K N : Nat → Nat} {G : zG} {ed t w st : Nat → Nat} {tk : Nat → tkT} {C : List Nat} {U : aU}
def kc5 (N : Nat → Nat) (G : zG) (y u p7 : Nat) (x x' : Int32) (V : zI) (L : zL) : Option (zI × zL) := (f_X5_readNumber N G y 1 9 V L).bind fun r6 => (if (r6.2.1 y 10) = 0 then (f_X9_isPair N G u x x' r6.2.1 r6.2.2).bind fun r7 => (if r7 = 0 then some (r6.2.1, r6.2.2) else if inB ((x * 6) + x') (N p7) then if inB ((x' * 6) + x) (N p7) then some (z_uI (z_uI (z_uI r6.2.1 p7 ((x * 6) + x').toNatClampNeg r6.1) p7 ((x' * 6) + x).toNatClampNeg r6.1) u 1 (((z_uI (z_uI r6.2.1 p7 ((x * 6) + x').toNatClampNeg r6.1) p7 ((x' * 6) + x).toNatClampNeg r6.1) u 1) + 1), r6.2.2) else none else none) else some (r6.2.1, r6.2.2))
def zc5 (x1 x2 : Int32) (R : zI) (M : zL) : Option (zI × zL) := (f_number 1 9 R M).bind fun r3 => (if (r3.2.1 0 8) ≤ 0 then (f_at (r3.2.1 0 26) x1 x2 r3.2.1 r3.2.2).bind fun r4 => if inB r4.1 72 then (f_at ((z_uI r4.2.1 4 r4.1.toNatClampNeg r3.1) 0 26) x2 x1 (z_uI r4.2.1 4 r4.1.toNatClampNeg r3.1) r4.2.2).bind fun r6 => if inB r6.1 72 then if inB ((z_uI r6.2.1 4 r6.1.toNatClampNeg r3.1) 0 26) 2 then if inB ((z_uI r6.2.1 4 r6.1.toNatClampNeg r3.1) 0 26) 2 then some (z_uI (z_uI r6.2.1 4 r6.1.toNatClampNeg r3.1) 3 ((z_uI r6.2.1 4 r6.1.toNatClampNeg r3.1) 0 26).toNatClampNeg (((z_uI r6.2.1 4 r6.1.toNatClampNeg r3.1) 3 ((z_uI r6.2.1 4 r6.1.toNatClampNeg r3.1) 0 26).toNatClampNeg) + 1), r6.2.2) else none else none else none else none else some (r3.2.1, r3.2.2))
def kc4 (N : Nat → Nat) (G : zG) (y u p7 : Nat) (x x' : Int32) (V : zI) (L : zL) : Option (zI × zL) := (f_X5_skipOwn N G y 3 V L).bind fun r5 => kc5 N G y u p7 x x' r5.1 r5.2
def zc4 (x x' : Int32) (R : zI) (M : zL) : Option (zI × zL) := (f_must_ 1684109683 R M).bind fun r2 => zc5 x x' r2.1 r2.2
def kc3 (N : Nat → Nat) (G : zG) (y u p7 : Nat) (x : Int32) (V : zI) (L : zL) : Option (zI × zL) := (f_X5_readNamed N G y x 1 V L).bind fun r4 => kc4 N G y u p7 x r4.1 r4.2.1 r4.2.2
def zc3 (x but : Int32) (R : zI) (M : zL) : Option (zI × zL) := (f_knownBut but R M).bind fun r1 => zc4 x r1.1 r1.2.1 r1.2.2
def kc2 (N : Nat → Nat) (G : zG) (y u p7 : Nat) (x : Int32) (V : zI) (L : zL) : Option (zI × zL) := (f_X5_skipOwn N G y 2 V L).bind fun r3 => kc3 N G y u p7 x r3.1 r3.2
def zc2 (x : Int32) (R : zI) (M : zL) : Option (zI × zL) := (f_must_ 29807 R M).bind fun r3 => zfix (b_carting_46) FU (x, ((1 : Int32) <<< (x &&& 31)), 0, r3.1, r3.2)
/-- the towns that a cart may not go to, gathered -/
theorem z_lp {a : Nat} (ha : a < 6) (hb2 : b < 2) (h26 : R 0 26 = qi b) (h4 : ∀ k, k < 36 → R 4 (36 * b + k) = qi (w k) ∧ w k ≤ 9) : ∀ m i B f, i + m = 6 → B < 64 → (∀ j, j < 6 → (B.testBit j = true ↔ (j = a ∨ (j < i ∧ 0 < w (6 * a + j))))) → ∃ B', B' < 64 ∧ (∀ j, j < 6 → (B'.testBit j = true ↔ (j = a ∨ 0 < w (6 * a + j)))) ∧ zfix b_carting_46 (f + m + 1) (qi a, qi B, qi i, R, M) = zc3 (qi a) (qi B') R M := by
  intro m
  induction m with
  | zero =>
    intro i B f hi hB hbit
    have hi : i = 6 := by omega
    subst hi
    refine ⟨B, hB, fun j hj => ?_, ?_⟩
    · rw [hbit j hj]
      constructor
      · rintro (h | h)
        · exact Or.inl h
        · exact Or.inr h.2
      · rintro (h | h)
        · exact Or.inl h
        · exact Or.inr ⟨hj, h⟩
    · show (if (6 : Int32) ≤ qi 6 then zc3 (qi a) (qi B) R M else (f_at (R 0 26) (qi a) (qi 6) R M).bind fun r10 => if inB r10.1 72 then (if (r10.2.1 4 r10.1.toNatClampNeg) ≤ 0 then zfix b_carting_46 f (qi a, (qi B ||| 0), (qi 6 + 1), r10.2.1, r10.2.2) else zfix b_carting_46 f (qi a, (qi B ||| ((1 : Int32) <<< (qi 6 &&& 31))), (qi 6 + 1), r10.2.1, r10.2.2)) else none) = _
      exact if_pos (by decide)
  | succ m ih =>
    intro i B f hi hB hbit
    have e36 : (36 : Int32) * R 0 26 + 6 * qi a + qi i = qi (36 * b + (6 * a + i)) := by rw [h26, show (36 : Int32) = qi 36 from rfl, show (6 : Int32) = qi 6 from rfl, q_mul, q_mul, q_add, q_add, Nat.add_assoc]
    obtain ⟨hw1, hw2⟩ := h4 (6 * a + i) (by omega)
    have hstep : zfix b_carting_46 (f + (m + 1) + 1) (qi a, qi B, qi i, R, M) = zfix b_carting_46 (f + m + 1) (qi a, qi (if 0 < w (6 * a + i) then B ||| 2 ^ i else B), qi (i + 1), R, M) := by
      show (if (6 : Int32) ≤ qi i then _ else (f_at (R 0 26) (qi a) (qi i) R M).bind fun r10 => if inB r10.1 72 then (if (r10.2.1 4 r10.1.toNatClampNeg) ≤ 0 then zfix b_carting_46 (f + m + 1) (qi a, (qi B ||| 0), (qi i + 1), r10.2.1, r10.2.2) else zfix b_carting_46 (f + m + 1) (qi a, (qi B ||| ((1 : Int32) <<< (qi i &&& 31))), (qi i + 1), r10.2.1, r10.2.2)) else none) = _
      rw [if_neg (by rw [q_lit, q_le (by omega) (by omega)]; omega)]
      unfold f_at
      rw [o_bind, e36]
      dsimp only
      rw [if_pos (q_inP (by omega) (by omega)), q_nn (by omega), show (1 : Int32) = qi 1 from rfl, q_add]
      by_cases hp : 0 < w (6 * a + i)
      · rw [if_neg (by rw [hw1, q_lit, q_le (by omega) (by omega)]; omega), if_pos hp, show (qi 1 : Int32) = 1 from rfl, qb_1 i (by omega), q_or (by omega) (by
          have h1 : 2 ^ i < 2 ^ 6 := Nat.pow_lt_pow_right (by decide) (by omega)
          have h2 : (2 : Nat) ^ 6 = 64 := rfl
          omega)]
      · rw [if_pos (by rw [hw1, q_lit, q_le (by omega) (by omega)]; omega), if_neg hp, show (0 : Int32) = qi 0 from rfl, q_or (by omega) (by omega), Nat.or_zero]
    rw [hstep]
    refine ih (i + 1) _ f (by omega) ?_ (fun j hj => ?_)
    · by_cases hp : 0 < w (6 * a + i)
      · rw [if_pos hp]
        exact Nat.or_lt_two_pow (n := 6) hB (Nat.pow_lt_pow_right (by decide) (by omega))
      · rw [if_neg hp]; exact hB
    · by_cases hp : 0 < w (6 * a + i)
      · rw [if_pos hp, Nat.testBit_or, Nat.testBit_two_pow, Bool.or_eq_true, hbit j hj, decide_eq_true_iff]
        constructor
        · rintro ((h | h) | h)
          · exact Or.inl h
          · exact Or.inr ⟨by omega, h.2⟩
          · subst h; exact Or.inr ⟨by omega, hp⟩
        · rintro (h | h)
          · exact Or.inl (Or.inl h)
          · by_cases e : i = j
            · exact Or.inr e
            · exact Or.inl (Or.inr ⟨by omega, h.2⟩)
      · rw [if_neg hp, hbit j hj]
        constructor
        · rintro (h | h)
          · exact Or.inl h
          · exact Or.inr ⟨by omega, h.2⟩
        · rintro (h | h)
          · exact Or.inl h
          · by_cases e : i = j
            · subst e; exact absurd h.2 hp
            · exact Or.inr ⟨by omega, h.2⟩
theorem z_lp0 {a : Nat} (ha : a < 6) (hb2 : b < 2) (h26 : R 0 26 = qi b) (h4 : ∀ k, k < 36 → R 4 (36 * b + k) = qi (w k) ∧ w k ≤ 9) : ∃ B', B' < 64 ∧ (∀ j, j < 6 → (B'.testBit j = true ↔ (j = a ∨ 0 < w (6 * a + j)))) ∧ zfix b_carting_46 FU (qi a, ((1 : Int32) <<< (qi a &&& 31)), 0, R, M) = zc3 (qi a) (qi B') R M := by
  rw [qb_1 a (by omega), show (0 : Int32) = qi 0 from rfl]
  refine z_lp ha hb2 h26 h4 6 0 (2 ^ a) 9999993 rfl ?_ (fun j hj => ?_)
  · exact Nat.pow_lt_pow_right (n := 6) (by decide) ha
  · rw [Nat.testBit_two_pow, decide_eq_true_iff]
    constructor
    · intro h; exact Or.inl h.symm
    · rintro (h | h)
      · exact h.symm
      · omega
theorem bt2 {a B : Nat} (hB : B < 64) (hbit : ∀ j, j < 6 → (B.testBit j = true ↔ (j = a ∨ 0 < w (6 * a + j)))) : ∀ j, j < tw → tw ≤ 6 → (wrD (some a) true w j → f_has2 (qi B) (qi j) = some 1) ∧ (¬ wrD (some a) true w j → f_has2 (qi B) (qi j) = some 0) := fun j hj ht => by
  rw [r_has2t hB (by omega)]
  constructor
  · intro h
    have : B.testBit j = true := (hbit j (by omega)).mpr (by
      rcases h with h | h
      · exact Or.inl h
      · exact Or.inr h.2)
    rw [this]; rfl
  · intro h
    have : B.testBit j = false := by
      cases e : B.testBit j with
      | false => rfl
      | true =>
        rcases (hbit j (by omega)).mp e with g | g
        · exact absurd (Or.inl g) h
        · exact absurd (Or.inr ⟨rfl, g⟩) h
    rw [this]; rfl
theorem c5E {x x' z z' : Int32} (h : JF n0 (n0 + 9) V tn R M V' R' M') : zX (kc5 N G n0 u p7 x x' V' L) (zc5 z z' R' M') (S1 n0 b tn tl t ed tk k cd U n N G V R M L) := by
  unfold kc5 zc5
  obtain ⟨e1, e2⟩ := j_numE (N := N) (G := G) (L := L) (x := 1) (x' := 9) (z := 1) (z' := 9) h
  rw [e1, e2, o_bind, o_bind, if_neg (JF_10 h).1, if_neg (JF_10 h).2.2]
  exact zX_some (S1_F rfl h)
theorem c4E {x x' z z' : Int32} (h : JF n0 (n0 + 9) V tn R M V' R' M') : zX (kc4 N G n0 u p7 x x' V' L) (zc4 z z' R' M') (S1 n0 b tn tl t ed tk k cd U n N G V R M L) := by
  unfold kc4 zc4
  obtain ⟨e1, e2⟩ := j_ownE (N := N) (G := G) (L := L) (x := 1684109683) (z := 3) h
  rw [e1, e2, o_bind, o_bind]
  exact c5E h
theorem c3E {x z but : Int32} (hu : unS N G u) (hy5 : G n0 5 = some u) (h : JF n0 (n0 + 9) V tn R M V' R' M') : zX (kc3 N G n0 u p7 x V' L) (zc3 z but R' M') (S1 n0 b tn tl t ed tk k cd U n N G V R M L) := by
  unfold kc3 zc3
  obtain ⟨e1, e2⟩ := j_namedE (L := L) (x1 := x) (x2 := 1) (but := but) hu hy5 h
  rw [e1, e2, o_bind, o_bind]
  exact c4E h
theorem c2E {x z : Int32} {a : Nat} (hz : z = qi a) (ha : a < 6) (hb2 : b < 2) (h26 : R 0 26 = qi b) (h4 : ∀ k, k < 36 → R 4 (36 * b + k) = qi (w k) ∧ w k ≤ 9) (hu : unS N G u) (hy5 : G n0 5 = some u) (h : JF n0 (n0 + 9) V tn R M V' R' M') : zX (kc2 N G n0 u p7 x V' L) (zc2 z R' M') (S1 n0 b tn tl t ed tk k cd U n N G V R M L) := by
  subst hz
  obtain ⟨f, pl, -, hz⟩ := id h
  unfold kc2 zc2
  obtain ⟨e1, e2⟩ := j_ownE (N := N) (G := G) (L := L) (x := 29807) (z := 2) h
  rw [e1, e2, o_bind, o_bind]
  obtain ⟨B, -, -, e⟩ := z_lp0 (M := M') ha hb2 ((hz.1.1 26 (by omega) (by omega) (by omega) (by omega) (by omega) (by omega) (by omega)).trans h26) (by rw [hz.1.2.1 4 (by omega)]; exact h4)
  dsimp only
  rw [e]
  exact c3E hu hy5 h
set_option maxHeartbeats 4000000 in
theorem s_cart (hA : AH t tl ed tk tn) (hW : TW tk tn) (h : ST n0 b tn tl t ed tk k cd U w st n N G V R M) (h0 : (tk k).1 ≠ 0) : zX (f_X5_readCart N G n0 V L) (f_carting R M) (S1 n0 b tn tl t ed tk k cd U n N G V R M L) := by
  obtain ⟨C, hCl, hj⟩ := ST_JK h
  obtain ⟨tw, ct, way, encl, lost, rul, nam⟩ := U
  obtain ⟨hCU, ⟨h26, h2b, h3b⟩, hnm, hV1, hct, h4⟩ := ST_CU h
  have hCV := h.1.1
  have hTV := h.1.2.2.1
  have hT := h.2.2.2.1.1
  have hun := h.1.2.1.1
  have hy5 := h.1.2.1.2.1
  have hb2 := h.2.2.2.2.2.1
  have hk1 := hW.1 k hj.1.2.1 h0
  have htw := hCU.1.2
  have hd9 := hCV.2.2.1.2.2.2.2.1
  have h4' : ∀ k, k < 36 → R 4 (36 * b + k) = qi (w k) ∧ w k ≤ 9 := fun k hk => ⟨h4 k hk, (hCU.2.2 k hk).2⟩
  unfold f_X5_readCart f_carting
  rw [hy5, o_bind, hun.2.1.2.2, o_bind]
  unfold g_X5_readCart
  rw [if_pos (show inB (R 0 26) 2 by rw [h26]; exact q_inP hb2 (by omega))]
  have e3 : R 3 (R 0 26).toNatClampNeg = qi ct := by rw [h26, q_nn (by omega)]; exact h3b
  by_cases hfull : ct = 12
  · rw [if_neg (show ¬ V (n0 + 1) 1 < 12 by rw [hV1, hfull]; decide), if_pos (show R 3 (R 0 26).toNatClampNeg = 12 by rw [e3, hfull]; rfl)]
    unfold f_carting_20
    have b4 : V n0 4 = qi (tk k).2.2 := hj.1.2.2.1.2.2.2
    rw [b4]
    obtain ⟨⟨V1, L1⟩, e1, rfl, g1⟩ := k_fail (N := N) (G := G) (L := L) (f := 6) (pl := (tk k).2.2) hj.1 hd9 (by omega)
    obtain ⟨⟨z, R1, M1⟩, f1, rfl, g1'⟩ := z_cnt1 hj.2
    dsimp only at g1 g1'
    rw [show (6 : Int32) = qi 6 from rfl, e1, o_bind, f1, o_bind, if_pos (show (0 : Int32) = 0 from rfl)]
    exact zX_some (S1_F rfl ⟨_, _, ⟨_, _, g1, by omega⟩, g1'⟩)
  rw [if_pos (show V (n0 + 1) 1 < 12 by rw [hV1, q_lit, q_lt (by omega) (by omega)]; omega), if_neg (show ¬ R 3 (R 0 26).toNatClampNeg = 12 by rw [e3, q_lit, q_eq (by omega) (by omega)]; exact hfull)]
  unfold f_carting_20
  obtain ⟨⟨V1, L1⟩, e1, rfl, g1⟩ := k_take (L := L) hCV hTV hW hj.1 h0
  obtain ⟨⟨z, R1, M1⟩, f1, rfl, g1'⟩ := z_cnt0 hA hT hk1 hj.2
  dsimp only at g1 g1'
  rw [e1, o_bind, f1, o_bind]
  dsimp only
  rw [if_neg (show ¬ (1 : Int32) = 0 by decide)]
  have j1 : JK n0 (n0 + 9) V tk tn R M ed C (k + 1) V1 R1 M1 := ⟨g1, g1'⟩
  show zX ((f_X5_readNamed N G n0 (-1) 1 V1 L1).bind fun r2 => kc2 N G n0 (n0 + 1) (n0 + 1 + 3) r2.1 r2.2.1 r2.2.2) ((f_knownBut 0 R1 M1).bind fun r2 => zc2 r2.1 r2.2.1 r2.2.2) _
  refine zX_call (j_named (L := L1) (fi := none) (ca := true) (x1 := -1) (x2 := 1) hA hT hCV hTV hW (by omega) hun hy5 (JK_CU j1 hCU) hb2 h26 h2b hnm (fun j hj => bt0 j hj htw) (Or.inl ⟨rfl, rfl⟩) rfl j1) ?_
  rintro ⟨v1, V2, L2⟩ ⟨v2, R2, M2⟩ ⟨rfl, hn⟩
  dsimp only at hn ⊢
  rcases hn with ⟨a, ha, -, rfl, rfl, j2⟩ | ⟨e0, hf⟩
  case inr => exact c2E (a := 0) e0 (by omega) hb2 h26 h4' hun hy5 hf
  unfold kc2 zc2
  refine zX_call (j_own (i := 2) (by omega) rfl hA hT hCV hTV hW (by omega) j2) ?_
  rintro ⟨V3, L3⟩ ⟨R3, M3⟩ ⟨rfl, hn⟩
  dsimp only at hn ⊢
  have hz3 : ZF R M R3 M3 := by
    rcases hn with j3 | ⟨f, pl, -, hz⟩
    · exact j3.2.1
    · exact hz.1
  obtain ⟨B, hB, hbit, eB⟩ := z_lp0 (M := M3) (a := a) (by omega) hb2 ((hz3.1 26 (by omega) (by omega) (by omega) (by omega) (by omega) (by omega) (by omega)).trans h26) (by rw [hz3.2.1 4 (by omega)]; exact h4')
  rw [eB]
  rcases hn with j3 | hf
  case inr => exact c3E hun hy5 hf
  unfold kc3 zc3
  refine zX_call (j_named (fi := some a) (ca := true) hA hT hCV hTV hW (by omega) hun hy5 (JK_CU j3 hCU) hb2 h26 h2b hnm (fun j hj => bt2 hB hbit j hj htw) (Or.inr ⟨a, rfl, ha, rfl⟩) rfl j3) ?_
  rintro ⟨v1, V4, L4⟩ ⟨v2, R4, M4⟩ ⟨rfl, hn⟩
  dsimp only at hn ⊢
  rcases hn with ⟨d, hd, hwr, rfl, rfl, j4⟩ | ⟨-, hf⟩
  case inr => exact c4E hf
  have had : a ≠ d := fun e => hwr (Or.inl e.symm)
  unfold kc4 zc4
  refine zX_call (j_own (i := 3) (by omega) rfl hA hT hCV hTV hW (by omega) j4) ?_
  rintro ⟨V5, L5⟩ ⟨R5, M5⟩ ⟨rfl, hn⟩
  dsimp only at hn ⊢
  rcases hn with j5 | hf
  case inr => exact c5E hf
  unfold kc5 zc5
  refine zX_call (j_num (lo := 1) (hi := 9) (by omega) (by omega) hA hT hCV hTV hW (by omega) j5) ?_
  rintro ⟨v1, V6, L6⟩ ⟨v2, R6, M6⟩ ⟨rfl, hn⟩
  dsimp only at hn ⊢
  rcases hn with ⟨v, hv, rfl, rfl, j6⟩ | ⟨rfl, hf⟩
  case inr =>
    rw [if_neg (JF_10 hf).1, if_neg (JF_10 hf).2.2]
    exact zX_some (S1_F rfl hf)
  have hst := S1_K (r := (V6, L6)) (r' := (R6, M6)) h (show k < k + 1 + 1 + 1 + 1 + 1 + 1 by omega) rfl hCl j6
  dsimp only at hst
  obtain ⟨⟨b1, b2, b3, ⟨c1, c2, c3, c4⟩, b6⟩, -, ⟨⟨u1, u2, u3, u4, u5⟩, v1, v2, v3, v4⟩, -, ⟨⟨d1, d2, d3, d4⟩, -⟩, -⟩ := id hst
  have e10 : V6 n0 10 = qi 0 := j6.1.2.2.2.1.2.2.1
  have e26 : R6 0 26 = qi b := d1.2.1
  rw [if_pos (show V6 n0 10 = 0 from e10), if_pos (show R6 0 8 ≤ 0 by rw [j6.2.2.1.1]; exact le00), k_isP c1.1 htw ha hd had, o_bind, if_neg (by decide)]
  have e6 : qi a * 6 + qi d = qi (6 * a + d) := by rw [show (6 : Int32) = qi 6 from rfl, q_mul, q_add, Nat.mul_comm]
  have e6' : qi d * 6 + qi a = qi (6 * d + a) := by rw [show (6 : Int32) = qi 6 from rfl, q_mul, q_add, Nat.mul_comm]
  have hN7 : N (n0 + 1 + 3) = 36 := hun.2.2.2.2
  rw [if_pos (show inB (qi a * 6 + qi d) (N (n0 + 1 + 3)) by rw [e6, hN7]; exact q_inP (by omega) (by omega)), if_pos (show inB (qi d * 6 + qi a) (N (n0 + 1 + 3)) by rw [e6', hN7]; exact q_inP (by omega) (by omega)), e6, e6', q_nn (by omega), q_nn (by omega)]
  have e36 : ∀ x y, (36 : Int32) * qi b + 6 * qi x + qi y = qi (36 * b + (6 * x + y)) := fun x y => by rw [show (36 : Int32) = qi 36 from rfl, show (6 : Int32) = qi 6 from rfl, q_mul, q_mul, q_add, q_add, Nat.add_assoc]
  unfold f_at
  rw [o_bind, e26, e36]
  dsimp only
  rw [if_pos (q_inP (by omega) (by omega)), q_nn (by omega), o_bind]
  have f26 : z_uI R6 4 (36 * b + (6 * a + d)) (qi v) 0 26 = qi b := by rw [z_neP (by omega)]; exact e26
  dsimp only
  rw [f26, e36, if_pos (q_inP (by omega) (by omega)), q_nn (by omega)]
  have g26 : z_uI (z_uI R6 4 (36 * b + (6 * a + d)) (qi v)) 4 (36 * b + (6 * d + a)) (qi v) 0 26 = qi b := by rw [z_neP (by omega)]; exact f26
  have g3 : z_uI (z_uI R6 4 (36 * b + (6 * a + d)) (qi v)) 4 (36 * b + (6 * d + a)) (qi v) 3 b = qi ct := by rw [z_neP (by omega), z_neP (by omega)]; exact d1.2.2.2.1
  have gV : z_uI (z_uI V6 (n0 + 1 + 3) (6 * a + d) (qi v)) (n0 + 1 + 3) (6 * d + a) (qi v) (n0 + 1) 1 = qi ct := by rw [z_neP (by omega), z_neP (by omega)]; exact c1.2.1
  rw [g26, if_pos (q_inP hb2 (by omega)), if_pos (q_inP hb2 (by omega)), q_nn (by omega), g3, gV, show (1 : Int32) = qi 1 from rfl, q_add]
  have hwv : ∀ i, i < 36 → (V6 (n0 + 1 + 3) i = qi (w i)) := c2
  have hup : upB (fun i => if i = 6 * a + d ∨ i = 6 * d + a then v else w i) st (tw, ct + 1, itW (fun i => if i = 6 * a + d ∨ i = 6 * d + a then v else w i) 6, encl, lost, rul, nam) := by
    refine ⟨fun i hi => ⟨?_, fun e => ?_⟩, fun i hi hp => ?_, u3, u4, rfl⟩
    · dsimp only
      by_cases e : i = 6 * a + d ∨ i = 6 * d + a
      · rw [if_pos e]; exact hv.2
      · rw [if_neg e]; exact (u1 i hi).1
    · dsimp only
      rw [if_neg (by omega)]
      exact (u1 i hi).2 e
    · dsimp only at hp
      by_cases e : i = 6 * a + d ∨ i = 6 * d + a
      · show i / 6 < tw ∧ i % 6 < tw
        omega
      · rw [if_neg e] at hp
        exact u2 i hi hp
  refine zX_some (S1_mk (fun x hx => ?_) ?_ ?_ ⟨k + 6, (tw, ct + 1, itW (fun i => if i = 6 * a + d ∨ i = 6 * d + a then v else w i) 6, encl, lost, rul, nam), (fun i => if i = 6 * a + d ∨ i = 6 * d + a then v else w i), st, by omega, rfl, ?_⟩)
  · rw [z_neP (by omega), z_neP (by omega), z_neP (by omega)]
    exact j6.1.1.1 x (by omega) (by omega)
  · refine RQ_x (RQ_Z j6.2.1) (by rw [z_neP (by omega), z_neP (by omega), z_neP (by omega)]) (fun j hj => ⟨by rw [z_neP (by omega), z_neP (by omega), z_neP (by omega)], by rw [z_neK hj, z_neP (by omega), z_neP (by omega)]⟩) (fun j hj => ⟨by rw [z_neP (by omega), z_neK (by omega), z_neK (by omega)], by rw [z_neP (by omega), z_neP (by omega), z_neP (by omega)]⟩) (fun j hj => by rw [z_neP (by omega), z_neP (by omega), z_neP (by omega)]) (fun x hx => by rw [z_neP (by omega), z_neP (by omega), z_neP (by omega)]) (fun j _ => rfl) (fun v _ => rfl)
  · rw [z_neK (by omega), z_neP (by omega), z_neP (by omega), j6.1.1.1 (n0 + 1) (by omega) (by omega)]
  · refine ST_x hst (fun x hx => by rw [z_neP (by omega), z_neP (by omega), z_neP (by omega)]) (by rw [z_neP (by omega), z_neP (by omega), z_neP (by omega)]) (by rw [z_neP (by omega), z_neP (by omega), z_neP (by omega)]) (by rw [z_neP (by omega), z_neP (by omega), z_neP (by omega)]) (by rw [z_neP (by omega), z_neP (by omega), z_neP (by omega)]) (by rw [z_neP (by omega), z_neP (by omega), z_neP (by omega)]) (by rw [z_neP (by omega), z_neP (by omega), z_neP (by omega)]) rfl ⟨⟨?_, z_same, ?_, ?_⟩, fun i hi => ?_, ?_, fun r hr => ⟨(c4 r hr).1, fun l hl => ?_⟩⟩ ⟨⟨hb2, ?_, ?_, z_same, ?_, ?_⟩, ⟨fun i hi => ?_, ?_⟩, ?_, ?_⟩ ⟨hup, ⟨v1.1, by omega, v1.2.2⟩, up_way hup, v3, v4⟩ rfl
    · rw [z_neK (by omega), z_neP (by omega), z_neP (by omega)]; exact c1.1
    · rw [z_neK (by omega), z_neP (by omega), z_neP (by omega)]; exact c1.2.2.1
    · rw [z_neK (by omega), z_neP (by omega), z_neP (by omega)]; exact c1.2.2.2
    · rw [z_neP (by omega)]
      dsimp only
      by_cases e2 : i = 6 * d + a
      · rw [if_pos (Or.inr e2), e2, z_same]
      · rw [z_neK e2]
        by_cases e1 : i = 6 * a + d
        · rw [if_pos (Or.inl e1), e1, z_same]
        · rw [z_neK e1, if_neg (by omega)]; exact c2 i hi
    · rw [z_neP (by omega), z_neP (by omega), z_neP (by omega), z_neP (by omega), z_neP (by omega), z_neP (by omega)]; exact c3
    · obtain ⟨p, p1, p2, p3, p4⟩ := (c4 r hr).2 l hl
      have := b6 r p hr p1
      exact ⟨p, p1, p2, p3, by rw [z_neP (by omega), z_neP (by omega), z_neP (by omega)]; exact p4⟩
    · rw [z_neP (by omega), z_neP (by omega), z_neP (by omega)]; exact d1.2.1
    · rw [z_neP (by omega), z_neP (by omega), z_neP (by omega)]; exact d1.2.2.1
    · rw [z_neP (by omega), z_neP (by omega), z_neP (by omega)]; exact d1.2.2.2.2.1
    · rw [z_neP (by omega), z_neP (by omega), z_neP (by omega)]; exact d1.2.2.2.2.2
    · rw [z_neP (by omega)]
      dsimp only
      by_cases e2 : i = 6 * d + a
      · rw [if_pos (Or.inr e2), e2, z_same]
      · rw [z_neK (by omega)]
        by_cases e1 : i = 6 * a + d
        · rw [if_pos (Or.inl e1), e1, z_same]
        · rw [z_neK (by omega), if_neg (by omega)]; exact d2.1 i hi
    · rw [z_neP (by omega), z_neP (by omega), z_neP (by omega)]; exact d2.2
    · exact d3
    · rw [z_neP (by omega), z_neP (by omega), z_neP (by omega), z_neP (by omega), z_neP (by omega), z_neP (by omega), z_neP (by omega), z_neP (by omega), z_neP (by omega), z_neP (by omega), z_neP (by omega), z_neP (by omega)]; exact d4
end
