section
variable {b k cd n0 n tn tl tw u p6 : Nat} {V V' R R' : zI} {L M M' : zL} {K N : Nat → Nat} {G : zG} {ed t w st : Nat → Nat} {tk : Nat → tkT} {C : List Nat} {U : aU}
def kh4 (N : Nat → Nat) (G : zG) (y u p6 : Nat) (x x' : Int32) (V : zI) (L : zL) : Option (zI × zL) := (f_X5_readNumber N G y 0 20 V L).bind fun r5 => (if (r5.2.1 y 10) = 0 then (f_X9_isPair N G u x x' r5.2.1 r5.2.2).bind fun r6 => (if r6 = 0 then some (r5.2.1, r5.2.2) else if inB ((x * 6) + x') (N p6) then some (z_uI r5.2.1 p6 ((x * 6) + x').toNatClampNeg r5.1, r5.2.2) else none) else some (r5.2.1, r5.2.2))
def zh4 (x x' : Int32) (R : zI) (M : zL) : Option (zI × zL) := (f_number 0 20 R M).bind fun r5 => (if (r5.2.1 0 8) = 0 then (f_at (r5.2.1 0 26) x x' r5.2.1 r5.2.2).bind fun r6 => if inB r6.1 72 then some (z_uI r6.2.1 6 r6.1.toNatClampNeg r5.1, r6.2.2) else none else some (r5.2.1, r5.2.2))
def kh3 (N : Nat → Nat) (G : zG) (y u p6 : Nat) (x : Int32) (V : zI) (L : zL) : Option (zI × zL) := (f_X5_readNamed N G y x 0 V L).bind fun r4 => kh4 N G y u p6 x r4.1 r4.2.1 r4.2.2
def zh3 (x : Int32) (R : zI) (M : zL) : Option (zI × zL) := (f_knownBut ((1 : Int32) <<< (x &&& 31)) R M).bind fun r4 => zh4 x r4.1 r4.2.1 r4.2.2
def kh2 (N : Nat → Nat) (G : zG) (y u p6 : Nat) (x : Int32) (V : zI) (L : zL) : Option (zI × zL) := (f_X5_skipOwn N G y 5 V L).bind fun r3 => kh3 N G y u p6 x r3.1 r3.2
def zh2 (x : Int32) (R : zI) (M : zL) : Option (zI × zL) := (f_must_ 28518 R M).bind fun r3 => zh3 x r3.1 r3.2
theorem JF_10 (h : JF n0 (n0 + 9) V tn R M V' R' M') : ¬ V' n0 10 = 0 ∧ ¬ R' 0 8 = 0 ∧ ¬ R' 0 8 ≤ 0 := by
  obtain ⟨f, pl, ⟨k, c, h1, -⟩, h2⟩ := h
  refine ⟨?_, (ZE_gt h2).2, (ZE_gt h2).1⟩
  rw [h1.2.2.1.1, q_lit, q_eq (by have := h1.2.2.2; omega) (by omega)]
  have := h1.2.2.2; omega
theorem h4E {x x' z z' : Int32} (h : JF n0 (n0 + 9) V tn R M V' R' M') : zX (kh4 N G n0 u p6 x x' V' L) (zh4 z z' R' M') (S1 n0 b tn tl t ed tk k cd U n N G V R M L) := by
  unfold kh4 zh4
  obtain ⟨e1, e2⟩ := j_numE (N := N) (G := G) (L := L) (x := 0) (x' := 20) (z := 0) (z' := 20) h
  rw [e1, e2, o_bind, o_bind, if_neg (JF_10 h).1, if_neg (JF_10 h).2.1]
  exact zX_some (S1_F rfl h)
theorem h3E {x z : Int32} (hu : unS N G u) (hy5 : G n0 5 = some u) (h : JF n0 (n0 + 9) V tn R M V' R' M') : zX (kh3 N G n0 u p6 x V' L) (zh3 z R' M') (S1 n0 b tn tl t ed tk k cd U n N G V R M L) := by
  unfold kh3 zh3
  obtain ⟨e1, e2⟩ := j_namedE (L := L) (x1 := x) (x2 := 0) (but := (1 : Int32) <<< (z &&& 31)) hu hy5 h
  rw [e1, e2, o_bind, o_bind]
  exact h4E h
theorem h2E {x z : Int32} (hu : unS N G u) (hy5 : G n0 5 = some u) (h : JF n0 (n0 + 9) V tn R M V' R' M') : zX (kh2 N G n0 u p6 x V' L) (zh2 z R' M') (S1 n0 b tn tl t ed tk k cd U n N G V R M L) := by
  unfold kh2 zh2
  obtain ⟨e1, e2⟩ := j_ownE (N := N) (G := G) (L := L) (x := 28518) (z := 5) h
  rw [e1, e2, o_bind, o_bind]
  exact h3E hu hy5 h
theorem bt0 {ca : Bool} : ∀ j, j < tw → tw ≤ 6 → (wrD none ca w j → f_has2 0 (qi j) = some 1) ∧ (¬ wrD none ca w j → f_has2 0 (qi j) = some 0) := fun j hj ht => ⟨fun h => absurd h (fun h => h), fun _ => by
  have := r_has2t (s := 0) (a := j) (by omega) (by omega)
  rw [Nat.zero_testBit] at this
  exact this⟩
theorem bt1 {a : Nat} (ha : a < 6) : ∀ j, j < tw → tw ≤ 6 → (wrD (some a) false w j → f_has2 ((1 : Int32) <<< (qi a &&& 31)) (qi j) = some 1) ∧ (¬ wrD (some a) false w j → f_has2 ((1 : Int32) <<< (qi a &&& 31)) (qi j) = some 0) := fun j hj ht => by
  rw [qb_1 a (by omega)]
  have h64 : 2 ^ a < 64 := by
    have h1 : 2 ^ a < 2 ^ 6 := Nat.pow_lt_pow_right (by decide) ha
    have h2 : (2 : Nat) ^ 6 = 64 := rfl
    omega
  rw [r_has2t h64 (by omega), Nat.testBit_two_pow]
  constructor
  · rintro (h | ⟨h, -⟩)
    · rw [decide_eq_true h.symm]; rfl
    · cases h
  · intro h
    rw [decide_eq_false (fun e => h (Or.inl e.symm))]; rfl
set_option maxHeartbeats 2000000 in
theorem s_hold (hA : AH t tl ed tk tn) (hW : TW tk tn) (h : ST n0 b tn tl t ed tk k cd U w st n N G V R M) (h0 : (tk k).1 ≠ 0) : zX (f_X5_readHolds N G n0 V L) (f_holding R M) (S1 n0 b tn tl t ed tk k cd U n N G V R M L) := by
  obtain ⟨C, hCl, hj⟩ := ST_JK h
  obtain ⟨tw, ct, way, encl, lost, rul, nam⟩ := U
  obtain ⟨hCU, ⟨h26, h2b, h3b⟩, hnm, -, -, -⟩ := ST_CU h
  have hCV := h.1.1
  have hTV := h.1.2.2.1
  have hT := h.2.2.2.1.1
  have hun := h.1.2.1.1
  have hy5 := h.1.2.1.2.1
  have hb2 := h.2.2.2.2.2.1
  have hk1 := hW.1 k hj.1.2.1 h0
  have htw := hCU.1.2
  unfold f_X5_readHolds f_holding
  rw [hy5, o_bind, hun.2.1.2.1, o_bind]
  unfold g_X5_readHolds
  obtain ⟨⟨V1, L1⟩, e1, rfl, g1⟩ := k_take (L := L) hCV hTV hW hj.1 h0
  obtain ⟨⟨z, R1, M1⟩, f1, rfl, g1'⟩ := z_cnt0 hA hT hk1 hj.2
  dsimp only at g1 g1'
  rw [e1, o_bind, f1, o_bind]
  dsimp only
  rw [if_neg (show ¬ (1 : Int32) = 0 by decide)]
  have j1 : JK n0 (n0 + 9) V tk tn R M ed C (k + 1) V1 R1 M1 := ⟨g1, g1'⟩
  show zX ((f_X5_readNamed N G n0 (-1) 0 V1 L1).bind fun r2 => kh2 N G n0 (n0 + 1) (n0 + 1 + 2) r2.1 r2.2.1 r2.2.2) ((f_knownBut 0 R1 M1).bind fun r2 => zh2 r2.1 r2.2.1 r2.2.2) _
  refine zX_call (j_named (fi := none) (ca := false) hA hT hCV hTV hW (by omega) hun hy5 (JK_CU j1 hCU) hb2 h26 h2b hnm (fun j hj => bt0 j hj htw) (Or.inl ⟨rfl, rfl⟩) rfl j1) ?_
  rintro ⟨v1, V2, L2⟩ ⟨v2, R2, M2⟩ ⟨rfl, hn⟩
  dsimp only at hn ⊢
  rcases hn with ⟨a, ha, -, rfl, rfl, j2⟩ | ⟨-, hf⟩
  case inr => exact h2E hun hy5 hf
  unfold kh2 zh2
  refine zX_call (j_own (i := 5) (by omega) rfl hA hT hCV hTV hW (by omega) j2) ?_
  rintro ⟨V3, L3⟩ ⟨R3, M3⟩ ⟨rfl, hn⟩
  dsimp only at hn ⊢
  rcases hn with j3 | hf
  case inr => exact h3E hun hy5 hf
  unfold kh3 zh3
  refine zX_call (j_named (fi := some a) (ca := false) hA hT hCV hTV hW (by omega) hun hy5 (JK_CU j3 hCU) hb2 h26 h2b hnm (fun j hj => bt1 (by omega) j hj htw) (Or.inr ⟨a, rfl, ha, rfl⟩) rfl j3) ?_
  rintro ⟨v1, V4, L4⟩ ⟨v2, R4, M4⟩ ⟨rfl, hn⟩
  dsimp only at hn ⊢
  rcases hn with ⟨d, hd, hwr, rfl, rfl, j4⟩ | ⟨-, hf⟩
  case inr => exact h4E hf
  have had : a ≠ d := fun e => hwr (Or.inl e.symm)
  unfold kh4 zh4
  refine zX_call (j_num (lo := 0) (hi := 20) (by omega) (by omega) hA hT hCV hTV hW (by omega) j4) ?_
  rintro ⟨v1, V5, L5⟩ ⟨v2, R5, M5⟩ ⟨rfl, hn⟩
  dsimp only at hn ⊢
  rcases hn with ⟨v, hv, rfl, rfl, j5⟩ | ⟨rfl, hf⟩
  case inr =>
    rw [if_neg (JF_10 hf).1, if_neg (JF_10 hf).2.1]
    exact zX_some (S1_F rfl hf)
  have hst := S1_K (r := (V5, L5)) (r' := (R5, M5)) h (show k < k + 1 + 1 + 1 + 1 + 1 by omega) rfl hCl j5
  dsimp only at hst
  obtain ⟨⟨b1, b2, b3, ⟨c1, c2, c3, c4⟩, b6⟩, -, ⟨⟨u1, u2, u3, u4, u5⟩, v1, v2, v3, v4⟩, -, ⟨⟨d1, d2, d3, d4⟩, -⟩, -⟩ := id hst
  have e10 : V5 n0 10 = qi 0 := j5.1.2.2.2.1.2.2.1
  have e26 : R5 0 26 = qi b := d1.2.1
  rw [if_pos (show V5 n0 10 = 0 from e10), if_pos (show R5 0 8 = 0 from j5.2.2.1.1), k_isP c1.1 htw ha hd had, o_bind, if_neg (by decide)]
  have e6 : qi a * 6 + qi d = qi (6 * a + d) := by rw [show (6 : Int32) = qi 6 from rfl, q_mul, q_add, Nat.mul_comm]
  rw [if_pos (show inB (qi a * 6 + qi d) (N (n0 + 1 + 2)) by rw [e6, hun.2.2.2.1]; exact q_inP (by omega) (by omega)), e6, q_nn (by omega)]
  unfold f_at
  rw [o_bind, e26]
  have e36 : (36 : Int32) * qi b + 6 * qi a + qi d = qi (36 * b + (6 * a + d)) := by rw [show (36 : Int32) = qi 36 from rfl, show (6 : Int32) = qi 6 from rfl, q_mul, q_mul, q_add, q_add, Nat.add_assoc]
  dsimp only
  rw [e36, if_pos (q_inP (by omega) (by omega)), q_nn (by omega)]
  refine zX_some (S1_mk (fun x hx => ?_) ?_ ?_ ⟨k + 5, (tw, ct, way, encl, lost, rul, nam), w, fun i => if i = 6 * a + d then v else st i, by omega, rfl, ?_⟩)
  · rw [z_neP (by omega)]
    exact j5.1.1.1 x (by omega) (by omega)
  · refine RQ_x (RQ_Z j5.2.1) (z_neP (by omega)) (fun j _ => ⟨by rw [z_neP (by omega)], by rw [z_neP (by omega)]⟩) (fun j hj => ⟨by rw [z_neP (by omega)], by rw [z_neK (by omega)]⟩) (fun j hj => by rw [z_neP (by omega)]) (fun x hx => z_neP (by omega)) (fun j _ => rfl) (fun v _ => rfl)
  · rw [z_neP (by omega), j5.1.1.1 (n0 + 1) (by omega) (by omega)]
  · refine ST_x hst (fun x hx => z_neP (by omega)) (z_neP (by omega)) (z_neP (by omega)) (z_neP (by omega)) (z_neP (by omega)) (z_neP (by omega)) (z_neP (by omega)) rfl ⟨?_, ?_, ⟨?_, fun i hi => ?_⟩, fun r hr => ⟨(c4 r hr).1, fun l hl => ?_⟩⟩ ⟨?_, ⟨?_, fun i hi => ?_⟩, ?_, ?_⟩ ⟨⟨u1, u2, fun i hi => ?_, fun i hi hp => ?_, u5⟩, v1, v2, v3, v4⟩ rfl
    · rw [z_neP (by omega)]; exact c1
    · rw [z_neP (by omega)]; exact c2
    · rw [z_neP (by omega)]; exact c3.1
    · by_cases e : i = 6 * a + d
      · dsimp only; rw [if_pos e, e, z_same]
      · dsimp only; rw [if_neg e, z_neK e]; exact c3.2 i hi
    · obtain ⟨p, p1, p2, p3, p4⟩ := (c4 r hr).2 l hl
      have := b6 r p hr p1
      exact ⟨p, p1, p2, p3, by rw [z_neP (by omega)]; exact p4⟩
    · rw [z_neP (by omega), z_neP (by omega), z_neP (by omega), z_neP (by omega)]; exact d1
    · rw [z_neP (by omega)]; exact d2.1
    · by_cases e : i = 6 * a + d
      · dsimp only; rw [if_pos e, e, z_same]
      · dsimp only; rw [if_neg e, z_neK (by omega)]; exact d2.2 i hi
    · exact d3
    · rw [z_neP (by omega), z_neP (by omega), z_neP (by omega), z_neP (by omega)]; exact d4
    · by_cases e : i = 6 * a + d
      · dsimp only; rw [if_pos e]; omega
      · dsimp only; rw [if_neg e]; exact u3 i hi
    · have e : i ≠ 6 * a + d := fun e => hp (by
        have h1 : i / 6 = a := by omega
        have h2 : i % 6 = d := by omega
        rw [h1, h2]
        exact ⟨ha, hd, had⟩)
      dsimp only
      rw [if_neg e]
      exact u4 i hi hp
end
