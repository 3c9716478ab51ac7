section
/-! What holds between calls. -/
def Jg (n : Nat) (K N : Nat → Nat) (G : zG) (u cnt : Nat) (pl : Nat → Nat) : Prop := (28 ≤ n ∧ K 0 = 8 ∧ fxS N G ∧ G 0 2 = some u ∧ unS N G u ∧ u + 4 ≤ n ∧ cnt ≤ 20) ∧ (∀ i, i < cnt → G 23 i = some (pl i) ∧ stS N G (pl i) ∧ 28 ≤ pl i ∧ pl i + 7 ≤ n) ∧ (∀ i, cnt ≤ i → i < 20 → G 23 i = none) ∧ (∀ i j, i < cnt → j < cnt → i ≠ j → pl i + 7 ≤ pl j ∨ pl j + 7 ≤ pl i) ∧ (∀ i, i < cnt → pl i + 7 ≤ u ∨ u + 4 ≤ pl i) ∧ (∀ i r p, i < cnt → r < 3 → G u (8 + r) = some p → p < pl i ∨ pl i + 7 ≤ p) ∧ ∀ r p, r < 3 → G u (8 + r) = some p → p < n
def JB (N : Nat → Nat) (G : zG) (V R : zI) (M : zL) (u b f0 acts : Nat) (pl : Nat → Nat) (U : aU) (A : aS) (hi : Nat → aS) : Prop := (UC N G V u U ∧ SC V 6 A ∧ UR R M b U ∧ SR R 0 A) ∧ (UB U ∧ SB U A) ∧ ∀ i, i < acts → SC V (pl i) (hi i) ∧ SR R (2 + (f0 + i) % 20) (hi i) ∧ SB U (hi i)
def Jt (a : Int32) (ca : Nat → Int32) (b : Int32) (rb : Nat → Int32) : Prop := ∃ tl, tl ≤ 1600 ∧ a = qi tl ∧ b = qi tl ∧ ∀ k, k < tl → (ca k &&& 255 = rb k ∧ ∃ t, t < 256 ∧ rb k = qi t)
def Jf (a b c d : Int32) : Prop := a = c ∧ b = d
def Jr (c r : Nat → Int32) : Prop := ∀ k, k < 6 → c k = r k
def Jb (tw : Nat) (a : Int32) (c1 c2 : Nat → Int32) (b : Int32) (r1 r2 : Nat → Int32) : Prop := ∃ br, br ≤ 16 ∧ a = qi br ∧ b = qi br ∧ ∀ k, k < br → (∃ t, t < tw ∧ c1 k = qi t ∧ r1 k = qi t) ∧ ∃ t, t < 256 ∧ c2 k = qi t ∧ r2 k = qi t
def Ji (a : Int32) (c : Nat → Int32) (b : Int32) (r : Nat → Int32) : Prop := ∃ il, il ≤ 280 ∧ a = qi il ∧ b = qi il ∧ ∀ k, k < il → c k = r k
def Js (x : Nat) (c : Int32) (l : Int64) : Prop := x < 2147483648 ∧ c = qi x ∧ l = qI x
def Ja (acts f0 cnt : Nat) (a r48 r47 : Int32) : Prop := acts ≤ cnt ∧ f0 < 20 ∧ a = qi acts ∧ r48 = qi acts ∧ r47 = qi f0
def JJ (n : Nat) (K N : Nat → Nat) (G : zG) (V R : zI) (M : zL) (u b f0 cnt acts x : Nat) (pl : Nat → Nat) (U : aU) (A : aS) (hi : Nat → aS) : Prop := Jg n K N G u cnt pl ∧ JB N G V R M u b f0 acts pl U A hi ∧ Jt (V 0 1) (V 1) (R 0 1) (R 1) ∧ Jf (V 0 3) (V 0 4) (R 0 10) (R 0 11) ∧ Jr (V 27) (R 19) ∧ Jb U.1 (V 0 13) (V 24) (V 25) (R 0 60) (R 33) (R 34) ∧ Ji (V 0 15) (V 26) (R 0 64) (R 35) ∧ Js x (V 22 0) (M 0 49) ∧ Ja acts f0 cnt (V 0 10) (R 0 48) (R 0 47)
def JP (n : Nat) (K N : Nat → Nat) (G : zG) (V R : zI) (M : zL) : Prop := ∃ u b f0 cnt acts x pl U A hi, JJ n K N G V R M u b f0 cnt acts x pl U A hi
variable {n : Nat} {K N : Nat → Nat} {G : zG} {V R : zI} {L M : zL} {u b f0 cnt acts x : Nat} {pl : Nat → Nat} {U : aU} {A : aS} {hi : Nat → aS}
theorem JB_fr {V' R' : zI} {M' : zL} (hg : Jg n K N G u cnt pl) (hc : acts ≤ cnt) (h : JB N G V R M u b f0 acts pl U A hi) (hv : ∀ w, (2 ≤ w ∧ w < 13) ∨ 28 ≤ w → V' w = V w) (hr : ∀ w, (2 ≤ w ∧ w < 12 ∧ w ≠ 4 ∧ w ≠ 6) ∨ (20 ≤ w ∧ w < 28) → R' w = R w) (h13 : R' 0 13 = R 0 13) (hl : M' 12 = M 12) : JB N G V' R' M' u b f0 acts pl U A hi := by
  obtain ⟨⟨-, -, hx, -, hu, -⟩, hp, -⟩ := hg
  obtain ⟨⟨h1, h2, h3, h4⟩, h5, h6⟩ := h
  refine ⟨⟨UC_fr2 hu h1 (fun w hw => hv w (by omega)), SC_fr h2 (fun w a1 a2 => hv w (by omega)), UR_fr h3 h13 (fun w a1 a2 a3 a4 => hr w (by omega)) hl, SR_fr h4 (fun w a1 a2 => hr w (by omega))⟩, h5, fun i hi' => ?_⟩
  obtain ⟨g1, g2, g3⟩ := h6 i hi'
  have hpi := (hp i (by omega)).2.2
  exact ⟨SC_fr g1 (fun w a1 a2 => hv w (by omega)), SR_fr g2 (fun w a1 a2 => hr w (by omega)), g3⟩
theorem c_refuse (hx : fxS N G) {k : Nat} (hk : k < 6) : f_X10_refuse N G 0 (qi k) V L = some (qm, z_uI V 27 k (V 27 k + qi 1), L) := by
  obtain ⟨⟨-, -, -, -, -, -, -, -, -, g16, -⟩, -, -, -, -, -, -, -, -, n27⟩ := hx
  unfold f_X10_refuse g_X10_refuse
  rw [g16]
  simp (disch := omega) only [n27, ↓reduceIte, o_bind, and_true, true_and, and_false, false_and, or_true, true_or, or_false, false_or, not_true, not_false_eq_true, not_false_iff, ne_eq, Nat.reduceAdd, Nat.reduceMul, Nat.reduceSub, Nat.reduceDiv, Nat.reduceMod, Nat.reduceLT, Nat.reduceLeDiff, Nat.reduceEqDiff, Nat.not_lt, Nat.not_le, q_lit, ↓q_m1, q_om, q_on, q_add, q_mul, q_sub, q_div, q_md, q_ltT, q_ltF, q_leT, q_leF, q_eqT, q_eqF, q_inT, q_inF, q_nn, q_mlt, q_ltm, q_mle, q_lem, q_nem, q_mne, z_same, z_neP, z_neK, zL_same, zL_neP, zL_neK, zr_same, zr_ne]
theorem r_refuse {k : Nat} (hk : k < 6) : f_refuses (qi k) R M = some (qm, z_uI R 19 k (R 19 k + qi 1), M) := by
  unfold f_refuses
  simp (disch := omega) only [↓reduceIte, o_bind, and_true, true_and, and_false, false_and, or_true, true_or, or_false, false_or, not_true, not_false_eq_true, not_false_iff, ne_eq, Nat.reduceAdd, Nat.reduceMul, Nat.reduceSub, Nat.reduceDiv, Nat.reduceMod, Nat.reduceLT, Nat.reduceLeDiff, Nat.reduceEqDiff, Nat.not_lt, Nat.not_le, q_lit, ↓q_m1, q_om, q_on, q_add, q_mul, q_sub, q_div, q_md, q_ltT, q_ltF, q_leT, q_leF, q_eqT, q_eqF, q_inT, q_inF, q_nn, q_mlt, q_ltm, q_mle, q_lem, q_nem, q_mne, z_same, z_neP, z_neK, zL_same, zL_neP, zL_neK, zr_same, zr_ne]
theorem Jr_up {c r : Nat → Int32} {k : Nat} (h : Jr c r) (hk : k < 6) : Jr (upd c k (c k + qi 1)) (upd r k (r k + qi 1)) := by
  intro j hj
  unfold upd
  split
  · rw [h k hk]
  · exact h j hj
theorem z_place {V : zI} {w k : Nat} {x : Int32} : z_uI V w k x w = upd (V w) k x := by
  funext j
  simp [z_uI, upd]
theorem JJ_ref {k : Nat} (hk : k < 6) (h : JJ n K N G V R M u b f0 cnt acts x pl U A hi) : JJ n K N G (z_uI V 27 k (V 27 k + qi 1)) (z_uI R 19 k (R 19 k + qi 1)) M u b f0 cnt acts x pl U A hi := by
  obtain ⟨h1, h2, h3, h4, h5, h6, h7, h8, h9⟩ := h
  refine ⟨h1, JB_fr h1 h9.1 h2 (fun w hw => z_neP (by omega)) (fun w hw => z_neP (by omega)) (by rw [z_neP (by omega)]) rfl, ?_, ?_, ?_, ?_, ?_, ?_, ?_⟩
  · simp (disch := omega) only [z_neP]; exact h3
  · simp (disch := omega) only [z_neP]; exact h4
  · rw [z_place, z_place]; exact Jr_up h5 hk
  · simp (disch := omega) only [z_neP]; exact h6
  · simp (disch := omega) only [z_neP]; exact h7
  · simp (disch := omega) only [z_neP]; exact h8
  · simp (disch := omega) only [z_neP]; exact h9
theorem x_refuse {k : Nat} (hk : k < 6) (h : JJ n K N G V R M u b f0 cnt acts x pl U A hi) : zX (f_X10_refuse N G 0 (qi k) V L) (f_refuses (qi k) R M) (fun r r' => r.1 = qm ∧ r'.1 = qm ∧ JJ n K N G r.2.1 r'.2.1 r'.2.2 u b f0 cnt acts x pl U A hi) :=
  zX_eq (c_refuse h.1.1.2.2.1 hk) (r_refuse hk) ⟨rfl, rfl, JJ_ref hk h⟩
/-! small bytes -/
theorem by_and (x : Int32) : x.toInt8.toInt32 &&& 255 = x &&& 255 := by
  apply Int32.toBitVec_inj.mp
  rw [Int32.toBitVec_and, Int32.toBitVec_and, Int8.toBitVec_toInt32, Int32.toBitVec_toInt8]
  apply BitVec.eq_of_getLsbD_eq
  intro i hi
  rw [BitVec.getLsbD_and, BitVec.getLsbD_and]
  have hm : ∀ i < 32, 8 ≤ i → (255 : Int32).toBitVec.getLsbD i = false := by decide
  rcases Nat.lt_or_ge i 8 with z | z
  · rw [BitVec.getLsbD_signExtend, BitVec.getLsbD_signExtend, if_pos z, if_pos hi]
    simp only [z, hi, decide_true, Bool.true_and]
  · rw [hm i hi z]; simp
theorem and255 (y : Int32) : ∃ t, t < 256 ∧ y &&& 255 = qi t := by
  have h : (y &&& 255).toBitVec.toNat ≤ 255 := by
    rw [Int32.toBitVec_and, BitVec.toNat_and]
    exact Nat.and_le_right
  refine ⟨(y &&& 255).toBitVec.toNat, by omega, ?_⟩
  apply Int32.toBitVec_inj.mp
  show _ = BitVec.ofNat 32 _
  simp
theorem nar_b (y : Int32) : vp_nar .byte y = y.toInt8.toInt32 := rfl
theorem i8_i8 (y : Int32) : y.toInt8.toInt32.toInt8.toInt32 = y.toInt8.toInt32 := by rw [Int8.toInt8_toInt32]
theorem Jt_put {a b : Int32} {ca rb : Nat → Int32} {tl : Nat} (y : Int32) (ha : a = qi tl) (h : Jt a ca b rb) (ht : tl < 1600) : Jt (qi (tl + 1)) (upd ca tl (vp_nar .byte (y.toInt8.toInt32))) (qi (tl + 1)) (upd rb tl (y &&& 255)) := by
  obtain ⟨t2, h1, h2, h3, h4⟩ := h
  obtain rfl : t2 = tl := by rw [h2] at ha; exact (q_eq (by omega) (by omega)).mp ha
  refine ⟨t2 + 1, by omega, rfl, rfl, fun k hk => ?_⟩
  unfold upd
  split
  · rw [nar_b, i8_i8, by_and]
    exact ⟨rfl, and255 y⟩
  · exact h4 k (by omega)
theorem z_p01 {V : zI} {i k : Nat} {y q : Int32} : z_uI (z_uI V 1 i y) 0 k q 1 = upd (V 1) i y := by rw [z_neP (by omega), z_place]
def shB (r : Nat) : Int32 := Int32.ofInt (8 * r - 8)
theorem shB_dn (r : Nat) : shB (r + 1) + Int32.ofInt (-8) = shB r := by
  unfold shB
  rw [← Int32.ofInt_add]
  congr 1
  omega
theorem shB_pos {r : Nat} (h : r < 4) : ¬ shB (r + 1) < qi 0 := by
  rcases (by omega : r = 0 ∨ r = 1 ∨ r = 2 ∨ r = 3) with rfl | rfl | rfl | rfl <;> decide
theorem x_put {a : Int32} {tl : Nat} (hx : fxS N G) (ht : Jt (V 0 1) (V 1) (R 0 1) (R 1)) (htl : V 0 1 = qi tl) (h4 : tl + 4 ≤ 1600) : zX (f_X10_putNumber N G 0 a V L) (f_put a R M) (fun r r' => (r.1 0 1 = qi (tl + 4) ∧ Jt (r.1 0 1) (r.1 1) (r'.1 0 1) (r'.1 1)) ∧ (∀ w, w ≠ 0 → w ≠ 1 → r.1 w = V w ∧ r'.1 w = R w) ∧ (∀ j, j ≠ 1 → r.1 0 j = V 0 j ∧ r'.1 0 j = R 0 j) ∧ r.2 = L ∧ r'.2 = M) := by
  have n1 : N 1 = 1600 := hx.2.2.2.1
  unfold f_X10_putNumber g_X10_putNumber f_put
  rw [hx.1.1, o_bind, show (24 : Int32) = shB 4 from rfl]
  refine zX_lp (I := fun r s s' => ∃ (V1 R1 : zI), r ≤ 4 ∧ s = (a, shB r, V1, L) ∧ s' = (a, shB r, R1, M) ∧ V1 0 1 = qi (tl + (4 - r)) ∧ Jt (V1 0 1) (V1 1) (R1 0 1) (R1 1) ∧ (∀ w, w ≠ 0 → w ≠ 1 → V1 w = V w ∧ R1 w = R w) ∧ (∀ j, j ≠ 1 → V1 0 j = V 0 j ∧ R1 0 j = R 0 j)) ?_ FU FU 4 _ _ ⟨V, R, by omega, rfl, rfl, htl, ht, fun _ _ _ => ⟨rfl, rfl⟩, fun _ _ => ⟨rfl, rfl⟩⟩ (FU_big (by omega)) (FU_big (by omega))
  rintro k k' r s s' ⟨V1, R1, hr, rfl, rfl, e1, ht1, hw, hj⟩ ih
  match r with
  | 0 =>
    have hn : shB 0 < 0 := by decide
    simp only [b_X10_putNumber_3, b_put_3, hn, ↓reduceIte]
    exact zX_some ⟨⟨e1, ht1⟩, hw, hj, rfl, rfl⟩
  | r + 1 =>
    have hn := shB_pos (r := r) (by omega)
    have hlt : tl + (4 - (r + 1)) < 1600 := by omega
    have e2 : R1 0 1 = qi (tl + (4 - (r + 1))) := by
      obtain ⟨t2, g1, g2, g3, g4⟩ := ht1
      rw [g3, ← g2, e1]
    have hp := Jt_put (a >>> (shB (r + 1) &&& 31)) e1 ht1 hlt
    simp (disch := omega) only [b_X10_putNumber_3, b_put_3, hn, e1, e2, n1, shB_dn, nar_b, ↓reduceIte, o_bind, and_true, true_and, and_false, false_and, or_true, true_or, or_false, false_or, not_true, not_false_eq_true, not_false_iff, ne_eq, Nat.reduceAdd, Nat.reduceMul, Nat.reduceSub, Nat.reduceDiv, Nat.reduceMod, Nat.reduceLT, Nat.reduceLeDiff, Nat.reduceEqDiff, Nat.not_lt, Nat.not_le, q_lit, ↓q_m1, q_om, q_on, q_add, q_mul, q_sub, q_div, q_md, q_ltT, q_ltF, q_leT, q_leF, q_eqT, q_eqF, q_inT, q_inF, q_nn, q_mlt, q_ltm, q_mle, q_lem, q_nem, q_mne, z_same, z_neP, z_neK, zL_same, zL_neP, zL_neK, zr_same, zr_ne]
    refine ih r _ _ (by omega) ⟨_, _, by omega, rfl, rfl, ?_, ?_, fun w h1 h2 => ?_, fun j hj' => ?_⟩
    · rw [z_same]; congr 1; omega
    · rw [z_same, z_same, z_p01, z_p01]; exact hp
    · rw [z_neP h1, z_neP h2, z_neP h1, z_neP h2]; exact hw w h1 h2
    · rw [z_neK hj', z_neP (by omega), z_neK hj', z_neP (by omega)]; exact hj j hj'
theorem JJ_tape {V' R' : zI} (h : JJ n K N G V R M u b f0 cnt acts x pl U A hi) (ht : Jt (V' 0 1) (V' 1) (R' 0 1) (R' 1)) (hw : ∀ w, w ≠ 0 → w ≠ 1 → V' w = V w ∧ R' w = R w) (hj : ∀ j, j ≠ 1 → V' 0 j = V 0 j ∧ R' 0 j = R 0 j) : JJ n K N G V' R' M u b f0 cnt acts x pl U A hi := by
  obtain ⟨h1, h2, h3, h4, h5, h6, h7, h8, h9⟩ := h
  refine ⟨h1, JB_fr h1 h9.1 h2 (fun w hw' => (hw w (by omega) (by omega)).1) (fun w hw' => (hw w (by omega) (by omega)).2) (hj 13 (by omega)).2 rfl, ht, ?_, ?_, ?_, ?_, ?_, ?_⟩
  · rw [(hj 3 (by omega)).1, (hj 4 (by omega)).1, (hj 10 (by omega)).2, (hj 11 (by omega)).2]; exact h4
  · rw [(hw 27 (by omega) (by omega)).1, (hw 19 (by omega) (by omega)).2]; exact h5
  · rw [(hj 13 (by omega)).1, (hw 24 (by omega) (by omega)).1, (hw 25 (by omega) (by omega)).1, (hj 60 (by omega)).2, (hw 33 (by omega) (by omega)).2, (hw 34 (by omega) (by omega)).2]; exact h6
  · rw [(hj 15 (by omega)).1, (hw 26 (by omega) (by omega)).1, (hj 64 (by omega)).2, (hw 35 (by omega) (by omega)).2]; exact h7
  · rw [(hw 22 (by omega) (by omega)).1]; exact h8
  · rw [(hj 10 (by omega)).1, (hj 48 (by omega)).2, (hj 47 (by omega)).2]; exact h9
theorem m_feed {a1 a2 a3 a4 a5 : Int32} (h : JP n K N G V R M) : zX (f_X10_feed N G 0 a1 a2 a3 a4 a5 V L) (f_feed a1 a2 a3 a4 a5 R M) (fun r r' => r.1 = r'.1 ∧ JP n K N G r.2.1 r'.2.1 r'.2.2) := by
  obtain ⟨u, b, f0, cnt, acts, x, pl, U, A, hi, h⟩ := h
  have hx : fxS N G := h.1.1.2.2.1
  obtain ⟨tl, t1, t2, t3, t4⟩ := id h.2.2.1
  unfold f_X10_feed g_X10_feed f_feed
  by_cases hc : tl + 20 ≤ 1600
  · simp (disch := omega) only [t2, t3, hc, ↓reduceIte, o_bind, and_true, true_and, and_false, false_and, or_true, true_or, or_false, false_or, not_true, not_false_eq_true, not_false_iff, ne_eq, Nat.reduceAdd, Nat.reduceMul, Nat.reduceSub, Nat.reduceDiv, Nat.reduceMod, Nat.reduceLT, Nat.reduceLeDiff, Nat.reduceEqDiff, Nat.not_lt, Nat.not_le, q_lit, ↓q_m1, q_om, q_on, q_add, q_mul, q_sub, q_div, q_md, q_ltT, q_ltF, q_leT, q_leF, q_eqT, q_eqF, q_inT, q_inF, q_nn, q_mlt, q_ltm, q_mle, q_lem, q_nem, q_mne]
    refine zX_call (x_put (tl := tl) hx h.2.2.1 t2 (by omega)) ?_
    rintro ⟨V1, L1⟩ ⟨R1, M1⟩ ⟨⟨p1, q1⟩, w1, j1, l1, m1⟩
    dsimp only at p1 q1 w1 j1 l1 m1 ⊢
    refine zX_call (x_put (tl := tl + 4) hx q1 p1 (by omega)) ?_
    rintro ⟨V2, L2⟩ ⟨R2, M2⟩ ⟨⟨p2, q2⟩, w2, j2, l2, m2⟩
    dsimp only at p2 q2 w2 j2 l2 m2 ⊢
    refine zX_call (x_put (tl := tl + 4 + 4) hx q2 p2 (by omega)) ?_
    rintro ⟨V3, L3⟩ ⟨R3, M3⟩ ⟨⟨p3, q3⟩, w3, j3, l3, m3⟩
    dsimp only at p3 q3 w3 j3 l3 m3 ⊢
    refine zX_call (x_put (tl := tl + 4 + 4 + 4) hx q3 p3 (by omega)) ?_
    rintro ⟨V4, L4⟩ ⟨R4, M4⟩ ⟨⟨p4, q4⟩, w4, j4, l4, m4⟩
    dsimp only at p4 q4 w4 j4 l4 m4 ⊢
    refine zX_call (x_put (tl := tl + 4 + 4 + 4 + 4) hx q4 p4 (by omega)) ?_
    rintro ⟨V5, L5⟩ ⟨R5, M5⟩ ⟨⟨p5, q5⟩, w5, j5, l5, m5⟩
    dsimp only at p5 q5 w5 j5 l5 m5 ⊢
    subst l5 m5 l4 m4 l3 m3 l2 m2 l1 m1
    refine zX_some ?_
    dsimp only
    refine ⟨?_, u, b, f0, cnt, acts, x, pl, U, A, hi, JJ_tape h q5 (fun w a1 a2 => ?_) (fun j a1 => ?_)⟩
    · obtain ⟨t, -, g2, g3, -⟩ := q5
      exact g2.trans g3.symm
    · rw [(w5 w a1 a2).1, (w4 w a1 a2).1, (w3 w a1 a2).1, (w2 w a1 a2).1, (w1 w a1 a2).1, (w5 w a1 a2).2, (w4 w a1 a2).2, (w3 w a1 a2).2, (w2 w a1 a2).2, (w1 w a1 a2).2]; exact ⟨rfl, rfl⟩
    · rw [(j5 j a1).1, (j4 j a1).1, (j3 j a1).1, (j2 j a1).1, (j1 j a1).1, (j5 j a1).2, (j4 j a1).2, (j3 j a1).2, (j2 j a1).2, (j1 j a1).2]; exact ⟨rfl, rfl⟩
  · simp (disch := omega) only [t2, t3, hc, ↓reduceIte, o_bind, and_true, true_and, and_false, false_and, or_true, true_or, or_false, false_or, not_true, not_false_eq_true, not_false_iff, ne_eq, Nat.reduceAdd, Nat.reduceMul, Nat.reduceSub, Nat.reduceDiv, Nat.reduceMod, Nat.reduceLT, Nat.reduceLeDiff, Nat.reduceEqDiff, Nat.not_lt, Nat.not_le, q_lit, ↓q_m1, q_om, q_on, q_add, q_mul, q_sub, q_div, q_md, q_ltT, q_ltF, q_leT, q_leF, q_eqT, q_eqF, q_inT, q_inF, q_nn, q_mlt, q_ltm, q_mle, q_lem, q_nem, q_mne]
    refine zX_call (x_refuse (k := 0) (by omega) h) ?_
    rintro ⟨y, V1, L1⟩ ⟨y', R1, M1⟩ ⟨p1, p2, p3⟩
    exact zX_some ⟨p1.trans p2.symm, u, b, f0, cnt, acts, x, pl, U, A, hi, p3⟩
theorem m_end {a1 : Int32} (h : JP n K N G V R M) : zX (f_X10_end N G 0 a1 V L) (f_end a1 R M) (fun r r' => r.1 = r'.1 ∧ JP n K N G r.2.1 r'.2.1 r'.2.2) := by
  obtain ⟨u, b, f0, cnt, acts, x, pl, U, A, hi, h⟩ := h
  obtain ⟨tl, t1, t2, t3, t4⟩ := id h.2.2.1
  have no : zX (f_X10_end_12 N G 0 V L) (f_end_12 R M) (fun r r' => r.1 = r'.1 ∧ JP n K N G r.2.1 r'.2.1 r'.2.2) := by
    unfold f_X10_end_12 f_end_12
    simp only [q_lit]
    refine zX_call (x_refuse (k := 0) (by omega) h) ?_
    rintro ⟨y, V1, L1⟩ ⟨y', R1, M1⟩ ⟨p1, p2, p3⟩
    dsimp only at p1 p2 p3 ⊢
    subst p2
    simp (disch := omega) only [q_mlt, ↓reduceIte]
    exact zX_some ⟨rfl, u, b, f0, cnt, acts, x, pl, U, A, hi, p3⟩
  unfold f_X10_end g_X10_end f_end
  rcases q_cases a1 with hn | ⟨k, hk, rfl⟩
  · rw [if_pos (show a1 < 0 from hn), if_pos (show a1 < 0 from hn)]
    exact no
  · by_cases hc : k ≤ tl
    · simp (disch := omega) only [t2, t3, ↓reduceIte, o_bind, and_true, true_and, and_false, false_and, or_true, true_or, or_false, false_or, not_true, not_false_eq_true, not_false_iff, ne_eq, Nat.reduceAdd, Nat.reduceMul, Nat.reduceSub, Nat.reduceDiv, Nat.reduceMod, Nat.reduceLT, Nat.reduceLeDiff, Nat.reduceEqDiff, Nat.not_lt, Nat.not_le, q_lit, ↓q_m1, q_om, q_on, q_add, q_mul, q_sub, q_div, q_md, q_ltT, q_ltF, q_leT, q_leF, q_eqT, q_eqF, q_inT, q_inF, q_nn, q_mlt, q_ltm, q_mle, q_lem, q_nem, q_mne]
      refine zX_some ?_
      dsimp only
      refine ⟨rfl, u, b, f0, cnt, acts, x, pl, U, A, hi, JJ_tape h ?_ (fun w a1 a2 => ⟨z_neP a1, z_neP a1⟩) (fun j a1 => ⟨z_neK a1, z_neK a1⟩)⟩
      rw [z_same, z_same, z_neP (by omega), z_neP (by omega)]
      exact ⟨k, by omega, rfl, rfl, fun j hj => t4 j (by omega)⟩
    · simp (disch := omega) only [t2, t3, ↓reduceIte, o_bind, and_true, true_and, and_false, false_and, or_true, true_or, or_false, false_or, not_true, not_false_eq_true, not_false_iff, ne_eq, Nat.reduceAdd, Nat.reduceMul, Nat.reduceSub, Nat.reduceDiv, Nat.reduceMod, Nat.reduceLT, Nat.reduceLeDiff, Nat.reduceEqDiff, Nat.not_lt, Nat.not_le, q_lit, ↓q_m1, q_om, q_on, q_add, q_mul, q_sub, q_div, q_md, q_ltT, q_ltF, q_leT, q_leF, q_eqT, q_eqF, q_inT, q_inF, q_nn, q_mlt, q_ltm, q_mle, q_lem, q_nem, q_mne]
      exact no
theorem m_fault {a1 : Int32} (h : JP n K N G V R M) : zX (f_X10_fault N G 0 a1 V L) (f_fault a1 R M) (fun r r' => r = r'.1 ∧ JP n K N G V r'.2.1 r'.2.2) := by
  obtain ⟨u, b, f0, cnt, acts, x, pl, U, A, hi, h⟩ := h
  obtain ⟨e1, e2⟩ := id h.2.2.2.1
  have hp : JP n K N G V R M := ⟨u, b, f0, cnt, acts, x, pl, U, A, hi, h⟩
  unfold f_X10_fault g_X10_fault f_fault
  rw [e1, e2]
  split
  · exact zX_some ⟨rfl, hp⟩
  · split
    · exact zX_some ⟨rfl, hp⟩
    · exact zX_some ⟨rfl, hp⟩
theorem m_status {a1 : Int32} (h : JP n K N G V R M) : zX (f_X10_status N G 0 a1 V L) (f_status a1 R M) (fun r r' => r = r'.1 ∧ JP n K N G V r'.2.1 r'.2.2) := by
  obtain ⟨u, b, f0, cnt, acts, x, pl, U, A, hi, h⟩ := h
  have hr := h.2.2.2.2.1
  have hp : JP n K N G V R M := ⟨u, b, f0, cnt, acts, x, pl, U, A, hi, h⟩
  obtain ⟨⟨-, -, -, -, -, -, -, -, -, g16, -⟩, -, -, -, -, -, -, -, -, n27⟩ := id h.1.1.2.2.1
  unfold f_X10_status g_X10_status f_status f_is
  rw [g16, o_bind]
  rcases q_cases a1 with hn | ⟨k, hk, rfl⟩
  · rw [if_pos (show a1 < 0 from hn), if_pos (show a1 < 0 from hn)]
    exact zX_some ⟨rfl, hp⟩
  · by_cases hc : k < 6
    · simp (disch := omega) only [n27, ↓reduceIte, o_bind, and_true, true_and, and_false, false_and, or_true, true_or, or_false, false_or, not_true, not_false_eq_true, not_false_iff, ne_eq, Nat.reduceAdd, Nat.reduceMul, Nat.reduceSub, Nat.reduceDiv, Nat.reduceMod, Nat.reduceLT, Nat.reduceLeDiff, Nat.reduceEqDiff, Nat.not_lt, Nat.not_le, q_lit, ↓q_m1, q_om, q_on, q_add, q_mul, q_sub, q_div, q_md, q_ltT, q_ltF, q_leT, q_leF, q_eqT, q_eqF, q_inT, q_inF, q_nn, q_mlt, q_ltm, q_mle, q_lem, q_nem, q_mne]
      exact zX_some ⟨hr k hc, hp⟩
    · simp (disch := omega) only [n27, ↓reduceIte, o_bind, and_true, true_and, and_false, false_and, or_true, true_or, or_false, false_or, not_true, not_false_eq_true, not_false_iff, ne_eq, Nat.reduceAdd, Nat.reduceMul, Nat.reduceSub, Nat.reduceDiv, Nat.reduceMod, Nat.reduceLT, Nat.reduceLeDiff, Nat.reduceEqDiff, Nat.not_lt, Nat.not_le, q_lit, ↓q_m1, q_om, q_on, q_add, q_mul, q_sub, q_div, q_md, q_ltT, q_ltF, q_leT, q_leF, q_eqT, q_eqF, q_inT, q_inF, q_nn, q_mlt, q_ltm, q_mle, q_lem, q_nem, q_mne]
      exact zX_some ⟨rfl, hp⟩
theorem m_octet {a1 : Int32} (h : JP n K N G V R M) : zX (f_X10_octet N G 0 a1 V L) (f_octet a1 R M) (fun r r' => r = r'.1 ∧ JP n K N G V r'.2.1 r'.2.2) := by
  obtain ⟨u, b, f0, cnt, acts, x, pl, U, A, hi, h⟩ := h
  obtain ⟨il, t1, t2, t3, t4⟩ := id h.2.2.2.2.2.2.1
  have hp : JP n K N G V R M := ⟨u, b, f0, cnt, acts, x, pl, U, A, hi, h⟩
  obtain ⟨⟨-, -, -, -, -, -, -, -, g14, -, -⟩, -, -, -, -, -, -, -, n26, -⟩ := id h.1.1.2.2.1
  unfold f_X10_octet g_X10_octet f_octet f_is
  rw [g14, o_bind]
  rcases q_cases a1 with hn | ⟨k, hk, rfl⟩
  · rw [if_pos (show a1 < 0 from hn), if_pos (show a1 < 0 from hn)]
    exact zX_some ⟨rfl, hp⟩
  · by_cases h0 : il = 0
    · have e : qi il - 1 = qm := by rw [h0]; rfl
      rw [t2, t3, e, h0]
      simp (disch := omega) only [↓reduceIte, o_bind, and_true, true_and, and_false, false_and, or_true, true_or, or_false, false_or, not_true, not_false_eq_true, not_false_iff, ne_eq, Nat.reduceAdd, Nat.reduceMul, Nat.reduceSub, Nat.reduceDiv, Nat.reduceMod, Nat.reduceLT, Nat.reduceLeDiff, Nat.reduceEqDiff, Nat.not_lt, Nat.not_le, q_lit, ↓q_m1, q_om, q_on, q_add, q_mul, q_sub, q_div, q_md, q_ltT, q_ltF, q_leT, q_leF, q_eqT, q_eqF, q_inT, q_inF, q_nn, q_mlt, q_ltm, q_mle, q_lem, q_nem, q_mne]
      exact zX_some ⟨rfl, hp⟩
    · by_cases hc : k < il
      · simp (disch := omega) only [t2, t3, n26, ↓reduceIte, o_bind, and_true, true_and, and_false, false_and, or_true, true_or, or_false, false_or, not_true, not_false_eq_true, not_false_iff, ne_eq, Nat.reduceAdd, Nat.reduceMul, Nat.reduceSub, Nat.reduceDiv, Nat.reduceMod, Nat.reduceLT, Nat.reduceLeDiff, Nat.reduceEqDiff, Nat.not_lt, Nat.not_le, q_lit, ↓q_m1, q_om, q_on, q_add, q_mul, q_sub, q_div, q_md, q_ltT, q_ltF, q_leT, q_leF, q_eqT, q_eqF, q_inT, q_inF, q_nn, q_mlt, q_ltm, q_mle, q_lem, q_nem, q_mne]
        exact zX_some ⟨t4 k hc, hp⟩
      · simp (disch := omega) only [t2, t3, n26, ↓reduceIte, o_bind, and_true, true_and, and_false, false_and, or_true, true_or, or_false, false_or, not_true, not_false_eq_true, not_false_iff, ne_eq, Nat.reduceAdd, Nat.reduceMul, Nat.reduceSub, Nat.reduceDiv, Nat.reduceMod, Nat.reduceLT, Nat.reduceLeDiff, Nat.reduceEqDiff, Nat.not_lt, Nat.not_le, q_lit, ↓q_m1, q_om, q_on, q_add, q_mul, q_sub, q_div, q_md, q_ltT, q_ltF, q_leT, q_leF, q_eqT, q_eqF, q_inT, q_inF, q_nn, q_mlt, q_ltm, q_mle, q_lem, q_nem, q_mne]
        exact zX_some ⟨rfl, hp⟩
theorem m_seed {a1 : Int32} (h : JP n K N G V R M) : zX (f_X10_seed N G 0 a1 V L) (f_seed a1 R M) (fun r r' => r.1 = r'.1 ∧ JP n K N G r.2.1 r'.2.1 r'.2.2) := by
  obtain ⟨u, b, f0, cnt, acts, x, pl, U, A, hi, h⟩ := h
  have g8 : G 0 8 = some 22 := h.1.1.2.2.1.1.2.2.2.2.1
  unfold f_X10_seed g_X10_seed f_seed
  rw [g8, o_bind]
  rcases q_cases a1 with hn | ⟨k, hk, rfl⟩
  · have hn' : ¬ (0 : Int32) ≤ a1 := fun e => q_nle hn (n := 0) (by omega) e
    rw [if_neg hn', if_neg hn']
    simp only [q_lit]
    refine zX_call (x_refuse (k := 5) (by omega) h) ?_
    rintro ⟨y, V1, L1⟩ ⟨y', R1, M1⟩ ⟨p1, p2, p3⟩
    dsimp only at p1 p2 p3 ⊢
    subst p2
    simp (disch := omega) only [q_mlt, ↓reduceIte]
    exact zX_some ⟨rfl, u, b, f0, cnt, acts, x, pl, U, A, hi, p3⟩
  · simp (disch := omega) only [Q_i, ↓reduceIte, o_bind, and_true, true_and, and_false, false_and, or_true, true_or, or_false, false_or, not_true, not_false_eq_true, not_false_iff, ne_eq, Nat.reduceAdd, Nat.reduceMul, Nat.reduceSub, Nat.reduceDiv, Nat.reduceMod, Nat.reduceLT, Nat.reduceLeDiff, Nat.reduceEqDiff, Nat.not_lt, Nat.not_le, q_lit, ↓q_m1, q_om, q_on, q_add, q_mul, q_sub, q_div, q_md, q_ltT, q_ltF, q_leT, q_leF, q_eqT, q_eqF, q_inT, q_inF, q_nn, q_mlt, q_ltm, q_mle, q_lem, q_nem, q_mne]
    refine zX_some ?_
    dsimp only
    refine ⟨rfl, u, b, f0, cnt, acts, k, pl, U, A, hi, ?_⟩
    obtain ⟨h1, h2, h3, h4, h5, h6, h7, h8, h9⟩ := h
    refine ⟨h1, JB_fr h1 h9.1 h2 (fun w hw => z_neP (by omega)) (fun w hw => rfl) rfl (zL_neP (by omega)), ?_, ?_, ?_, ?_, ?_, ⟨hk, z_same, zL_same⟩, ?_⟩
    · simp (disch := omega) only [z_neP]; exact h3
    · simp (disch := omega) only [z_neP]; exact h4
    · simp (disch := omega) only [z_neP]; exact h5
    · simp (disch := omega) only [z_neP]; exact h6
    · simp (disch := omega) only [z_neP]; exact h7
    · simp (disch := omega) only [z_neP]; exact h9
end
