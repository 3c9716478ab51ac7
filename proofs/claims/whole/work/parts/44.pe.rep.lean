section
/-! What both sides hold. A union: towns, carts, ways (0 without), enclosed, lost, the three rules, names. -/
abbrev aU : Type := Nat × Nat × (Nat → Nat) × Nat × Nat × (Nat → Option (List Nat)) × (Nat → List Nat)
/-- a state: day, held, sent, got, letters, their pairs, days left, kept, their codes (day * 36 + pair) * 2 + lost -/
abbrev aS : Type := Nat × (Nat → Nat) × (Nat → Nat) × (Nat → Nat) × Nat × (Nat → Nat) × (Nat → Nat) × Nat × (Nat → Nat)
/-- a name as a number: five bits a letter, the first lowest; a byte a letter, the first highest -/
def nmC : List Nat → Nat
  | [] => 0
  | a :: l => a + 32 * nmC l
def nmR (l : List Nat) : Nat := l.foldl (fun w a => w * 256 + (a + 96)) 0
def stS (N : Nat → Nat) (G : zG) (s : Nat) : Prop := (G s 1 = some (s + 1) ∧ G s 2 = some (s + 2) ∧ G s 3 = some (s + 3) ∧ G s 5 = some (s + 4) ∧ G s 6 = some (s + 5) ∧ G s 8 = some (s + 6)) ∧ N (s + 1) = 36 ∧ N (s + 2) = 36 ∧ N (s + 3) = 36 ∧ N (s + 4) = 60 ∧ N (s + 5) = 60 ∧ N (s + 6) = 50
def unS (N : Nat → Nat) (G : zG) (u : Nat) : Prop := (u = 2 ∨ 28 ≤ u) ∧ (G u 5 = some (u + 1) ∧ G u 6 = some (u + 2) ∧ G u 7 = some (u + 3)) ∧ N (u + 1) = 6 ∧ N (u + 2) = 36 ∧ N (u + 3) = 36
def fxS (N : Nat → Nat) (G : zG) : Prop := (G 0 0 = some 1 ∧ G 0 5 = some 6 ∧ G 0 6 = some 13 ∧ G 0 7 = some 20 ∧ G 0 8 = some 22 ∧ G 0 9 = some 23 ∧ G 0 11 = some 24 ∧ G 0 12 = some 25 ∧ G 0 14 = some 26 ∧ G 0 16 = some 27 ∧ G 20 0 = some 21) ∧ stS N G 6 ∧ stS N G 13 ∧ N 1 = 1600 ∧ N 21 = 128 ∧ N 23 = 20 ∧ N 24 = 16 ∧ N 25 = 16 ∧ N 26 = 512 ∧ N 27 = 6
def SC (V : zI) (s : Nat) (A : aS) : Prop := match A with
  | (day, held, sent, got, m, mp, ml, kn, kc) => (V s 0 = qi day ∧ V s 4 = qi m ∧ V s 7 = qi kn) ∧ (∀ k, k < 36 → V (s + 1) k = qi (held k)) ∧ (∀ k, k < 36 → V (s + 2) k = qi (sent k)) ∧ (∀ k, k < 36 → V (s + 3) k = qi (got k)) ∧ (∀ k, k < m → V (s + 4) k = qi (mp k)) ∧ (∀ k, k < m → V (s + 5) k = qi (ml k)) ∧ ∀ k, k < kn → V (s + 6) k = qi (kc k)
def SR (V : zI) (v : Nat) (A : aS) : Prop := match A with
  | (day, held, sent, got, m, mp, ml, kn, kc) => (V 20 v = qi day ∧ V 24 v = qi m ∧ V 26 v = qi kn) ∧ (∀ k, k < 36 → V 21 (36 * v + k) = qi (held k)) ∧ (∀ k, k < 36 → V 22 (36 * v + k) = qi (sent k)) ∧ (∀ k, k < 36 → V 23 (36 * v + k) = qi (got k)) ∧ (∀ k, k < m → V 25 (180 * v + 3 * k) = qi (mp k / 6)) ∧ (∀ k, k < m → V 25 (180 * v + 3 * k + 1) = qi (mp k % 6)) ∧ (∀ k, k < m → V 25 (180 * v + 3 * k + 2) = qi (ml k)) ∧ (∀ k, k < kn → V 27 (200 * v + 4 * k) = qi (kc k / 72)) ∧ (∀ k, k < kn → V 27 (200 * v + 4 * k + 1) = qi (kc k / 2 % 36 / 6)) ∧ (∀ k, k < kn → V 27 (200 * v + 4 * k + 2) = qi (kc k / 2 % 36 % 6)) ∧ ∀ k, k < kn → V 27 (200 * v + 4 * k + 3) = qi (kc k % 2)
def SB (U : aU) (A : aS) : Prop := match U, A with
  | (tw, _, way, _), (day, held, sent, got, m, mp, ml, kn, kc) => (day ≤ 999 ∧ m ≤ 60 ∧ kn ≤ 50) ∧ (∀ k, k < 36 → held k ≤ 99 ∧ sent k ≤ 99 ∧ got k ≤ 99) ∧ (∀ k, k < 36 → ¬ (k / 6 < tw ∧ k % 6 < tw ∧ k / 6 ≠ k % 6) → held k = 0 ∧ sent k = 0 ∧ got k = 0) ∧ (∀ k, k < m → mp k < 36 ∧ 0 < way (mp k) ∧ 1 ≤ ml k ∧ ml k ≤ way (mp k)) ∧ ∀ k, k < kn → kc k < 72000
def UB (U : aU) : Prop := match U with
  | (tw, ct, way, encl, lost, rul, nam) => (tw ≤ 6 ∧ ct ≤ 12 ∧ encl ≤ 3 ∧ lost ≤ 100) ∧ (∀ k, k < 36 → way k ≤ 45 ∧ (0 < way k → k / 6 < tw ∧ k % 6 < tw ∧ k / 6 ≠ k % 6)) ∧ (∀ r l, r < 3 → rul r = some l → l.length ≤ 1600 ∧ ∃ t1, tyL l ty0 = some (1, t1) ∧ t1 0 = decide (r = 0)) ∧ ∀ k, k < tw → (1 ≤ (nam k).length ∧ (nam k).length ≤ 6) ∧ ∀ a ∈ nam k, 1 ≤ a ∧ a ≤ 26
def UC (N : Nat → Nat) (G : zG) (V : zI) (u : Nat) (U : aU) : Prop := match U with
  | (tw, ct, way, encl, lost, rul, nam) => (V u 0 = qi tw ∧ V u 1 = qi ct ∧ V u 3 = qi encl ∧ V u 4 = qi lost) ∧ (∀ k, k < 36 → V (u + 3) k = qi (way k)) ∧ ((∀ k, k < tw → V (u + 1) k = qi (nmC (nam k))) ∧ ∀ k, k < 36 → ¬ (k / 6 < tw ∧ k % 6 < tw ∧ k / 6 ≠ k % 6) → V (u + 2) k = qi 0) ∧ ∀ r, r < 3 → (rul r = none → G u (8 + r) = none) ∧ ∀ l, rul r = some l → ∃ p, G u (8 + r) = some p ∧ 28 ≤ p ∧ N p = l.length ∧ ∀ j, j < l.length → V p j = qi (cOf (l.getD j 0))
def UR (V : zI) (L : zL) (b : Nat) (U : aU) : Prop := match U with
  | (tw, ct, way, encl, lost, rul, nam) => (b < 2 ∧ V 0 13 = qi b ∧ V 2 b = qi tw ∧ V 3 b = qi ct ∧ V 7 (2 * b) = qi encl ∧ V 7 (2 * b + 1) = qi lost) ∧ (0 < tw → ∀ k, k < 36 → V 5 (36 * b + k) = qi (if k / 6 = k % 6 then 0 else if way k = 0 then 100000000 else way k)) ∧ (∀ k, k < tw → L 12 (6 * b + k) = qZ (nmR (nam k))) ∧ ∀ r, r < 3 → (rul r = none → V 8 (3 * b + r) = qm) ∧ ∀ l, rul r = some l → ∃ fr, V 8 (3 * b + r) = qi fr ∧ V 9 (3 * b + r) = qi (fr + l.length) ∧ fr + l.length ≤ 1600 ∧ ∀ j, j < l.length → V 10 (1600 * b + fr + j) = qi (rsOf (l.getD j 0)) ∧ (100 ≤ l.getD j 0 → V 11 (1600 * b + fr + j) = qi (l.getD j 0 - 100))
/-- what a rule reads, h stamps held -/
def fct (U : aU) (A : aS) (k : Nat) (h : Int) (c : Nat) : Int := match U, A with
  | (_, _, way, _), (day, _, sent, got, _) => if c = 0 then h else if c = 1 then (if way k = 0 then 99 else (way k : Int)) else if c = 2 then (day : Int) else if c = 3 then (sent k : Int) else (got k : Int)
theorem pr_of {a b : Nat} (hb : b < 6) : (6 * a + b) / 6 = a ∧ (6 * a + b) % 6 = b := by omega
theorem f_isWay_e {V : zI} {L : zL} {b x y : Nat} {U : aU} (hU : UR V L b U) (hB : UB U) (hx : x < 6) (hy : y < 6) (hu0 : 0 < U.1) : f_isWay (qi x) (qi y) V L = some (if 0 < U.2.2.1 (6 * x + y) then qi 1 else qi 0, V, L) := by
  obtain ⟨tw, ct, way, encl, lost, rul, nam⟩ := U
  obtain ⟨⟨hb, h13, -⟩, h5, -⟩ := hU
  obtain ⟨-, hw, -⟩ := hB
  have hk := h5 hu0 (6 * x + y) (by omega)
  have hk2 := hw (6 * x + y) (by omega)
  obtain ⟨e1, e2⟩ := pr_of (a := x) hy
  rw [e1, e2] at hk hk2
  unfold f_isWay f_wayBy f_at
  have e3 : 36 * b + 6 * x + y = 36 * b + (6 * x + y) := by omega
  by_cases hxy : x = y
  · have h0 : ¬ 0 < way (6 * x + y) := fun h => (hk2.2 h).2.2 hxy
    simp (disch := omega) only [↓reduceIte, o_bind, and_true, true_and, and_false, false_and, or_true, true_or, or_false, false_or, not_true, not_false_eq_true, not_false_iff, ne_eq, Nat.reduceAdd, Nat.reduceMul, Nat.reduceSub, Nat.reduceDiv, Nat.reduceMod, Nat.reduceLT, Nat.reduceLeDiff, Nat.reduceEqDiff, Nat.not_lt, Nat.not_le, q_lit, ↓q_m1, q_om, q_on, q_add, q_mul, q_sub, q_div, q_md, q_ltT, q_ltF, q_leT, q_leF, q_eqT, q_eqF, q_inT, q_inF, q_nn, q_mlt, q_ltm, q_mle, q_lem, q_nem, q_mne, z_same, z_neP, z_neK, zL_same, zL_neP, zL_neK, zr_same, zr_ne, hxy, h0]
    subst hxy
    simp only [h0, ↓reduceIte]
  · rw [if_neg hxy] at hk
    simp (disch := omega) only [h13, ↓reduceIte, o_bind, and_true, true_and, and_false, false_and, or_true, true_or, or_false, false_or, not_true, not_false_eq_true, not_false_iff, ne_eq, Nat.reduceAdd, Nat.reduceMul, Nat.reduceSub, Nat.reduceDiv, Nat.reduceMod, Nat.reduceLT, Nat.reduceLeDiff, Nat.reduceEqDiff, Nat.not_lt, Nat.not_le, q_lit, ↓q_m1, q_om, q_on, q_add, q_mul, q_sub, q_div, q_md, q_ltT, q_ltF, q_leT, q_leF, q_eqT, q_eqF, q_inT, q_inF, q_nn, q_mlt, q_ltm, q_mle, q_lem, q_nem, q_mne, z_same, z_neP, z_neK, zL_same, zL_neP, zL_neK, zr_same, zr_ne, hxy, e3, hk]
    by_cases h0 : way (6 * x + y) = 0
    · have h1 : ¬ 0 < way (6 * x + y) := by omega
      simp (disch := omega) only [↓reduceIte, o_bind, and_true, true_and, and_false, false_and, or_true, true_or, or_false, false_or, not_true, not_false_eq_true, not_false_iff, ne_eq, Nat.reduceAdd, Nat.reduceMul, Nat.reduceSub, Nat.reduceDiv, Nat.reduceMod, Nat.reduceLT, Nat.reduceLeDiff, Nat.reduceEqDiff, Nat.not_lt, Nat.not_le, q_lit, ↓q_m1, q_om, q_on, q_add, q_mul, q_sub, q_div, q_md, q_ltT, q_ltF, q_leT, q_leF, q_eqT, q_eqF, q_inT, q_inF, q_nn, q_mlt, q_ltm, q_mle, q_lem, q_nem, q_mne, z_same, z_neP, z_neK, zL_same, zL_neP, zL_neK, zr_same, zr_ne, h0, Nat.lt_irrefl, Nat.le_refl]
    · have h1 : 0 < way (6 * x + y) := by omega
      have h2 : ¬ 100000000 ≤ way (6 * x + y) := by omega
      simp (disch := omega) only [↓reduceIte, o_bind, and_true, true_and, and_false, false_and, or_true, true_or, or_false, false_or, not_true, not_false_eq_true, not_false_iff, ne_eq, Nat.reduceAdd, Nat.reduceMul, Nat.reduceSub, Nat.reduceDiv, Nat.reduceMod, Nat.reduceLT, Nat.reduceLeDiff, Nat.reduceEqDiff, Nat.not_lt, Nat.not_le, q_lit, ↓q_m1, q_om, q_on, q_add, q_mul, q_sub, q_div, q_md, q_ltT, q_ltF, q_leT, q_leF, q_eqT, q_eqF, q_inT, q_inF, q_nn, q_mlt, q_ltm, q_mle, q_lem, q_nem, q_mne, z_same, z_neP, z_neK, zL_same, zL_neP, zL_neK, zr_same, zr_ne, h0, h1, h2]
theorem f_wayBy_e {V : zI} {L : zL} {b x y : Nat} {U : aU} (hU : UR V L b U) (hB : UB U) (hx : x < 6) (hy : y < 6) (h : 0 < U.2.2.1 (6 * x + y)) : f_wayBy (qi x) (qi y) V L = some (qi (U.2.2.1 (6 * x + y)), V, L) := by
  obtain ⟨tw, ct, way, encl, lost, rul, nam⟩ := U
  obtain ⟨⟨hb, h13, -⟩, h5, -⟩ := hU
  obtain ⟨-, hw, -⟩ := hB
  have hk2 := (hw (6 * x + y) (by omega)).2 h
  have hk := h5 (Nat.lt_of_le_of_lt (Nat.zero_le _) hk2.1) (6 * x + y) (by omega)
  obtain ⟨e1, e2⟩ := pr_of (a := x) hy
  rw [e1, e2] at hk hk2
  have h0 : ¬ way (6 * x + y) = 0 := Nat.ne_of_gt h
  rw [if_neg hk2.2.2, if_neg h0] at hk
  unfold f_wayBy f_at
  have e3 : 36 * b + 6 * x + y = 36 * b + (6 * x + y) := by omega
  simp (disch := omega) only [h13, ↓reduceIte, o_bind, and_true, true_and, and_false, false_and, or_true, true_or, or_false, false_or, not_true, not_false_eq_true, not_false_iff, ne_eq, Nat.reduceAdd, Nat.reduceMul, Nat.reduceSub, Nat.reduceDiv, Nat.reduceMod, Nat.reduceLT, Nat.reduceLeDiff, Nat.reduceEqDiff, Nat.not_lt, Nat.not_le, q_lit, ↓q_m1, q_om, q_on, q_add, q_mul, q_sub, q_div, q_md, q_ltT, q_ltF, q_leT, q_leF, q_eqT, q_eqF, q_inT, q_inF, q_nn, q_mlt, q_ltm, q_mle, q_lem, q_nem, q_mne, z_same, z_neP, z_neK, zL_same, zL_neP, zL_neK, zr_same, zr_ne, e3, hk]
theorem f_isTown_e {V : zI} {L : zL} {b x : Nat} {U : aU} (hU : UR V L b U) (hB : UB U) (hx : x < 2147483648) : f_isTown (qi x) V L = some (if x < U.1 then qi 1 else qi 0, V, L) := by
  obtain ⟨tw, ct, way, encl, lost, rul, nam⟩ := U
  obtain ⟨⟨hb, h13, h2, -⟩, -⟩ := hU
  obtain ⟨⟨htw, -⟩, -⟩ := hB
  unfold f_isTown
  by_cases h : x < tw
  · simp (disch := omega) only [h13, h2, ↓reduceIte, o_bind, and_true, true_and, and_false, false_and, or_true, true_or, or_false, false_or, not_true, not_false_eq_true, not_false_iff, ne_eq, Nat.reduceAdd, Nat.reduceMul, Nat.reduceSub, Nat.reduceDiv, Nat.reduceMod, Nat.reduceLT, Nat.reduceLeDiff, Nat.reduceEqDiff, Nat.not_lt, Nat.not_le, q_lit, ↓q_m1, q_om, q_on, q_add, q_mul, q_sub, q_div, q_md, q_ltT, q_ltF, q_leT, q_leF, q_eqT, q_eqF, q_inT, q_inF, q_nn, q_mlt, q_ltm, q_mle, q_lem, q_nem, q_mne, z_same, z_neP, z_neK, zL_same, zL_neP, zL_neK, zr_same, zr_ne, h]
  · simp (disch := omega) only [h13, h2, ↓reduceIte, o_bind, and_true, true_and, and_false, false_and, or_true, true_or, or_false, false_or, not_true, not_false_eq_true, not_false_iff, ne_eq, Nat.reduceAdd, Nat.reduceMul, Nat.reduceSub, Nat.reduceDiv, Nat.reduceMod, Nat.reduceLT, Nat.reduceLeDiff, Nat.reduceEqDiff, Nat.not_lt, Nat.not_le, q_lit, ↓q_m1, q_om, q_on, q_add, q_mul, q_sub, q_div, q_md, q_ltT, q_ltF, q_leT, q_leF, q_eqT, q_eqF, q_inT, q_inF, q_nn, q_mlt, q_ltm, q_mle, q_lem, q_nem, q_mne, z_same, z_neP, z_neK, zL_same, zL_neP, zL_neK, zr_same, zr_ne, h]
theorem f_isTown_n {V : zI} {L : zL} {x : Int32} (hx : x < qi 0) : f_isTown x V L = some (qi 0, V, L) := by
  unfold f_isTown
  rw [if_pos (show x < 0 from hx)]; rfl
theorem f_isPair_e {V : zI} {L : zL} {b x y : Nat} {U : aU} (hU : UR V L b U) (hB : UB U) (hx : x < 2147483648) (hy : y < 2147483648) : f_isPair (qi x) (qi y) V L = some (if x < U.1 ∧ y < U.1 ∧ x ≠ y then qi 1 else qi 0, V, L) := by
  unfold f_isPair
  rw [f_isTown_e hU hB hx]
  simp only [o_bind]
  by_cases h1 : x < U.1
  · simp (disch := omega) only [↓reduceIte, o_bind, and_true, true_and, and_false, false_and, or_true, true_or, or_false, false_or, not_true, not_false_eq_true, not_false_iff, ne_eq, Nat.reduceAdd, Nat.reduceMul, Nat.reduceSub, Nat.reduceDiv, Nat.reduceMod, Nat.reduceLT, Nat.reduceLeDiff, Nat.reduceEqDiff, Nat.not_lt, Nat.not_le, q_lit, ↓q_m1, q_om, q_on, q_add, q_mul, q_sub, q_div, q_md, q_ltT, q_ltF, q_leT, q_leF, q_eqT, q_eqF, q_inT, q_inF, q_nn, q_mlt, q_ltm, q_mle, q_lem, q_nem, q_mne, z_same, z_neP, z_neK, zL_same, zL_neP, zL_neK, zr_same, zr_ne, h1]
    rw [f_isTown_e hU hB hy]
    by_cases h2 : y < U.1
    · by_cases h3 : x = y
      · simp (disch := omega) only [↓reduceIte, o_bind, and_true, true_and, and_false, false_and, or_true, true_or, or_false, false_or, not_true, not_false_eq_true, not_false_iff, ne_eq, Nat.reduceAdd, Nat.reduceMul, Nat.reduceSub, Nat.reduceDiv, Nat.reduceMod, Nat.reduceLT, Nat.reduceLeDiff, Nat.reduceEqDiff, Nat.not_lt, Nat.not_le, q_lit, ↓q_m1, q_om, q_on, q_add, q_mul, q_sub, q_div, q_md, q_ltT, q_ltF, q_leT, q_leF, q_eqT, q_eqF, q_inT, q_inF, q_nn, q_mlt, q_ltm, q_mle, q_lem, q_nem, q_mne, z_same, z_neP, z_neK, zL_same, zL_neP, zL_neK, zr_same, zr_ne, h2, h3]
      · simp (disch := omega) only [↓reduceIte, o_bind, and_true, true_and, and_false, false_and, or_true, true_or, or_false, false_or, not_true, not_false_eq_true, not_false_iff, ne_eq, Nat.reduceAdd, Nat.reduceMul, Nat.reduceSub, Nat.reduceDiv, Nat.reduceMod, Nat.reduceLT, Nat.reduceLeDiff, Nat.reduceEqDiff, Nat.not_lt, Nat.not_le, q_lit, ↓q_m1, q_om, q_on, q_add, q_mul, q_sub, q_div, q_md, q_ltT, q_ltF, q_leT, q_leF, q_eqT, q_eqF, q_inT, q_inF, q_nn, q_mlt, q_ltm, q_mle, q_lem, q_nem, q_mne, z_same, z_neP, z_neK, zL_same, zL_neP, zL_neK, zr_same, zr_ne, h2, h3]
    · simp (disch := omega) only [↓reduceIte, o_bind, and_true, true_and, and_false, false_and, or_true, true_or, or_false, false_or, not_true, not_false_eq_true, not_false_iff, ne_eq, Nat.reduceAdd, Nat.reduceMul, Nat.reduceSub, Nat.reduceDiv, Nat.reduceMod, Nat.reduceLT, Nat.reduceLeDiff, Nat.reduceEqDiff, Nat.not_lt, Nat.not_le, q_lit, ↓q_m1, q_om, q_on, q_add, q_mul, q_sub, q_div, q_md, q_ltT, q_ltF, q_leT, q_leF, q_eqT, q_eqF, q_inT, q_inF, q_nn, q_mlt, q_ltm, q_mle, q_lem, q_nem, q_mne, z_same, z_neP, z_neK, zL_same, zL_neP, zL_neK, zr_same, zr_ne, h2]
  · simp (disch := omega) only [↓reduceIte, o_bind, and_true, true_and, and_false, false_and, or_true, true_or, or_false, false_or, not_true, not_false_eq_true, not_false_iff, ne_eq, Nat.reduceAdd, Nat.reduceMul, Nat.reduceSub, Nat.reduceDiv, Nat.reduceMod, Nat.reduceLT, Nat.reduceLeDiff, Nat.reduceEqDiff, Nat.not_lt, Nat.not_le, q_lit, ↓q_m1, q_om, q_on, q_add, q_mul, q_sub, q_div, q_md, q_ltT, q_ltF, q_leT, q_leF, q_eqT, q_eqF, q_inT, q_inF, q_nn, q_mlt, q_ltm, q_mle, q_lem, q_nem, q_mne, z_same, z_neP, z_neK, zL_same, zL_neP, zL_neK, zr_same, zr_ne, h1]
theorem f_X9_isTown_e {N : Nat → Nat} {G : zG} {V : zI} {L : zL} {u x : Nat} {U : aU} (hU : UC N G V u U) (hB : UB U) (hx : x < 2147483648) : f_X9_isTown N G u (qi x) V L = some (if x < U.1 then qi 1 else qi 0) := by
  obtain ⟨tw, ct, way, encl, lost, rul, nam⟩ := U
  obtain ⟨⟨h0, -⟩, -⟩ := hU
  obtain ⟨⟨htw, -⟩, -⟩ := hB
  unfold f_X9_isTown g_X9_isTown
  by_cases h : x < tw
  · simp (disch := omega) only [h0, ↓reduceIte, o_bind, and_true, true_and, and_false, false_and, or_true, true_or, or_false, false_or, not_true, not_false_eq_true, not_false_iff, ne_eq, Nat.reduceAdd, Nat.reduceMul, Nat.reduceSub, Nat.reduceDiv, Nat.reduceMod, Nat.reduceLT, Nat.reduceLeDiff, Nat.reduceEqDiff, Nat.not_lt, Nat.not_le, q_lit, ↓q_m1, q_om, q_on, q_add, q_mul, q_sub, q_div, q_md, q_ltT, q_ltF, q_leT, q_leF, q_eqT, q_eqF, q_inT, q_inF, q_nn, q_mlt, q_ltm, q_mle, q_lem, q_nem, q_mne, z_same, z_neP, z_neK, zL_same, zL_neP, zL_neK, zr_same, zr_ne, h]
  · simp (disch := omega) only [h0, ↓reduceIte, o_bind, and_true, true_and, and_false, false_and, or_true, true_or, or_false, false_or, not_true, not_false_eq_true, not_false_iff, ne_eq, Nat.reduceAdd, Nat.reduceMul, Nat.reduceSub, Nat.reduceDiv, Nat.reduceMod, Nat.reduceLT, Nat.reduceLeDiff, Nat.reduceEqDiff, Nat.not_lt, Nat.not_le, q_lit, ↓q_m1, q_om, q_on, q_add, q_mul, q_sub, q_div, q_md, q_ltT, q_ltF, q_leT, q_leF, q_eqT, q_eqF, q_inT, q_inF, q_nn, q_mlt, q_ltm, q_mle, q_lem, q_nem, q_mne, z_same, z_neP, z_neK, zL_same, zL_neP, zL_neK, zr_same, zr_ne, h]
theorem f_X9_isTown_n {N : Nat → Nat} {G : zG} {V : zI} {L : zL} {u : Nat} {x : Int32} (hx : x < qi 0) : f_X9_isTown N G u x V L = some (qi 0) := by
  unfold f_X9_isTown g_X9_isTown
  rw [if_pos (show x < 0 from hx)]; rfl
theorem f_X9_isPair_e {N : Nat → Nat} {G : zG} {V : zI} {L : zL} {u x y : Nat} {U : aU} (hU : UC N G V u U) (hB : UB U) (hx : x < 2147483648) (hy : y < 2147483648) : f_X9_isPair N G u (qi x) (qi y) V L = some (if x < U.1 ∧ y < U.1 ∧ x ≠ y then qi 1 else qi 0) := by
  unfold f_X9_isPair g_X9_isPair
  rw [f_X9_isTown_e hU hB hx]
  simp only [o_bind]
  by_cases h1 : x < U.1
  · simp (disch := omega) only [↓reduceIte, o_bind, and_true, true_and, and_false, false_and, or_true, true_or, or_false, false_or, not_true, not_false_eq_true, not_false_iff, ne_eq, Nat.reduceAdd, Nat.reduceMul, Nat.reduceSub, Nat.reduceDiv, Nat.reduceMod, Nat.reduceLT, Nat.reduceLeDiff, Nat.reduceEqDiff, Nat.not_lt, Nat.not_le, q_lit, ↓q_m1, q_om, q_on, q_add, q_mul, q_sub, q_div, q_md, q_ltT, q_ltF, q_leT, q_leF, q_eqT, q_eqF, q_inT, q_inF, q_nn, q_mlt, q_ltm, q_mle, q_lem, q_nem, q_mne, z_same, z_neP, z_neK, zL_same, zL_neP, zL_neK, zr_same, zr_ne, h1]
    rw [f_X9_isTown_e hU hB hy]
    by_cases h2 : y < U.1
    · by_cases h3 : x = y
      · simp (disch := omega) only [↓reduceIte, o_bind, and_true, true_and, and_false, false_and, or_true, true_or, or_false, false_or, not_true, not_false_eq_true, not_false_iff, ne_eq, Nat.reduceAdd, Nat.reduceMul, Nat.reduceSub, Nat.reduceDiv, Nat.reduceMod, Nat.reduceLT, Nat.reduceLeDiff, Nat.reduceEqDiff, Nat.not_lt, Nat.not_le, q_lit, ↓q_m1, q_om, q_on, q_add, q_mul, q_sub, q_div, q_md, q_ltT, q_ltF, q_leT, q_leF, q_eqT, q_eqF, q_inT, q_inF, q_nn, q_mlt, q_ltm, q_mle, q_lem, q_nem, q_mne, z_same, z_neP, z_neK, zL_same, zL_neP, zL_neK, zr_same, zr_ne, h2, h3]
      · simp (disch := omega) only [↓reduceIte, o_bind, and_true, true_and, and_false, false_and, or_true, true_or, or_false, false_or, not_true, not_false_eq_true, not_false_iff, ne_eq, Nat.reduceAdd, Nat.reduceMul, Nat.reduceSub, Nat.reduceDiv, Nat.reduceMod, Nat.reduceLT, Nat.reduceLeDiff, Nat.reduceEqDiff, Nat.not_lt, Nat.not_le, q_lit, ↓q_m1, q_om, q_on, q_add, q_mul, q_sub, q_div, q_md, q_ltT, q_ltF, q_leT, q_leF, q_eqT, q_eqF, q_inT, q_inF, q_nn, q_mlt, q_ltm, q_mle, q_lem, q_nem, q_mne, z_same, z_neP, z_neK, zL_same, zL_neP, zL_neK, zr_same, zr_ne, h2, h3]
    · simp (disch := omega) only [↓reduceIte, o_bind, and_true, true_and, and_false, false_and, or_true, true_or, or_false, false_or, not_true, not_false_eq_true, not_false_iff, ne_eq, Nat.reduceAdd, Nat.reduceMul, Nat.reduceSub, Nat.reduceDiv, Nat.reduceMod, Nat.reduceLT, Nat.reduceLeDiff, Nat.reduceEqDiff, Nat.not_lt, Nat.not_le, q_lit, ↓q_m1, q_om, q_on, q_add, q_mul, q_sub, q_div, q_md, q_ltT, q_ltF, q_leT, q_leF, q_eqT, q_eqF, q_inT, q_inF, q_nn, q_mlt, q_ltm, q_mle, q_lem, q_nem, q_mne, z_same, z_neP, z_neK, zL_same, zL_neP, zL_neK, zr_same, zr_ne, h2]
  · simp (disch := omega) only [↓reduceIte, o_bind, and_true, true_and, and_false, false_and, or_true, true_or, or_false, false_or, not_true, not_false_eq_true, not_false_iff, ne_eq, Nat.reduceAdd, Nat.reduceMul, Nat.reduceSub, Nat.reduceDiv, Nat.reduceMod, Nat.reduceLT, Nat.reduceLeDiff, Nat.reduceEqDiff, Nat.not_lt, Nat.not_le, q_lit, ↓q_m1, q_om, q_on, q_add, q_mul, q_sub, q_div, q_md, q_ltT, q_ltF, q_leT, q_leF, q_eqT, q_eqF, q_inT, q_inF, q_nn, q_mlt, q_ltm, q_mle, q_lem, q_nem, q_mne, z_same, z_neP, z_neK, zL_same, zL_neP, zL_neK, zr_same, zr_ne, h1]
/-- is it a pair: the same answer on both sides, for any two ints -/
theorem x_isPair {N : Nat → Nat} {G : zG} {V V' : zI} {L L' : zL} {u b : Nat} {U : aU} (hC : UC N G V u U) (hR : UR V' L' b U) (hB : UB U) (x y : Int32) : (f_X9_isPair N G u x y V L = some (qi 0) ∧ f_isPair x y V' L' = some (qi 0, V', L')) ∨ ∃ a c : Nat, x = qi a ∧ y = qi c ∧ a < U.1 ∧ c < U.1 ∧ a ≠ c ∧ f_X9_isPair N G u x y V L = some (qi 1) ∧ f_isPair x y V' L' = some (qi 1, V', L') := by
  rcases q_cases x with hx | ⟨a, ha, rfl⟩
  · left
    unfold f_X9_isPair g_X9_isPair f_isPair
    rw [f_X9_isTown_n hx, f_isTown_n hx]
    exact ⟨rfl, rfl⟩
  rcases q_cases y with hy | ⟨c, hc, rfl⟩
  · left
    unfold f_X9_isPair g_X9_isPair f_isPair
    rw [f_X9_isTown_e hC hB ha, f_isTown_e hR hB ha]
    by_cases h : a < U.1
    · rw [if_pos h]
      simp only [o_bind, f_X9_isTown_n hy, f_isTown_n hy]
      exact ⟨rfl, rfl⟩
    · rw [if_neg h]
      exact ⟨rfl, rfl⟩
  rw [f_X9_isPair_e hC hB ha hc, f_isPair_e hR hB ha hc]
  by_cases h : a < U.1 ∧ c < U.1 ∧ a ≠ c
  · right
    exact ⟨a, c, rfl, rfl, h.1, h.2.1, h.2.2, by rw [if_pos h], by rw [if_pos h]⟩
  · left
    exact ⟨by rw [if_neg h], by rw [if_neg h]⟩
theorem x_isTown {N : Nat → Nat} {G : zG} {V V' : zI} {L L' : zL} {u b : Nat} {U : aU} (hC : UC N G V u U) (hR : UR V' L' b U) (hB : UB U) (x : Int32) : (f_X9_isTown N G u x V L = some (qi 0) ∧ f_isTown x V' L' = some (qi 0, V', L')) ∨ ∃ a : Nat, x = qi a ∧ a < U.1 ∧ f_X9_isTown N G u x V L = some (qi 1) ∧ f_isTown x V' L' = some (qi 1, V', L') := by
  rcases q_cases x with hx | ⟨a, ha, rfl⟩
  · left
    rw [f_X9_isTown_n hx, f_isTown_n hx]
    exact ⟨rfl, rfl⟩
  rw [f_X9_isTown_e hC hB ha, f_isTown_e hR hB ha]
  by_cases h : a < U.1
  · right
    exact ⟨a, rfl, h, by rw [if_pos h], by rw [if_pos h]⟩
  · left
    exact ⟨by rw [if_neg h], by rw [if_neg h]⟩
end
