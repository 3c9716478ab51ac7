section
variable {t : Nat → Nat} {tl i m s e κ c y : Nat} {V V0 : zI} {L : zL} {N : Nat → Nat} {G : zG} {A B F : Nat → Nat}
theorem qb_5 : ∀ k, k < 6 → ∀ x, x < 32 → (qi x <<< ((qi k * 5) &&& 31)) = qi (x * 32 ^ k) := by decide +kernel
theorem q_letC {a o k : Nat} (hk : k < 6) (ha : a < 32 ^ k) (ho : isL o) : qi a ||| (((qi o - 97) + 1) <<< ((qi k * 5) &&& 31)) = qi (a + (o - 96) * 32 ^ k) := by
  have h1 := ho.1
  have h2 := ho.2
  have e : (qi o - 97 : Int32) + 1 = qi (o - 96) := by
    rw [show (97 : Int32) = qi 97 from rfl, show (1 : Int32) = qi 1 from rfl, q_sub (by omega), q_add, show o - 97 + 1 = o - 96 by omega]
  have hp : (32 : Nat) ^ k ≤ 32 ^ 5 := Nat.pow_le_pow_right (by decide) (by omega)
  have hp5 : (32 : Nat) ^ 5 = 33554432 := rfl
  have hm : (o - 96) * 32 ^ k ≤ 26 * 33554432 := Nat.mul_le_mul (by omega) (by omega)
  rw [e, qb_5 k hk (o - 96) (by omega), q_or (by omega) (by omega)]
  have e32 : (32 : Nat) ^ k = 2 ^ (5 * k) := by rw [show (32 : Nat) = 2 ^ 5 from rfl, ← Nat.pow_mul]
  have g := Nat.two_pow_add_eq_or_of_lt (i := 5 * k) (b := a) (by rw [← e32]; exact ha) (o - 96)
  rw [← e32, Nat.mul_comm] at g
  rw [Nat.or_comm, ← g, Nat.add_comm]
theorem nmC_app : ∀ (l : List Nat) (a : Nat), nmC (l ++ [a]) = nmC l + a * 32 ^ l.length := by
  intro l
  induction l with
  | nil => intro a; show a + 32 * 0 = 0 + a * 1; omega
  | cons x l ih =>
    intro a
    show x + 32 * nmC (l ++ [a]) = x + 32 * nmC l + a * 32 ^ (l.length + 1)
    have e : 32 * (a * 32 ^ l.length) = a * (32 ^ l.length * 32) := by rw [Nat.mul_comm 32, Nat.mul_assoc]
    rw [ih, Nat.pow_succ, Nat.mul_add, e]
    omega
theorem k_kind {o : Nat} (ho : o < 256) : f_X8_kindOf (qi o) = some (qi (kdO o)) := by
  unfold f_X8_kindOf g_X8_kindOf kdO
  have h28 : f_X8_kindOf_28 (qi o) = some (qi (if isB o then 0 else 1)) := by
    unfold f_X8_kindOf_28
    by_cases h1 : o = 10
    · rw [if_pos (by rw [h1]; rfl), if_pos (Or.inr h1)]; rfl
    rw [if_neg (by rw [q_lit, q_eq (by omega) (by omega)]; exact h1)]
    by_cases h2 : o = 32
    · rw [if_pos (by rw [h2]; rfl), if_pos (Or.inl h2)]; rfl
    rw [if_neg (by rw [q_lit, q_eq (by omega) (by omega)]; exact h2), if_neg (show ¬ isB o from fun h => by
      rcases h with h | h
      · exact h2 h
      · exact h1 h)]
    rfl
  have h14 : f_X8_kindOf_14 (qi o) = some (qi (if isD o then 2 else if isB o then 0 else 1)) := by
    unfold f_X8_kindOf_14
    by_cases h1 : o < 48
    · rw [if_pos (by rw [q_lit, q_lt (by omega) (by omega)]; exact h1), if_neg (show ¬ isD o from fun h => by have := h.1; omega)]; exact h28
    rw [if_neg (by rw [q_lit, q_lt (by omega) (by omega)]; exact h1)]
    by_cases h2 : 57 < o
    · rw [if_pos (by rw [q_lit, q_lt (by omega) (by omega)]; exact h2), if_neg (show ¬ isD o from fun h => by have := h.2; omega)]; exact h28
    rw [if_neg (by rw [q_lit, q_lt (by omega) (by omega)]; exact h2), if_pos (show isD o from ⟨by omega, by omega⟩)]
    rfl
  by_cases h1 : o < 97
  · rw [if_pos (by rw [q_lit, q_lt (by omega) (by omega)]; exact h1), if_neg (show ¬ isL o from fun h => by have := h.1; omega)]; exact h14
  rw [if_neg (by rw [q_lit, q_lt (by omega) (by omega)]; exact h1)]
  by_cases h2 : 122 < o
  · rw [if_pos (by rw [q_lit, q_lt (by omega) (by omega)]; exact h2), if_neg (show ¬ isL o from fun h => by have := h.2; omega)]; exact h14
  rw [if_neg (by rw [q_lit, q_lt (by omega) (by omega)]; exact h2), if_pos (show isL o from ⟨by omega, by omega⟩)]
  rfl
/-- the three rows of tokens -/
def AR (y c : Nat) (A B F : Nat → Nat) (V : zI) : Prop := V y 3 = qi c ∧ ∀ j, j < c → V (y + 1) j = qi (A j) ∧ V (y + 2) j = qi (B j) ∧ V (y + 3) j = qi (F j)
def AF (y : Nat) (V0 V : zI) : Prop := (∀ x, x ≠ y → x ≠ y + 1 → x ≠ y + 2 → x ≠ y + 3 → V x = V0 x) ∧ ∀ j, j ≠ 3 → V y j = V0 y j
def AG (y tl : Nat) (N : Nat → Nat) (G : zG) : Prop := (G y 0 = some (y + 1) ∧ G y 1 = some (y + 2) ∧ G y 2 = some (y + 3)) ∧ N (y + 1) = tl + 1 ∧ N (y + 2) = tl + 1 ∧ N (y + 3) = tl + 1 ∧ tl ≤ 1600
abbrev up (A : Nat → Nat) (c a : Nat) : Nat → Nat := fun j => if j = c then a else A j
theorem up_c {a : Nat} : up A c a c = a := if_pos rfl
theorem up_n {a j : Nat} (e : j ≠ c) : up A c a j = A j := if_neg e
theorem s_add {a v f : Nat} (hg : AG y tl N G) (hc : c ≤ tl) (h : AR y c A B F V) (hf : AF y V0 V) : zW (f_X8_add N G y (qi a) (qi v) (qi f) V L) (fun r => r.2 = L ∧ AR y (c + 1) (up A c a) (up B c v) (up F c f) r.1 ∧ AF y V0 r.1) := by
  obtain ⟨⟨g0, g1, g2⟩, n0, n1, n2, ht⟩ := hg
  obtain ⟨h3, hj⟩ := h
  unfold f_X8_add
  rw [g0, o_bind, g1, o_bind, g2, o_bind]
  simp (disch := omega) only [g_X8_add, h3, n0, n1, n2, ↓reduceIte, o_bind, and_true, true_and, and_false, false_and, or_true, true_or, or_false, false_or, not_true, not_false_eq_true, not_false_iff, ne_eq, Nat.reduceAdd, Nat.reduceMul, Nat.reduceSub, Nat.reduceDiv, Nat.reduceMod, Nat.reduceLT, Nat.reduceLeDiff, Nat.reduceEqDiff, Nat.not_lt, Nat.not_le, q_lit, ↓q_m1, q_om, q_on, q_add, q_mul, q_sub, q_div, q_md, q_ltT, q_ltF, q_leT, q_leF, q_eqT, q_eqF, q_inT, q_inF, q_nn, q_mlt, q_ltm, q_mle, q_lem, q_nem, q_mne, z_same, z_neP, z_neK, zL_same, zL_neP, zL_neK, zr_same, zr_ne]
  refine zW_some ⟨rfl, ⟨z_same, fun j hjc => ?_⟩, fun x x0 x1 x2 x3 => ?_, fun j hj3 => ?_⟩
  · dsimp only
    by_cases e : j = c
    · subst e
      simp (disch := omega) only [z_same, z_neP, z_neK, zL_same, zL_neP, zL_neK, zr_same, zr_ne]
      rw [up_c, up_c, up_c]
      exact ⟨rfl, rfl, rfl⟩
    · simp (disch := omega) only [z_same, z_neP, z_neK, zL_same, zL_neP, zL_neK, zr_same, zr_ne]
      rw [up_n e, up_n e, up_n e]
      exact hj j (by omega)
  · dsimp only
    simp (disch := omega) only [z_same, z_neP, z_neK, zL_same, zL_neP, zL_neK, zr_same, zr_ne]
    exact hf.1 x x0 x1 x2 x3
  · dsimp only
    simp (disch := omega) only [z_same, z_neP, z_neK, zL_same, zL_neP, zL_neK, zr_same, zr_ne]
    exact hf.2 j hj3
theorem s_spoil {p : Nat} (hg : AG y tl N G) (hc : c ≤ tl) (h : AR y (c + 1) A B F V) (hA : A c < 100) (hf : AF y V0 V) : zW (f_X8_spoil N G y (qi p) V L) (fun r => r.2 = L ∧ AR y (c + 1) (up A c 5) (up B c (if A c = 5 then B c else p)) F r.1 ∧ AF y V0 r.1) := by
  obtain ⟨⟨g0, g1, g2⟩, n0, n1, n2, ht⟩ := hg
  obtain ⟨h3, hj⟩ := h
  obtain ⟨j1, j2, j3⟩ := hj c (by omega)
  unfold f_X8_spoil
  rw [g0, o_bind, g1, o_bind]
  by_cases e5 : A c = 5
  · rw [e5] at j1
    simp (disch := omega) only [g_X8_spoil, h3, n0, n1, j1, Nat.add_sub_cancel, ↓reduceIte, o_bind, and_true, true_and, and_false, false_and, or_true, true_or, or_false, false_or, not_true, not_false_eq_true, not_false_iff, ne_eq, Nat.reduceAdd, Nat.reduceMul, Nat.reduceSub, Nat.reduceDiv, Nat.reduceMod, Nat.reduceLT, Nat.reduceLeDiff, Nat.reduceEqDiff, Nat.not_lt, Nat.not_le, q_lit, ↓q_m1, q_om, q_on, q_add, q_mul, q_sub, q_div, q_md, q_ltT, q_ltF, q_leT, q_leF, q_eqT, q_eqF, q_inT, q_inF, q_nn, q_mlt, q_ltm, q_mle, q_lem, q_nem, q_mne, z_same, z_neP, z_neK, zL_same, zL_neP, zL_neK, zr_same, zr_ne]
    refine zW_some ⟨rfl, ⟨h3, fun j hjc => ?_⟩, hf⟩
    by_cases e : j = c
    · subst e
      dsimp only
      rw [up_c, up_c, if_pos e5]
      exact ⟨j1, j2, j3⟩
    · dsimp only
      rw [up_n e, up_n e]
      exact hj j hjc
  · simp (disch := omega) only [g_X8_spoil, h3, n0, n1, j1, Nat.add_sub_cancel, ↓reduceIte, o_bind, and_true, true_and, and_false, false_and, or_true, true_or, or_false, false_or, not_true, not_false_eq_true, not_false_iff, ne_eq, Nat.reduceAdd, Nat.reduceMul, Nat.reduceSub, Nat.reduceDiv, Nat.reduceMod, Nat.reduceLT, Nat.reduceLeDiff, Nat.reduceEqDiff, Nat.not_lt, Nat.not_le, q_lit, ↓q_m1, q_om, q_on, q_add, q_mul, q_sub, q_div, q_md, q_ltT, q_ltF, q_leT, q_leF, q_eqT, q_eqF, q_inT, q_inF, q_nn, q_mlt, q_ltm, q_mle, q_lem, q_nem, q_mne, z_same, z_neP, z_neK, zL_same, zL_neP, zL_neK, zr_same, zr_ne]
    refine zW_some ⟨rfl, ⟨?_, fun j hjc => ?_⟩, fun x x0 x1 x2 x3 => ?_, fun j hj3 => ?_⟩
    · dsimp only; simp (disch := omega) only [z_same, z_neP, z_neK, zL_same, zL_neP, zL_neK, zr_same, zr_ne]; exact h3
    · dsimp only
      by_cases e : j = c
      · subst e
        simp (disch := omega) only [z_same, z_neP, z_neK, zL_same, zL_neP, zL_neK, zr_same, zr_ne]
        rw [up_c, up_c, if_neg e5]
        exact ⟨rfl, rfl, j3⟩
      · simp (disch := omega) only [z_same, z_neP, z_neK, zL_same, zL_neP, zL_neK, zr_same, zr_ne]
        rw [up_n e, up_n e]
        exact hj j hjc
    · dsimp only; simp (disch := omega) only [z_same, z_neP, z_neK, zL_same, zL_neP, zL_neK, zr_same, zr_ne]; exact hf.1 x x0 x1 x2 x3
    · dsimp only; simp (disch := omega) only [z_same, z_neP, z_neK, zL_same, zL_neP, zL_neK, zr_same, zr_ne]; exact hf.2 j hj3
/-- a run grows by an octet -/
def lnA (κ k a : Nat) : Nat := if k = (if κ = 3 then 6 else 4) then 5 else a
def lnB (κ o i k a b : Nat) : Nat := if k = (if κ = 3 then 6 else 4) then (if a = 5 then b else i) else if a = 3 then b + (o - 96) * 32 ^ k else if a = 2 then b * 10 + o - 48 else b
theorem up_same {X : Nat → Nat} (h : X c = s) : up X c s = X := by
  funext j
  show (if j = c then s else X j) = X j
  by_cases e : j = c
  · rw [if_pos e, e, h]
  · rw [if_neg e]
set_option maxHeartbeats 2000000 in
theorem s_len {o : Nat} (hg : AG y tl N G) (hc : c ≤ tl) (hκ : κ = 2 ∨ κ = 3) (hi : i < tl) (ho : kdO o = κ) (h : AR y (c + 1) A B F V) (hA : A c < 100) (hF : F c ≤ i) (h3 : A c = 3 → κ = 3 ∧ i - F c ≤ 6 ∧ B c < 32 ^ (i - F c)) (h2 : A c = 2 → κ = 2 ∧ B c < 10000) (hf : AF y V0 V) : zW (f_X8_lengthen N G y (qi κ) (qi o) (qi i) V L) (fun r => r.2 = L ∧ AR y (c + 1) (up A c (lnA κ (i - F c) (A c))) (up B c (lnB κ o i (i - F c) (A c) (B c))) F r.1 ∧ AF y V0 r.1) := by
  obtain ⟨⟨g0, g1, g2⟩, n0, n1, n2, ht⟩ := id hg
  obtain ⟨h3', hj⟩ := id h
  obtain ⟨j1, j2, j3⟩ := hj c (by omega)
  have e1 : V y 3 - 1 = qi c := by rw [h3', show (1 : Int32) = qi 1 from rfl, q_sub (by omega), Nat.add_sub_cancel]
  have e2 : qi i - V (y + 3) (V y 3 - 1).toNatClampNeg = qi (i - F c) := by rw [e1, q_nn (by omega), j3, q_sub hF]
  unfold f_X8_lengthen
  rw [g0, o_bind, g1, o_bind, g2, o_bind]
  unfold g_X8_lengthen
  refine zW_if1 (by rw [e1]; exact (q_le (a := 0) (b := c) (by omega) (by omega)).mpr (by omega)) ?_
  refine zW_if1 (by rw [e1, n2]; exact q_inP (by omega) (by omega)) ?_
  rw [e2, e1]
  have key : ∀ mo : Nat, mo = (if κ = 3 then 6 else 4) → zW (f_X8_lengthen_38 N G y (y + 1) (y + 2) (y + 3) (qi o) (qi i) (qi c) (qi (i - F c)) (qi (i - F c)) (qi mo) V L) (fun r => r.2 = L ∧ AR y (c + 1) (up A c (lnA κ (i - F c) (A c))) (up B c (lnB κ o i (i - F c) (A c) (B c))) F r.1 ∧ AF y V0 r.1) := fun mo hmo => by
    unfold lnA lnB
    rw [← hmo]
    have hmo6 : mo ≤ 6 := by rw [hmo]; split <;> omega
    unfold f_X8_lengthen_38
    by_cases ek : i - F c = mo
    · rw [if_pos ek, if_pos ek]
      refine zW_if1 (by rw [ek]) ?_
      refine zW_call (s_spoil (p := i) hg hc h hA hf) ?_
      rintro ⟨V1, L1⟩ h1
      exact zW_some h1
    · rw [if_neg ek, if_neg ek]
      refine zW_if0 (by rw [q_eq (by omega) (by omega)]; exact ek) ?_
      refine zW_if1 (by rw [n0]; exact q_inP (by omega) (by omega)) ?_
      have hnn := q_nn (a := c) (by omega)
      have j1' : V (y + 1) (qi c).toNatClampNeg = qi (A c) := by rw [hnn]; exact j1
      have hupd : ∀ v : Nat, AR y (c + 1) (up A c (A c)) (up B c v) F (z_uI V (y + 2) c (qi v)) ∧ AF y V0 (z_uI V (y + 2) c (qi v)) := fun v => by
        rw [up_same (X := A) rfl]
        refine ⟨⟨?_, fun j hjc => ?_⟩, fun x x0 x1 x2 x3 => ?_, fun j hj3 => ?_⟩
        · rw [z_neP (by omega)]; exact h3'
        · by_cases e : j = c
          · subst e
            rw [z_neP (by omega), z_same, z_neP (by omega), up_c]
            exact ⟨j1, rfl, j3⟩
          · rw [z_neP (by omega), z_neK e, z_neP (by omega), up_n e]
            exact hj j hjc
        · rw [z_neP x2]; exact hf.1 x x0 x1 x2 x3
        · rw [z_neP (by omega)]; exact hf.2 j hj3
      by_cases a3 : A c = 3
      · obtain ⟨k3, k6, kb⟩ := h3 a3
        have hm6 : mo = 6 := by rw [hmo, if_pos k3]
        have hol : isL o := kdO_3.mp (by rw [ho]; exact k3)
        rw [if_pos a3]
        refine zW_if1 (by rw [j1', a3]; rfl) (zW_if1 (by rw [n1]; exact q_inP (by omega) (by omega)) (zW_if1 (by rw [n1]; exact q_inP (by omega) (by omega)) ?_))
        rw [hnn, j2, q_letC (by omega) kb hol]
        exact zW_some ⟨rfl, hupd _⟩
      · rw [if_neg a3]
        refine zW_if0 (by rw [j1', q_lit, q_eq (by omega) (by omega)]; exact a3) (zW_if1 (by rw [n0]; exact q_inP (by omega) (by omega)) ?_)
        by_cases a2 : A c = 2
        · obtain ⟨k2, kb⟩ := h2 a2
          have hod : isD o := kdO_2.mp (by rw [ho]; exact k2)
          have hod1 := hod.1
          rw [if_pos a2]
          refine zW_if1 (by rw [j1', a2]; rfl) (zW_if1 (by rw [n1]; exact q_inP (by omega) (by omega)) (zW_if1 (by rw [n1]; exact q_inP (by omega) (by omega)) ?_))
          rw [hnn, j2, show (10 : Int32) = qi 10 from rfl, show (48 : Int32) = qi 48 from rfl, q_mul, q_add, q_sub (by omega)]
          exact zW_some ⟨rfl, hupd _⟩
        · rw [if_neg a2]
          refine zW_if0 (by rw [j1', q_lit, q_eq (by omega) (by omega)]; exact a2) ?_
          rw [up_same (X := A) rfl, up_same (X := B) rfl]
          exact zW_some ⟨rfl, h, hf⟩
  rcases hκ with rfl | rfl
  · exact zW_if0 (by decide) (key 4 rfl)
  · exact zW_if1 (by rfl) (key 6 rfl)
end
