section
/-! The rules' codes: 0 to 4 read held, far, day, sent, got; 5 to 18 join; 50 is 'all'; 100 and on are numbers. -/
def cOf (c : Nat) : Nat := if c = 50 then 101 else c
def rsOf (c : Nat) : Nat := if c < 5 then c + 1 else if c = 50 then 30 else if 100 ≤ c then 0 else sOf c
abbrev tyT : Type := Nat × (Nat → Bool)
abbrev evT : Type := Nat × (Nat → Int)
def tyS (c : Nat) (x : tyT) : Option tyT :=
  if c < 5 ∨ (100 ≤ c ∧ c < 10100) ∨ c = 50 then (if x.1 < 120 then some (x.1 + 1, fun k => if k = x.1 then decide (c = 50) else x.2 k) else none)
  else if c = 17 then (if 1 ≤ x.1 ∧ x.2 (x.1 - 1) = true then some x else none)
  else if c = 18 then (if 3 ≤ x.1 ∧ x.2 (x.1 - 3) = true ∧ x.2 (x.1 - 2) = false ∧ x.2 (x.1 - 1) = false then some (x.1 - 2, fun k => if k = x.1 - 3 then false else x.2 k) else none)
  else if 5 ≤ c ∧ c ≤ 16 then (if 2 ≤ x.1 ∧ x.2 (x.1 - 2) = decide (c = 12 ∨ c = 13) ∧ x.2 (x.1 - 1) = decide (c = 12 ∨ c = 13) then some (x.1 - 1, fun k => if k = x.1 - 2 then decide (12 ≤ c) else x.2 k) else none)
  else none
def evS (f : Nat → Int) (c : Nat) (x : evT) : evT :=
  if c < 5 ∨ 100 ≤ c ∨ c = 50 then (x.1 + 1, fun k => if k = x.1 then (if c < 5 then f c else if c = 50 then 1 else ((c - 100 : Nat) : Int)) else x.2 k)
  else if c = 17 then (x.1, fun k => if k = x.1 - 1 then 1 - x.2 (x.1 - 1) else x.2 k)
  else if c = 18 then (x.1 - 2, fun k => if k = x.1 - 3 then (if x.2 (x.1 - 3) = 0 then x.2 (x.1 - 1) else x.2 (x.1 - 2)) else x.2 k)
  else (x.1 - 1, fun k => if k = x.1 - 2 then evJ c (x.2 (x.1 - 2)) (x.2 (x.1 - 1)) else x.2 k)
def tyL : List Nat → tyT → Option tyT
  | [], x => some x
  | c :: r, x => (tyS c x).bind (tyL r)
def evL (f : Nat → Int) : List Nat → evT → evT
  | [], x => x
  | c :: r, x => evL f r (evS f c x)
abbrev ty0 : tyT := (0, fun _ => false)
abbrev ev0 : evT := (0, fun _ => 0)
def evI (n : Nat) (t : Nat → Bool) (s : Nat → Int) : Prop := n ≤ 120 ∧ ∀ k, k < n → (-1000000 ≤ s k ∧ s k ≤ 1000000) ∧ (t k = true → s k = 0 ∨ s k = 1)
theorem tyL_app {a b : List Nat} {x : tyT} : tyL (a ++ b) x = (tyL a x).bind (tyL b) := by
  induction a generalizing x with
  | nil => rfl
  | cons c a ih =>
    show (tyS c x).bind (tyL (a ++ b)) = ((tyS c x).bind (tyL a)).bind (tyL b)
    cases tyS c x with
    | none => rfl
    | some y => exact ih
theorem ty_inv {c n : Nat} {t : Nat → Bool} {y : tyT} (h : tyS c (n, t) = some y) : ((c < 5 ∨ (100 ≤ c ∧ c < 10100) ∨ c = 50) ∧ n < 120 ∧ y = (n + 1, fun k => if k = n then decide (c = 50) else t k)) ∨ (c = 17 ∧ 1 ≤ n ∧ t (n - 1) = true ∧ y = (n, t)) ∨ (c = 18 ∧ 3 ≤ n ∧ t (n - 3) = true ∧ t (n - 2) = false ∧ t (n - 1) = false ∧ y = (n - 2, fun k => if k = n - 3 then false else t k)) ∨ ((5 ≤ c ∧ c ≤ 16) ∧ 2 ≤ n ∧ t (n - 2) = decide (c = 12 ∨ c = 13) ∧ t (n - 1) = decide (c = 12 ∨ c = 13) ∧ y = (n - 1, fun k => if k = n - 2 then decide (12 ≤ c) else t k)) := by
  unfold tyS at h
  split at h
  · split at h
    · cases h; exact Or.inl ⟨by assumption, by assumption, rfl⟩
    · cases h
  · split at h
    · split at h
      · cases h; rename_i h1 h2; exact Or.inr (Or.inl ⟨by assumption, h2.1, h2.2, rfl⟩)
      · cases h
    · split at h
      · split at h
        · cases h; rename_i h1 h2; exact Or.inr (Or.inr (Or.inl ⟨by assumption, h2.1, h2.2.1, h2.2.2.1, h2.2.2.2, rfl⟩))
        · cases h
      · split at h
        · split at h
          · cases h; rename_i h1 h2; exact Or.inr (Or.inr (Or.inr ⟨by assumption, h2.1, h2.2.1, h2.2.2, rfl⟩))
          · cases h
        · cases h
theorem ev_step {c n : Nat} {t : Nat → Bool} {s : Nat → Int} {y : tyT} (h : tyS c (n, t) = some y) {f : Nat → Int} (hf : ∀ c, c < 5 → -1000000 ≤ f c ∧ f c ≤ 1000000) (hI : evI n t s) : evI y.1 y.2 (evS f c (n, s)).2 ∧ (evS f c (n, s)).1 = y.1 := by
  obtain ⟨hn, hk⟩ := hI
  rcases ty_inv h with ⟨h1, h2, rfl⟩ | ⟨rfl, h2, h3, rfl⟩ | ⟨rfl, h2, h3, h4, h5, rfl⟩ | ⟨h1, h2, h3, h4, rfl⟩
  · have e : c < 5 ∨ 100 ≤ c ∨ c = 50 := by omega
    simp only [evS, e, ↓reduceIte]
    refine ⟨⟨by omega, fun k hk' => ?_⟩, trivial⟩
    by_cases hkn : k = n
    · simp only [hkn, ↓reduceIte, decide_eq_true_eq]
      by_cases h5 : c < 5
      · have h50 : ¬ c = 50 := by omega
        simp only [h5, h50, ↓reduceIte, false_imp_iff, and_true]
        exact hf c h5
      · by_cases h50 : c = 50
        · simp [h50]
        · simp only [h5, h50, ↓reduceIte, false_imp_iff, and_true]
          omega
    · simp only [hkn, ↓reduceIte]
      exact hk k (by omega)
  · simp only [evS, show ¬ (17 < 5 ∨ 100 ≤ 17 ∨ 17 = 50) by omega, ↓reduceIte]
    refine ⟨⟨hn, fun k hk' => ?_⟩, trivial⟩
    by_cases hkn : k = n - 1
    · subst hkn
      simp only [↓reduceIte]
      have := (hk (n - 1) (by omega)).2 h3
      omega
    · simp only [hkn, ↓reduceIte]
      exact hk k hk'
  · simp only [evS, show ¬ (18 < 5 ∨ 100 ≤ 18 ∨ 18 = 50) by omega, show ¬ (18 = 17) by omega, ↓reduceIte]
    refine ⟨⟨by omega, fun k hk' => ?_⟩, trivial⟩
    by_cases hkn : k = n - 3
    · subst hkn
      simp only [↓reduceIte, Bool.false_eq_true, false_imp_iff, and_true]
      split
      · exact (hk (n - 1) (by omega)).1
      · exact (hk (n - 2) (by omega)).1
    · simp only [hkn, ↓reduceIte]
      exact hk k (by omega)
  · simp only [evS, show ¬ (c < 5 ∨ 100 ≤ c ∨ c = 50) by omega, show ¬ (c = 17) by omega, show ¬ (c = 18) by omega, ↓reduceIte]
    refine ⟨⟨by omega, fun k hk' => ?_⟩, trivial⟩
    by_cases hkn : k = n - 2
    · subst hkn
      simp only [↓reduceIte, decide_eq_true_eq]
      exact ⟨evJ_b (hk (n - 2) (by omega)).1 (hk (n - 1) (by omega)).1, fun h12 => evJ_t h12⟩
    · simp only [hkn, ↓reduceIte]
      exact hk k (by omega)
theorem q_dn1 {a : Nat} (h : 1 ≤ a) : qi a + Int32.ofInt (-1) = qi (a - 1) := by
  rw [← q_sub h, Int32.sub_eq_add_neg]; rfl
theorem q_dn2 {a : Nat} (h : 2 ≤ a) : qi a + Int32.ofInt (-2) = qi (a - 2) := by
  rw [← q_sub h, Int32.sub_eq_add_neg]; rfl
theorem q_dn8 {a : Nat} (h : 8 ≤ a) : qi a + Int32.ofInt (-8) = qi (a - 8) := by
  rw [← q_sub h, Int32.sub_eq_add_neg]; rfl
theorem l_get {l : List Nat} {i : Nat} (h : i < l.length) : l.drop i = l.getD i 0 :: l.drop (i + 1) := by
  rw [List.drop_eq_getElem_cons h]
  show _ = (l[i]?).getD 0 :: _
  rw [List.getElem?_eq_getElem h]
  rfl
set_option maxHeartbeats 4000000 in
theorem c_reckon {N : Nat → Nat} {G : zG} {V : zI} {L : zL} {p1 p p4 : Nat} {x3 x5 x6 : Int32} {l : List Nat} {f : Nat → Int} {t1 : Nat → Bool} (h21 : N 21 = 128) (hg : G 20 0 = some 21) (hp : p ≠ 21) (hN : N p = l.length) (hl : l.length ≤ 1600) (hV : ∀ j, j < l.length → V p j = qi (cOf (l.getD j 0))) (hty : tyL l ty0 = some (1, t1)) (hfb : ∀ c, c < 5 → -1000000 ≤ f c ∧ f c ≤ 1000000) (hf : ∀ V' : zI, (∀ w, w ≠ 21 → V' w = V w) → ∀ c, c < 5 → f_X4_factOf N G p1 p4 (qi c) x5 x6 V' L = some (qz (f c))) : zW (f_X4_reckon_s N G 20 p1 p p4 x3 x5 x6 V L) (fun r => r.1 = qz ((evL f l ev0).2 0) ∧ r.2.2 = L ∧ ∀ w, w ≠ 21 → r.2.1 w = V w) := by
  unfold f_X4_reckon_s g_X4_reckon_s
  rw [hg, o_bind]
  refine zW_lp (I := fun r st => ∃ (i n : Nat) (t : Nat → Bool) (s : Nat → Int) (V' : zI), i ≤ l.length ∧ r = l.length - i ∧ st = (x3, x5, x6, qi n, qi i, V', L) ∧ (∀ w, w ≠ 21 → V' w = V w) ∧ (∀ k, k < n → V' 21 k = qz (s k)) ∧ evI n t s ∧ tyL (l.drop i) (n, t) = some (1, t1) ∧ (evL f (l.drop i) (n, s)).2 0 = (evL f l ev0).2 0) ?_ FU l.length _ ⟨0, 0, fun _ => false, fun _ => 0, V, by omega, by omega, rfl, fun _ _ => rfl, fun k h => absurd h (by omega), ⟨by omega, fun k h => absurd h (by omega)⟩, hty, rfl⟩ (FU_big (by omega))
  rintro k r st ⟨i, n, t, s, V', hi, rfl, rfl, hw, hs, hI, ht, he⟩ ih
  have hVp : V' p = V p := hw p hp
  by_cases hend : i = l.length
  · subst hend
    rw [List.drop_length] at ht he
    cases ht
    simp (disch := omega) only [b_X4_reckon_s_12, hN, h21, ↓reduceIte, o_bind, and_true, true_and, and_false, false_and, or_true, true_or, or_false, false_or, not_true, not_false_eq_true, not_false_iff, ne_eq, Nat.reduceAdd, Nat.reduceMul, Nat.reduceSub, Nat.reduceDiv, Nat.reduceMod, Nat.reduceLT, Nat.reduceLeDiff, Nat.reduceEqDiff, Nat.not_lt, Nat.not_le, q_lit, ↓q_m1, q_om, q_on, q_add, q_mul, q_sub, q_div, q_md, q_ltT, q_ltF, q_leT, q_leF, q_eqT, q_eqF, q_inT, q_inF, q_nn, q_mlt, q_ltm, q_mle, q_lem, q_nem, q_mne, z_same, z_neP, z_neK, zL_same, zL_neP, zL_neK, zr_same, zr_ne]
    rw [hs 0 (by omega)]
    exact zW_some ⟨by rw [← he]; rfl, rfl, hw⟩
  · have hil : i < l.length := by omega
    rw [l_get hil] at ht he
    have hVi := hV i hil
    generalize l.getD i 0 = c at ht he hVi
    obtain ⟨y, hy, hr⟩ : ∃ y, tyS c (n, t) = some y ∧ tyL (l.drop (i + 1)) y = some (1, t1) := by
      have ht' : (tyS c (n, t)).bind (tyL (l.drop (i + 1))) = some (1, t1) := ht
      cases hc : tyS c (n, t) with
      | none => rw [hc] at ht'; cases ht'
      | some y => rw [hc] at ht'; exact ⟨y, rfl, ht'⟩
    obtain ⟨hI', he1⟩ := ev_step hy hfb hI
    have hn120 : n ≤ 120 := hI.1
    have fin : ∀ (n' : Nat) (V'' : zI), n' = (evS f c (n, s)).1 → (∀ w, w ≠ 21 → V'' w = V w) → (∀ k, k < n' → V'' 21 k = qz ((evS f c (n, s)).2 k)) → zW (k (x3, x5, x6, qi n', qi (i + 1), V'', L)) (fun r => r.1 = qz ((evL f l ev0).2 0) ∧ r.2.2 = L ∧ ∀ w, w ≠ 21 → r.2.1 w = V w) := by
      intro n' V'' hn' hw' hs'
      refine ih (l.length - (i + 1)) _ (by omega) ⟨i + 1, n', y.2, (evS f c (n, s)).2, V'', by omega, rfl, rfl, hw', hs', ?_, ?_, ?_⟩
      · rw [hn', he1]; exact hI'
      · rw [hn', he1]; exact hr
      · rw [hn']; exact he
    rcases ty_inv hy with ⟨h1, h2, rfl⟩ | ⟨rfl, h2, h3, rfl⟩ | ⟨rfl, h2, h3, h4, h5, rfl⟩ | ⟨h1, h2, h3, h4, rfl⟩
    · by_cases hc5 : c < 5
      · have hco : cOf c = c := by unfold cOf; rw [if_neg (by omega)]
        rw [hco] at hVi
        simp (disch := omega) only [b_X4_reckon_s_12, f_X4_reckon_s_38, hN, h21, hVp, hVi, hf V' hw, ↓reduceIte, o_bind, and_true, true_and, and_false, false_and, or_true, true_or, or_false, false_or, not_true, not_false_eq_true, not_false_iff, ne_eq, Nat.reduceAdd, Nat.reduceMul, Nat.reduceSub, Nat.reduceDiv, Nat.reduceMod, Nat.reduceLT, Nat.reduceLeDiff, Nat.reduceEqDiff, Nat.not_lt, Nat.not_le, q_lit, ↓q_m1, q_om, q_on, q_add, q_mul, q_sub, q_div, q_md, q_ltT, q_ltF, q_leT, q_leF, q_eqT, q_eqF, q_inT, q_inF, q_nn, q_mlt, q_ltm, q_mle, q_lem, q_nem, q_mne, z_same, z_neP, z_neK, zL_same, zL_neP, zL_neK, zr_same, zr_ne]
        refine fin (n + 1) _ ?_ (fun w hw' => by rw [z_neP hw']; exact hw w hw') (fun k hk => ?_)
        · simp only [evS, hc5, true_or, ↓reduceIte]
        · simp only [evS, hc5, true_or, ↓reduceIte, z_if]
          split
          · rfl
          · exact hs k (by omega)
      · have hc2 : 100 ≤ cOf c ∧ cOf c < 10100 ∧ qi (cOf c - 100) = qz (if c = 50 then 1 else ((c - 100 : Nat) : Int)) := by
          unfold cOf
          by_cases h50 : c = 50
          · simp only [h50, ↓reduceIte]; exact ⟨by omega, by omega, rfl⟩
          · simp only [h50, ↓reduceIte]; exact ⟨by omega, by omega, qi_z _⟩
        obtain ⟨g1, g2, g3⟩ := hc2
        simp (disch := omega) only [b_X4_reckon_s_12, f_X4_reckon_s_38, hN, h21, hVp, hVi, ↓reduceIte, o_bind, and_true, true_and, and_false, false_and, or_true, true_or, or_false, false_or, not_true, not_false_eq_true, not_false_iff, ne_eq, Nat.reduceAdd, Nat.reduceMul, Nat.reduceSub, Nat.reduceDiv, Nat.reduceMod, Nat.reduceLT, Nat.reduceLeDiff, Nat.reduceEqDiff, Nat.not_lt, Nat.not_le, q_lit, ↓q_m1, q_om, q_on, q_add, q_mul, q_sub, q_div, q_md, q_ltT, q_ltF, q_leT, q_leF, q_eqT, q_eqF, q_inT, q_inF, q_nn, q_mlt, q_ltm, q_mle, q_lem, q_nem, q_mne, z_same, z_neP, z_neK, zL_same, zL_neP, zL_neK, zr_same, zr_ne]
        refine fin (n + 1) _ ?_ (fun w hw' => by rw [z_neP hw']; exact hw w hw') (fun k hk => ?_)
        · simp only [evS, show c < 5 ∨ 100 ≤ c ∨ c = 50 by omega, ↓reduceIte]
        · simp only [evS, show c < 5 ∨ 100 ≤ c ∨ c = 50 by omega, ↓reduceIte]
          simp only [hc5, ↓reduceIte, z_if]
          split
          · exact g3
          · exact hs k (by omega)
    · have hco : cOf 17 = 17 := rfl
      rw [hco] at hVi
      simp (disch := omega) only [b_X4_reckon_s_12, hN, h21, hVp, hVi, ↓reduceIte, o_bind, and_true, true_and, and_false, false_and, or_true, true_or, or_false, false_or, not_true, not_false_eq_true, not_false_iff, ne_eq, Nat.reduceAdd, Nat.reduceMul, Nat.reduceSub, Nat.reduceDiv, Nat.reduceMod, Nat.reduceLT, Nat.reduceLeDiff, Nat.reduceEqDiff, Nat.not_lt, Nat.not_le, q_lit, ↓q_m1, q_om, q_on, q_add, q_mul, q_sub, q_div, q_md, q_ltT, q_ltF, q_leT, q_leF, q_eqT, q_eqF, q_inT, q_inF, q_nn, q_mlt, q_ltm, q_mle, q_lem, q_nem, q_mne, z_same, z_neP, z_neK, zL_same, zL_neP, zL_neK, zr_same, zr_ne]
      refine fin n _ ?_ (fun w hw' => by rw [z_neP hw']; exact hw w hw') (fun k hk => ?_)
      · simp only [evS, show ¬ (17 < 5 ∨ 100 ≤ 17 ∨ 17 = 50) by omega, ↓reduceIte]
      · simp only [evS, show ¬ (17 < 5 ∨ 100 ≤ 17 ∨ 17 = 50) by omega, ↓reduceIte, z_if]
        split
        · rw [hs (n - 1) (by omega), qi_z, qz_sub]; rfl
        · exact hs k (by omega)
    · have hco : cOf 18 = 18 := rfl
      rw [hco] at hVi
      have b1 := (hI.2 (n - 3) (by omega)).1
      have e0 : (qz (s (n - 3)) = qi 0) ↔ s (n - 3) = 0 := by rw [qi_z, qz_eq] <;> omega
      have e3 : n - 2 - 1 = n - 3 := by omega
      have e4 : n - 2 + 1 = n - 1 := by omega
      simp (disch := omega) only [b_X4_reckon_s_12, hN, h21, hVp, hVi, q_dn2, ↓reduceIte, o_bind, and_true, true_and, and_false, false_and, or_true, true_or, or_false, false_or, not_true, not_false_eq_true, not_false_iff, ne_eq, Nat.reduceAdd, Nat.reduceMul, Nat.reduceSub, Nat.reduceDiv, Nat.reduceMod, Nat.reduceLT, Nat.reduceLeDiff, Nat.reduceEqDiff, Nat.not_lt, Nat.not_le, q_lit, ↓q_m1, q_om, q_on, q_add, q_mul, q_sub, q_div, q_md, q_ltT, q_ltF, q_leT, q_leF, q_eqT, q_eqF, q_inT, q_inF, q_nn, q_mlt, q_ltm, q_mle, q_lem, q_nem, q_mne, z_same, z_neP, z_neK, zL_same, zL_neP, zL_neK, zr_same, zr_ne, e3, e4, hs, e0]
      split
      · rename_i h0
        refine fin (n - 2) _ ?_ (fun w hw' => by rw [z_neP hw']; exact hw w hw') (fun k hk => ?_)
        · simp only [evS, show ¬ (18 < 5 ∨ 100 ≤ 18 ∨ 18 = 50) by omega, show ¬ (18 = 17) by omega, ↓reduceIte]
        · simp only [evS, show ¬ (18 < 5 ∨ 100 ≤ 18 ∨ 18 = 50) by omega, show ¬ (18 = 17) by omega, ↓reduceIte, z_if, h0]
          split
          · rfl
          · exact hs k (by omega)
      · rename_i h0
        refine fin (n - 2) _ ?_ (fun w hw' => by rw [z_neP hw']; exact hw w hw') (fun k hk => ?_)
        · simp only [evS, show ¬ (18 < 5 ∨ 100 ≤ 18 ∨ 18 = 50) by omega, show ¬ (18 = 17) by omega, ↓reduceIte]
        · simp only [evS, show ¬ (18 < 5 ∨ 100 ≤ 18 ∨ 18 = 50) by omega, show ¬ (18 = 17) by omega, ↓reduceIte, z_if, h0]
          split
          · rfl
          · exact hs k (by omega)
    · have hco : cOf c = c := by unfold cOf; rw [if_neg (by omega)]
      rw [hco] at hVi
      have b1 := hI.2 (n - 2) (by omega)
      have b2 := hI.2 (n - 1) (by omega)
      have hj := c_joined h1 b1.1 b2.1 (fun h12 => ⟨b1.2 (by rw [h3]; simpa using h12), b2.2 (by rw [h4]; simpa using h12)⟩)
      have e3 : n - 1 - 1 = n - 2 := by omega
      simp (disch := omega) only [b_X4_reckon_s_12, hN, h21, hVp, hVi, q_dn1, ↓reduceIte, o_bind, and_true, true_and, and_false, false_and, or_true, true_or, or_false, false_or, not_true, not_false_eq_true, not_false_iff, ne_eq, Nat.reduceAdd, Nat.reduceMul, Nat.reduceSub, Nat.reduceDiv, Nat.reduceMod, Nat.reduceLT, Nat.reduceLeDiff, Nat.reduceEqDiff, Nat.not_lt, Nat.not_le, q_lit, ↓q_m1, q_om, q_on, q_add, q_mul, q_sub, q_div, q_md, q_ltT, q_ltF, q_leT, q_leF, q_eqT, q_eqF, q_inT, q_inF, q_nn, q_mlt, q_ltm, q_mle, q_lem, q_nem, q_mne, z_same, z_neP, z_neK, zL_same, zL_neP, zL_neK, zr_same, zr_ne, e3, hs, hj]
      refine fin (n - 1) _ ?_ (fun w hw' => by rw [z_neP hw']; exact hw w hw') (fun k hk => ?_)
      · simp only [evS, show ¬ (c < 5 ∨ 100 ≤ c ∨ c = 50) by omega, show ¬ (c = 17) by omega, show ¬ (c = 18) by omega, ↓reduceIte]
      · simp only [evS, show ¬ (c < 5 ∨ 100 ≤ c ∨ c = 50) by omega, show ¬ (c = 17) by omega, show ¬ (c = 18) by omega, ↓reduceIte, z_if]
        split
        · rfl
        · exact hs k (by omega)
end
