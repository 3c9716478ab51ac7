section
/-! Reading, side by side: a token as both hold it; the reference's state while it reads a rule. -/
theorem le00 : (qi 0 : Int32) ≤ 0 := (q_le (a := 0) (b := 0) (by omega) (by omega)).mpr (Nat.le_refl _)
def owL : List Nat := [1953462126, 1667330676, 29807, 1684109683, 448545973363, 28518, 131333279212915, 465625113971, 512970880104, 1701733228, 1819243380, 1751477348, 6709618, 6578553, 1936027252, 6778740, 26982, 28530, 6385252, 7237492, 6384748, 7170414, 7168376]
def ow (k : Nat) : Nat := owL.getD k 0
theorem ow_inj : ∀ i, i < 23 → ∀ j, j < 23 → ow i = ow j → i = j := by decide
theorem ow_b : ∀ i, i < 23 → ow i < 9223372036854775808 := by decide
abbrev tkT : Type := Nat × Nat × Nat
def nmK (l : List Nat) : Prop := (1 ≤ l.length ∧ l.length ≤ 6) ∧ ∀ a ∈ l, 1 ≤ a ∧ a ≤ 26
theorem nmR_b {l : List Nat} (h : nmK l) : nmR l < 281474976710656 := by
  have g : ∀ (l : List Nat) (w : Nat), (∀ a ∈ l, a ≤ 26) → l.foldl (fun w a => w * 256 + (a + 96)) w < (w + 1) * 256 ^ l.length := by
    intro l
    induction l with
    | nil => intro w _; show w < (w + 1) * 1; omega
    | cons a l ih =>
      intro w ha
      have h1 := ih (w * 256 + (a + 96)) (fun x hx => ha x (List.mem_cons_of_mem _ hx))
      have h2 := ha a List.mem_cons_self
      have h3 : (w * 256 + (a + 96) + 1) * 256 ^ l.length ≤ ((w + 1) * 256) * 256 ^ l.length := Nat.mul_le_mul_right _ (by omega)
      show (l.foldl (fun w a => w * 256 + (a + 96)) (w * 256 + (a + 96))) < (w + 1) * 256 ^ (l.length + 1)
      rw [Nat.pow_succ, Nat.mul_comm (256 ^ l.length) 256, ← Nat.mul_assoc]
      omega
  have h1 := g l 0 (fun a ha => (h.2 a ha).2)
  have h2 : 256 ^ l.length ≤ 256 ^ 6 := Nat.pow_le_pow_right (by decide) h.1.2
  have h3 : (256 : Nat) ^ 6 = 281474976710656 := rfl
  unfold nmR
  omega
def tkR (T : tkT) (R : zI) (M : zL) : Prop := R 0 4 = qi T.2.2 ∧ T.2.2 ≤ 1600 ∧ ((T.1 = 0 ∧ R 0 3 = qi 0 ∧ R 0 12 = qm) ∨ (T.1 = 1 ∧ R 0 3 = qi 3 ∧ R 0 12 = qm ∧ R 0 6 = qi T.2.1 ∧ T.2.1 < 256) ∨ (T.1 = 2 ∧ R 0 3 = qi 2 ∧ R 0 12 = qm ∧ R 0 6 = qi T.2.1 ∧ T.2.1 < 10000) ∨ (T.1 = 3 ∧ R 0 3 = qi 1 ∧ R 0 12 = qm ∧ ∃ l, nmK l ∧ T.2.1 = nmC l ∧ M 0 7 = qI (nmR l) ∧ ∀ i, i < 23 → nmR l ≠ ow i) ∨ (T.1 = 4 ∧ R 0 3 = qi 1 ∧ R 0 12 = qm ∧ T.2.1 < 23 ∧ M 0 7 = qI (ow T.2.1)) ∨ (T.1 = 5 ∧ R 0 12 = qi T.2.1 ∧ T.2.1 ≤ 1600 ∧ (R 0 3 = qi 1 ∨ R 0 3 = qi 2)))
abbrev tS (T : tkT) (s : Nat) : Prop := T.1 = 1 ∧ T.2.1 = s
abbrev tO (T : tkT) (i : Nat) : Prop := T.1 = 4 ∧ T.2.1 = i
variable {T : tkT} {R : zI} {M : zL}
theorem tk_sg (h : tkR T R M) (h5 : T.1 ≠ 5) {s : Nat} (hs : s < 256) : f_isSign (qi s) R M = some (qi (if tS T s then 1 else 0), R, M) := by
  obtain ⟨-, -, h⟩ := h
  unfold f_isSign
  rcases h with ⟨k, a, -⟩ | ⟨k, a, -, a6, hb⟩ | ⟨k, a, -⟩ | ⟨k, a, -⟩ | ⟨k, a, -⟩ | ⟨k, -⟩
  · rw [a, if_neg (by rw [q_lit, q_eq (by omega) (by omega)]; omega), if_neg (fun g => by have := g.1; omega)]; rfl
  · rw [a, if_pos (by rfl), a6]
    by_cases e : T.2.1 = s
    · rw [if_pos (by rw [e]), if_pos ⟨k, e⟩]; rfl
    · rw [if_neg (by rw [q_eq (by omega) (by omega)]; exact e), if_neg (fun g => e g.2)]; rfl
  · rw [a, if_neg (by rw [q_lit, q_eq (by omega) (by omega)]; omega), if_neg (fun g => by have := g.1; omega)]; rfl
  · rw [a, if_neg (by rw [q_lit, q_eq (by omega) (by omega)]; omega), if_neg (fun g => by have := g.1; omega)]; rfl
  · rw [a, if_neg (by rw [q_lit, q_eq (by omega) (by omega)]; omega), if_neg (fun g => by have := g.1; omega)]; rfl
  · exact absurd k h5
theorem tk_wd (h : tkR T R M) (h5 : T.1 ≠ 5) {i : Nat} (hi : i < 23) : f_isWord (qI (ow i)) R M = some (qi (if tO T i then 1 else 0), R, M) := by
  obtain ⟨-, -, h⟩ := h
  have hb := ow_b i hi
  unfold f_isWord
  rcases h with ⟨k, a, -⟩ | ⟨k, a, -⟩ | ⟨k, a, -⟩ | ⟨k, a, -, l, hl, -, a7, hn⟩ | ⟨k, a, -, hv, a7⟩ | ⟨k, -⟩
  · rw [a, if_neg (by rw [q_lit, q_eq (by omega) (by omega)]; omega), if_neg (fun g => by have := g.1; omega)]; rfl
  · rw [a, if_neg (by rw [q_lit, q_eq (by omega) (by omega)]; omega), if_neg (fun g => by have := g.1; omega)]; rfl
  · rw [a, if_neg (by rw [q_lit, q_eq (by omega) (by omega)]; omega), if_neg (fun g => by have := g.1; omega)]; rfl
  · have hl' := nmR_b hl
    rw [a, if_pos (by rfl), a7, if_neg (by rw [lg_cmp_eq, Q_eq (by omega) hb]; exact hn i hi), if_neg (fun g => by have := g.1; omega)]; rfl
  · have hb' := ow_b _ hv
    rw [a, if_pos (by rfl), a7]
    by_cases e : T.2.1 = i
    · rw [if_pos (by rw [lg_cmp_eq, e]), if_pos ⟨k, e⟩]; rfl
    · rw [if_neg (by rw [lg_cmp_eq, Q_eq hb' hb]; exact fun g => e (ow_inj _ hv _ hi g)), if_neg (fun g => e g.2)]; rfl
  · exact absurd k h5
theorem tk_lex0 (h : tkR T R M) (h5 : T.1 ≠ 5) : f_lex R M = some (R, M) := by
  obtain ⟨-, -, h⟩ := h
  have e : R 0 12 = qm := by
    rcases h with ⟨_, _, a⟩ | ⟨_, _, a, _⟩ | ⟨_, _, a, _⟩ | ⟨_, _, a, _⟩ | ⟨_, _, a, _⟩ | ⟨k, _⟩
    · exact a
    · exact a
    · exact a
    · exact a
    · exact a
    · exact absurd k h5
  unfold f_lex
  rw [e, if_pos (by rfl)]
theorem tk_lex5 (h : tkR T R M) (h5 : T.1 = 5) (h8 : R 0 8 = qi 0) : f_lex R M = some (z_uI (z_uI R 0 8 (qi 1)) 0 9 (qi T.2.1), M) := by
  obtain ⟨-, -, h⟩ := h
  have e : R 0 12 = qi T.2.1 ∧ T.2.1 ≤ 1600 := by
    rcases h with ⟨k, _⟩ | ⟨k, _⟩ | ⟨k, _⟩ | ⟨k, _⟩ | ⟨k, _⟩ | ⟨_, a, a', _⟩
    · omega
    · omega
    · omega
    · omega
    · omega
    · exact ⟨a, a'⟩
  unfold f_lex f_blame
  rw [e.1, if_neg (show ¬ qi T.2.1 = -1 from q_nem (by omega)), h8, if_pos le00]
  rfl
/-! the stacks -/
abbrev fmT : Type := Nat × Nat × Nat × Nat × Nat
def FS : List fmT → zI → Prop
  | [], _ => True
  | f :: l, R => (R 13 l.length = qi f.1 ∧ R 14 l.length = qi f.2.1 ∧ R 15 l.length = qi f.2.2.1 ∧ (f.2.2.2.1 ≠ 0 → R 16 l.length = qi f.2.2.2.1) ∧ R 17 l.length = qi f.2.2.2.2) ∧ FS l R
def OS : List Nat → zI → Prop
  | [], _ => True
  | a :: l, R => R 18 l.length = qi (rsOf a) ∧ OS l R
theorem FS_fr {R' : zI} : ∀ {l : List fmT}, FS l R → (∀ w j, 13 ≤ w → w ≤ 17 → j < l.length → R' w j = R w j) → FS l R' := by
  intro l
  induction l with
  | nil => intro _ _; trivial
  | cons f l ih =>
    intro h hv
    obtain ⟨⟨a1, a2, a3, a4, a5⟩, a6⟩ := h
    have hl : l.length < (f :: l).length := Nat.lt_succ_self _
    refine ⟨⟨?_, ?_, ?_, fun h => ?_, ?_⟩, ih a6 (fun w j h1 h2 h3 => hv w j h1 h2 (Nat.lt_succ_of_lt h3))⟩
    · rw [hv 13 _ (by omega) (by omega) hl]; exact a1
    · rw [hv 14 _ (by omega) (by omega) hl]; exact a2
    · rw [hv 15 _ (by omega) (by omega) hl]; exact a3
    · rw [hv 16 _ (by omega) (by omega) hl]; exact a4 h
    · rw [hv 17 _ (by omega) (by omega) hl]; exact a5
theorem OS_fr {R' : zI} : ∀ {l : List Nat}, OS l R → (∀ j, j < l.length → R' 18 j = R 18 j) → OS l R' := by
  intro l
  induction l with
  | nil => intro _ _; trivial
  | cons f l ih =>
    intro h hv
    exact ⟨by rw [hv _ (Nat.lt_succ_self _)]; exact h.1, ih h.2 (fun j h3 => hv j (Nat.lt_succ_of_lt h3))⟩
def RF (b fr : Nat) (R0 : zI) (M0 : zL) (R : zI) (M : zL) : Prop := (∀ j, j ≠ 3 → j ≠ 4 → j ≠ 5 → j ≠ 6 → j ≠ 8 → j ≠ 9 → j ≠ 12 → j ≠ 25 → j ≠ 33 → j ≠ 34 → j ≠ 36 → j ≠ 37 → R 0 j = R0 0 j) ∧ (∀ j, (j < 1600 * b + fr ∨ 1600 * b + 1600 ≤ j) → R 10 j = R0 10 j ∧ R 11 j = R0 11 j) ∧ (∀ w, w ≠ 0 → w ≠ 10 → w ≠ 11 → (w < 13 ∨ 18 < w) → R w = R0 w) ∧ (∀ j, j ≠ 7 → M 0 j = M0 0 j) ∧ ∀ w, w ≠ 0 → M w = M0 w
def CD (b fr : Nat) (C : List Nat) (R : zI) : Prop := ∀ j, j < C.length → R 10 (1600 * b + fr + j) = qi (rsOf (C.getD j 0)) ∧ (100 ≤ C.getD j 0 → R 11 (1600 * b + fr + j) = qi (C.getD j 0 - 100))
def RS (b fr : Nat) (R0 : zI) (M0 : zL) (ed : Nat → Nat) (tk : Nat → tkT) (k : Nat) (C O : List Nat) (o w : Nat) (F : List fmT) (R : zI) (M : zL) : Prop := RF b fr R0 M0 R M ∧ (R 0 5 = qi (ed k) ∧ tkR (tk k) R M) ∧ (R 0 8 = qi 0 ∧ R 0 9 = qm ∧ R 0 25 = qi (fr + C.length) ∧ R 0 33 = qi F.length ∧ R 0 34 = qi o ∧ R 0 36 = qi O.length ∧ R 0 37 = qi w) ∧ CD b fr C R ∧ OS O R ∧ FS F R
end
