section
variable {t : Nat → Nat} {tl i m s e κ : Nat} {V R : zI} {L M : zL}
/-! the tokens of a tape -/
def kdO (o : Nat) : Nat := if isL o then 3 else if isD o then 2 else if isB o then 0 else 1
theorem kdO_3 {o : Nat} : kdO o = 3 ↔ isL o := by
  unfold kdO
  by_cases h : isL o
  · rw [if_pos h]; exact ⟨fun _ => h, fun _ => rfl⟩
  · rw [if_neg h]
    refine ⟨fun e => ?_, fun e => absurd e h⟩
    by_cases h2 : isD o
    · rw [if_pos h2] at e; omega
    · rw [if_neg h2] at e
      by_cases h3 : isB o
      · rw [if_pos h3] at e; omega
      · rw [if_neg h3] at e; omega
theorem kdO_2 {o : Nat} : kdO o = 2 ↔ isD o := by
  unfold kdO
  by_cases h : isL o
  · rw [if_pos h]
    refine ⟨fun e => by omega, fun e => ?_⟩
    have := h.1
    have := e.2
    omega
  · rw [if_neg h]
    by_cases h2 : isD o
    · rw [if_pos h2]; exact ⟨fun _ => h2, fun _ => rfl⟩
    · rw [if_neg h2]
      refine ⟨fun e => ?_, fun e => absurd e h2⟩
      by_cases h3 : isB o
      · rw [if_pos h3] at e; omega
      · rw [if_neg h3] at e; omega
theorem kdO_0 {o : Nat} : kdO o = 0 ↔ isB o := by
  unfold kdO
  by_cases h : isL o
  · rw [if_pos h]
    refine ⟨fun e => by omega, fun e => ?_⟩
    have := h.1
    rcases e with e | e <;> omega
  · rw [if_neg h]
    by_cases h2 : isD o
    · rw [if_pos h2]
      refine ⟨fun e => by omega, fun e => ?_⟩
      have := h2.1
      rcases e with e | e <;> omega
    · rw [if_neg h2]
      by_cases h3 : isB o
      · rw [if_pos h3]; exact ⟨fun _ => h3, fun _ => rfl⟩
      · rw [if_neg h3]; exact ⟨fun e => by omega, fun e => absurd e h3⟩
theorem kdO_le {o : Nat} : kdO o ≤ 3 := by
  unfold kdO
  split
  · omega
  · split
    · omega
    · split
      · omega
      · omega
def rnF (t : Nat → Nat) (κ : Nat) : Nat → Nat → Nat
  | 0, i => i
  | f + 1, i => if kdO (t i) = κ then rnF t κ f (i + 1) else i
def rnP (t : Nat → Nat) (tl κ i : Nat) : Nat := rnF t κ (tl - i) i
theorem rn_u : ∀ (m i : Nat), i + m ≤ tl → (∀ k, k < m → kdO (t (i + k)) = κ) → (i + m = tl ∨ kdO (t (i + m)) ≠ κ) → rnP t tl κ i = i + m := by
  intro m
  induction m with
  | zero =>
    intro i h1 h2 h3
    unfold rnP
    rcases h3 with h3 | h3
    · rw [show tl - i = 0 by omega]; rfl
    · by_cases e : i = tl
      · rw [show tl - i = 0 by omega]; rfl
      · rw [show tl - i = (tl - (i + 1)) + 1 by omega]
        show (if kdO (t i) = κ then _ else i) = _
        rw [if_neg (show ¬ kdO (t i) = κ from h3)]; rfl
  | succ m ih =>
    intro i h1 h2 h3
    have h0 : kdO (t i) = κ := h2 0 (by omega)
    have hh := ih (i + 1) (by omega) (fun k hk => by rw [show i + 1 + k = i + (k + 1) by omega]; exact h2 (k + 1) (by omega)) (by rw [show i + 1 + m = i + (m + 1) by omega]; exact h3)
    unfold rnP at hh ⊢
    rw [show tl - i = (tl - (i + 1)) + 1 by omega]
    show (if kdO (t i) = κ then rnF t κ (tl - (i + 1)) (i + 1) else i) = _
    rw [if_pos h0, hh]
    omega
theorem rn_ex : ∀ (f i : Nat), i + f = tl → ∃ m, m ≤ f ∧ (∀ k, k < m → kdO (t (i + k)) = κ) ∧ (i + m = tl ∨ kdO (t (i + m)) ≠ κ) := by
  intro f
  induction f with
  | zero => intro i h; exact ⟨0, by omega, fun k hk => by omega, Or.inl h⟩
  | succ f ih =>
    intro i h
    by_cases e : kdO (t i) = κ
    · obtain ⟨m, h1, h2, h3⟩ := ih (i + 1) (by omega)
      refine ⟨m + 1, by omega, fun k hk => ?_, ?_⟩
      · by_cases e0 : k = 0
        · rw [e0]; exact e
        · rw [show i + k = i + 1 + (k - 1) by omega]; exact h2 (k - 1) (by omega)
      · rw [show i + (m + 1) = i + 1 + m by omega]; exact h3
    · exact ⟨0, by omega, fun k hk => by omega, Or.inr e⟩
/-- a run of one kind -/
def eT (t : Nat → Nat) (tl s : Nat) : Nat := if tl ≤ s then tl else if kdO (t s) = 1 then s + 1 else rnP t tl (kdO (t s)) s
def ltr (t : Nat → Nat) (s : Nat) : Nat → List Nat
  | 0 => []
  | m + 1 => ltr t s m ++ [t (s + m) - 96]
theorem ltr_len : ∀ m, (ltr t s m).length = m := by
  intro m
  induction m with
  | zero => rfl
  | succ m ih => show (ltr t s m ++ [_]).length = m + 1; rw [List.length_append, ih]; rfl
theorem ltr_mem : ∀ m, (∀ k, k < m → isL (t (s + k))) → ∀ a ∈ ltr t s m, 1 ≤ a ∧ a ≤ 26 := by
  intro m
  induction m with
  | zero => intro _ a ha; exact absurd ha List.not_mem_nil
  | succ m ih =>
    intro h a ha
    rcases List.mem_append.mp ha with ha | ha
    · exact ih (fun k hk => h k (by omega)) a ha
    · rw [List.mem_singleton.mp ha]
      have h3 := h m (by omega)
      have h4 := h3.1
      have h5 := h3.2
      omega
theorem ltr_R : ∀ m, (∀ k, k < m → isL (t (s + k))) → nmR (ltr t s m) = wdV t s m := by
  intro m
  induction m with
  | zero => intro _; rfl
  | succ m ih =>
    intro h
    show nmR (ltr t s m ++ [t (s + m) - 96]) = wdV t s m * 256 + t (s + m)
    rw [nmR_app, ih (fun k hk => h k (by omega))]
    have := (h m (by omega)).1
    omega
def ixF : List Nat → Nat → Nat
  | [], _ => 0
  | a :: l, v => if a = v then 0 else ixF l v + 1
theorem ixF_le : ∀ (l : List Nat) (v : Nat), ixF l v ≤ l.length := by
  intro l
  induction l with
  | nil => intro v; exact Nat.le_refl _
  | cons a l ih =>
    intro v
    show (if a = v then 0 else ixF l v + 1) ≤ l.length + 1
    by_cases e : a = v
    · rw [if_pos e]; omega
    · rw [if_neg e]; have := ih v; omega
theorem ixF_lt : ∀ (l : List Nat) (v : Nat), ixF l v < l.length → l.getD (ixF l v) 0 = v := by
  intro l
  induction l with
  | nil => intro v h; exact absurd h (Nat.not_lt_zero _)
  | cons a l ih =>
    intro v h
    have h : (if a = v then 0 else ixF l v + 1) < l.length + 1 := h
    show (a :: l).getD (if a = v then 0 else ixF l v + 1) 0 = v
    by_cases e : a = v
    · rw [if_pos e]; exact e
    · rw [if_neg e] at h ⊢
      exact ih v (by omega)
theorem ixF_ge : ∀ (l : List Nat) (v : Nat), l.length ≤ ixF l v → ∀ i, i < l.length → l.getD i 0 ≠ v := by
  intro l
  induction l with
  | nil => intro v _ i hi; exact absurd hi (Nat.not_lt_zero _)
  | cons a l ih =>
    intro v h i hi
    have h : l.length + 1 ≤ (if a = v then 0 else ixF l v + 1) := h
    by_cases e : a = v
    · rw [if_pos e] at h; omega
    · rw [if_neg e] at h
      cases i with
      | zero => exact e
      | succ i => exact ih v (by omega) i (by have : i + 1 < l.length + 1 := hi; omega)
abbrev glu (t : Nat → Nat) (s : Nat) : Prop := 0 < s ∧ (isL (t (s - 1)) ∨ isD (t (s - 1)))
def tkn (t : Nat → Nat) (tl s : Nat) : tkT :=
  if tl ≤ s then (0, 0, tl)
  else if kdO (t s) = 1 then (1, t s, s)
  else if glu t s then (5, s, s)
  else if kdO (t s) = 2 then (if 4 < eT t tl s - s then (5, s + 4, s) else (2, nmV t s (eT t tl s - s), s))
  else if 6 < eT t tl s - s then (5, s + 6, s)
  else if ixF owL (nmR (ltr t s (eT t tl s - s))) < 23 then (4, ixF owL (nmR (ltr t s (eT t tl s - s))), s)
  else (3, nmC (ltr t s (eT t tl s - s)), s)
end
