section
variable {w d : Nat → Nat} {y k f t i B o c : Nat}
/-! ways: the class holds 0, the reference 10^8, where none leads -/
def mO (w : Nat → Nat) (k : Nat) : Nat := if k / 6 = k % 6 then 0 else if w k = 0 then 100000000 else w k
def rdM (d : Nat → Nat) (y k : Nat) : Nat := if d (6 * (k / 6) + y) + d (6 * y + k % 6) < d k then d (6 * (k / 6) + y) + d (6 * y + k % 6) else d k
def rdW (w : Nat → Nat) (y k : Nat) : Nat := if k / 6 ≠ k % 6 ∧ 0 < w (6 * (k / 6) + y) ∧ 0 < w (6 * y + k % 6) ∧ (w k = 0 ∨ w (6 * (k / 6) + y) + w (6 * y + k % 6) < w k) then w (6 * (k / 6) + y) + w (6 * y + k % 6) else w k
def wI (w : Nat → Nat) (B : Nat) : Prop := ∀ k, k < 36 → w k ≤ B ∧ (k / 6 = k % 6 → w k = 0)
theorem ft_eq (hk : k < 36) : ∃ f t, f < 6 ∧ t < 6 ∧ k = 6 * f + t := ⟨k / 6, k % 6, by omega, by omega, by omega⟩
theorem mO_e (ht : t < 6) : mO w (6 * f + t) = if f = t then 0 else if w (6 * f + t) = 0 then 100000000 else w (6 * f + t) := by
  unfold mO
  rw [(pr_of ht).1, (pr_of ht).2]
theorem rdM_e (ht : t < 6) : rdM d y (6 * f + t) = if d (6 * f + y) + d (6 * y + t) < d (6 * f + t) then d (6 * f + y) + d (6 * y + t) else d (6 * f + t) := by
  unfold rdM
  rw [(pr_of ht).1, (pr_of ht).2]
theorem rdW_e (ht : t < 6) : rdW w y (6 * f + t) = if f ≠ t ∧ 0 < w (6 * f + y) ∧ 0 < w (6 * y + t) ∧ (w (6 * f + t) = 0 ∨ w (6 * f + y) + w (6 * y + t) < w (6 * f + t)) then w (6 * f + y) + w (6 * y + t) else w (6 * f + t) := by
  unfold rdW
  rw [(pr_of ht).1, (pr_of ht).2]
theorem wI_d (h : wI w B) (hf : f < 6) : w (6 * f + f) = 0 := (h (6 * f + f) (by omega)).2 (by omega)
theorem rd_eq (h : wI w B) (hB : B ≤ 10000) (hy : y < 6) (hk : k < 36) : mO (rdW w y) k = rdM (mO w) y k := by
  obtain ⟨f, t, hf, ht, rfl⟩ := ft_eq hk
  have b1 := (h (6 * f + y) (by omega)).1
  have b2 := (h (6 * y + t) (by omega)).1
  have b3 := (h (6 * f + t) (by omega)).1
  have df := wI_d h hf
  have dy := wI_d h hy
  have dt := wI_d h ht
  rw [mO_e ht, rdM_e ht, mO_e hy, mO_e ht, mO_e ht, rdW_e ht]
  by_cases h1 : f = y
  · subst h1
    simp only [df, Nat.lt_irrefl, false_and, and_false, ↓reduceIte, Nat.zero_add]
  · by_cases h2 : y = t
    · subst h2
      simp only [dy, Nat.lt_irrefl, false_and, and_false, ↓reduceIte, Nat.add_zero]
    · rw [if_neg h1, if_neg h2]
      generalize w (6 * f + y) = a at *
      generalize w (6 * y + t) = b at *
      generalize w (6 * f + t) = e at *
      by_cases h3 : f = t
      · simp [h3]
      · by_cases g1 : a = 0
        · subst g1
          by_cases g3 : e = 0
          · subst g3
            simp [h3]
            intro hx
            omega
          · have : ¬ (100000000 + (if b = 0 then 100000000 else b) < e) := by omega
            simp [h3, g3, this]
        · by_cases g2 : b = 0
          · subst g2
            by_cases g3 : e = 0
            · subst g3
              simp [h3]
              intro hx
              omega
            · have : ¬ (a + 100000000 < e) := by omega
              simp [h3, g1, g3, this]
          · by_cases g3 : e = 0
            · subst g3
              have e1 : a + b < 100000000 := by omega
              have e2 : 0 < a ∧ 0 < b := by omega
              have e3 : ¬ (a + b = 0) := by omega
              simp [h3, g1, g2, e1, e2]
            · have e2 : 0 < a ∧ 0 < b := by omega
              by_cases e1 : a + b < e
              · simp [h3, g1, g2, g3, e1, e2]
              · simp [h3, g1, g2, g3, e1, e2]
theorem rdW_I (h : wI w B) (hy : y < 6) : wI (rdW w y) (2 * B) := by
  intro k hk
  obtain ⟨f, t, hf, ht, rfl⟩ := ft_eq hk
  have b1 := (h (6 * f + y) (by omega)).1
  have b2 := (h (6 * y + t) (by omega)).1
  have b3 := h (6 * f + t) hk
  rw [rdW_e ht]
  constructor
  · split <;> omega
  · intro e
    rw [(pr_of ht).1, (pr_of ht).2] at e
    rw [if_neg (fun h => h.1 e)]
    exact b3.2 (by rw [(pr_of ht).1, (pr_of ht).2]; exact e)
def itW (w : Nat → Nat) : Nat → Nat → Nat
  | 0 => w
  | i + 1 => rdW (itW w i) i
def itM (d : Nat → Nat) : Nat → Nat → Nat
  | 0 => d
  | i + 1 => rdM (itM d i) i
theorem itW_I (h : wI w 9) : ∀ i, i ≤ 6 → wI (itW w i) (9 * 2 ^ i) := by
  intro i
  induction i with
  | zero => intro _; exact h
  | succ i ih =>
    intro hi
    have := rdW_I (y := i) (ih (by omega)) (by omega)
    rw [Nat.pow_succ, Nat.mul_comm (2 ^ i) 2, ← Nat.mul_assoc, Nat.mul_comm 9 2, Nat.mul_assoc]
    exact this
theorem p2i (hi : i ≤ 6) : 9 * 2 ^ i ≤ 576 := by
  have : 2 ^ i ≤ 2 ^ 6 := Nat.pow_le_pow_right (by decide) hi
  omega
theorem rdM_cg {d' : Nat → Nat} (h : ∀ k, k < 36 → d k = d' k) (hy : y < 6) (hk : k < 36) : rdM d y k = rdM d' y k := by
  unfold rdM
  rw [h k hk, h (6 * (k / 6) + y) (by omega), h (6 * y + k % 6) (by omega)]
theorem it_eq (h : wI w 9) : ∀ i, i ≤ 6 → ∀ k, k < 36 → mO (itW w i) k = itM (mO w) i k := by
  intro i
  induction i with
  | zero => intro _ k _; rfl
  | succ i ih =>
    intro hi k hk
    have hb := p2i (i := i) (by omega)
    show mO (rdW (itW w i) i) k = rdM (itM (mO w) i) i k
    rw [rd_eq (itW_I h i (by omega)) (by omega) (by omega) hk]
    exact rdM_cg (ih (by omega)) (by omega) hk
/-! Floyd's rows keep the triangle -/
def tri (d : Nat → Nat) (i : Nat) : Prop := (∀ f, f < 6 → d (6 * f + f) = 0) ∧ ∀ x, x < i → ∀ f t, f < 6 → t < 6 → d (6 * f + t) ≤ d (6 * f + x) + d (6 * x + t)
theorem tri_st (h : tri d i) (hi : i < 6) : tri (rdM d i) (i + 1) := by
  obtain ⟨h0, h1⟩ := h
  refine ⟨fun f hf => ?_, fun x hx f t hf ht => ?_⟩
  · have := h0 f hf
    rw [rdM_e hf]
    split <;> omega
  · have hx6 : x < 6 := by omega
    have d0 := h0 i hi
    rw [rdM_e ht, rdM_e hx6, rdM_e ht]
    by_cases hxi : x = i
    · subst hxi
      repeat' split
      all_goals omega
    · have a1 := h1 x (by omega) f t hf ht
      have a2 := h1 x (by omega) i t hi ht
      have a3 := h1 x (by omega) f i hf hi
      repeat' split
      all_goals omega
theorem tri_it (h0 : ∀ f, f < 6 → d (6 * f + f) = 0) : ∀ i, i ≤ 6 → tri (itM d i) i := by
  intro i
  induction i with
  | zero => intro _; exact ⟨h0, fun x hx => absurd hx (by omega)⟩
  | succ i ih => intro hi; exact tri_st (ih (by omega)) (by omega)
theorem itM_le : ∀ i k, itM d i k ≤ d k := by
  intro i
  induction i with
  | zero => intro k; exact Nat.le_refl _
  | succ i ih =>
    intro k
    have := ih k
    show rdM (itM d i) i k ≤ d k
    unfold rdM
    split <;> omega
/-! walks along carts, and no walk need be long -/
theorem wk_app : ∀ j v k u, u < 6 → wk o u j v → wk o c k u → wk o c (j + k) v := by
  intro j
  induction j with
  | zero =>
    intro v k u _ h g
    have h : v = u := h
    rw [h, Nat.zero_add]
    exact g
  | succ j ih =>
    intro v k u hu h g
    obtain ⟨x, x1, x2, x3⟩ := h
    rw [Nat.add_right_comm]
    exact ⟨x, x1, x2, ih x k u hu x3 g⟩
def bkS (o s : Nat) : Nat := opN (fun v => s.testBit v || (List.range 6).any (fun x => o.testBit (6 * v + x) && s.testBit x)) 6
theorem bk_tb {s v : Nat} (hv : v < 6) : (bkS o s).testBit v = true ↔ (s.testBit v = true ∨ ∃ x, x < 6 ∧ o.testBit (6 * v + x) = true ∧ s.testBit x = true) := by
  unfold bkS
  rw [opN_tb 6 v hv, Bool.or_eq_true, List.any_eq_true]
  constructor
  · rintro (h | ⟨x, h1, h2⟩)
    · exact Or.inl h
    · rw [Bool.and_eq_true] at h2
      exact Or.inr ⟨x, List.mem_range.mp h1, h2.1, h2.2⟩
  · rintro (h | ⟨x, h1, h2, h3⟩)
    · exact Or.inl h
    · exact Or.inr ⟨x, List.mem_range.mpr h1, by rw [h2, h3]; rfl⟩
theorem bk_ok : ∀ s, s < 64 → bkS o s < 64 ∧ s ||| bkS o s = bkS o s := by
  intro s hs
  refine ⟨opN_b 6, ?_⟩
  apply Nat.eq_of_testBit_eq
  intro v
  rw [Nat.testBit_or]
  by_cases hv : v < 6
  · cases h : s.testBit v with
    | false => exact Bool.false_or _
    | true =>
      rw [(bk_tb hv).mpr (Or.inl h)]
      rfl
  · have : s.testBit v = false := Nat.testBit_lt_two_pow (Nat.lt_of_lt_of_le hs (Nat.pow_le_pow_right (n := 2) (by decide) (show 6 ≤ v by omega)))
    rw [this, Bool.false_or]
theorem bk_in (hc : c < 6) : ∀ k v, v < 6 → wk o c k v → (itf (bkS o) k (2 ^ c)).testBit v = true := by
  intro k
  induction k with
  | zero =>
    intro v _ h
    have h : v = c := h
    rw [h]
    show (2 ^ c).testBit c = true
    rw [Nat.testBit_two_pow]
    exact decide_eq_true rfl
  | succ k ih =>
    intro v hv h
    obtain ⟨x, x1, x2, x3⟩ := h
    exact (bk_tb hv).mpr (Or.inr ⟨x, x1, x2, ih x x1 x3⟩)
theorem bk_out : ∀ k v, v < 6 → (itf (bkS o) k (2 ^ c)).testBit v = true → ∃ j, j ≤ k ∧ wk o c j v := by
  intro k
  induction k with
  | zero =>
    intro v _ h
    have h : (2 ^ c).testBit v = true := h
    rw [Nat.testBit_two_pow] at h
    exact ⟨0, by omega, (of_decide_eq_true h).symm⟩
  | succ k ih =>
    intro v hv h
    rcases (bk_tb hv).mp h with h | ⟨x, x1, x2, x3⟩
    · obtain ⟨j, j1, j2⟩ := ih v hv h
      exact ⟨j, by omega, j2⟩
    · obtain ⟨j, j1, j2⟩ := ih x x1 x3
      exact ⟨j + 1, by omega, x, x1, x2, j2⟩
theorem wk_short {v : Nat} (hc : c < 6) (hv : v < 6) (h : wk o c k v) : ∃ j, j ≤ 5 ∧ wk o c j v := by
  have hfix := it_fix (f := bkS o) bk_ok (p2_64 hc) (by rw [pc_1 c hc]; omega)
  have hin := bk_in hc k v hv h
  by_cases hk : k ≤ 5
  · exact ⟨k, hk, h⟩
  · have := it_cst hfix (k - 5)
    rw [show 5 + (k - 5) = k by omega] at this
    rw [this] at hin
    exact bk_out 5 v hv hin
theorem dist_up (h : tri d 6) (he : ∀ f t, f < 6 → t < 6 → o.testBit (6 * f + t) = true → d (6 * f + t) ≤ 9) (hc : c < 6) : ∀ k v, v < 6 → wk o c k v → d (6 * v + c) ≤ 9 * k := by
  intro k
  induction k with
  | zero =>
    intro v hv g
    have g : v = c := g
    rw [g, h.1 c hc]
    omega
  | succ k ih =>
    intro v hv g
    obtain ⟨x, x1, x2, x3⟩ := g
    have a1 := h.2 x x1 v c hv hc
    have a2 := he v x hv x1 x2
    have a3 := ih x x1 x3
    omega
theorem dist_wk (hd : ∀ f t, f < 6 → t < 6 → d (6 * f + t) < 100000000 → ∃ k, wk o t k f) : ∀ i, i ≤ 6 → ∀ f t, f < 6 → t < 6 → itM d i (6 * f + t) < 100000000 → ∃ k, wk o t k f := by
  intro i
  induction i with
  | zero => intro _; exact hd
  | succ i ih =>
    intro hi f t hf ht hlt
    have hlt : rdM (itM d i) i (6 * f + t) < 100000000 := hlt
    rw [rdM_e ht] at hlt
    by_cases hc : itM d i (6 * f + i) + itM d i (6 * i + t) < itM d i (6 * f + t)
    · rw [if_pos hc] at hlt
      obtain ⟨k1, g1⟩ := ih (by omega) f i hf (by omega) (by omega)
      obtain ⟨k2, g2⟩ := ih (by omega) i t (by omega) ht (by omega)
      exact ⟨k1 + k2, wk_app k1 f k2 i (by omega) g1 g2⟩
    · rw [if_neg hc] at hlt
      exact ih (by omega) f t hf ht hlt
theorem itW_45 (h : wI w 9) (hk : k < 36) : itW w 6 k ≤ 45 := by
  obtain ⟨f, t, hf, ht, rfl⟩ := ft_eq hk
  by_cases h0 : itW w 6 (6 * f + t) = 0
  · omega
  have hft : f ≠ t := by
    intro e
    subst e
    exact h0 (wI_d (itW_I h 6 (by omega)) hf)
  have hb := (itW_I h 6 (by omega) (6 * f + t) hk).1
  have hb2 := p2i (i := 6) (by omega)
  have e := it_eq h 6 (by omega) (6 * f + t) hk
  rw [mO_e ht, if_neg hft, if_neg h0] at e
  have hd0 : ∀ f, f < 6 → mO w (6 * f + f) = 0 := fun f hf => by rw [mO_e hf, if_pos rfl]
  have htb : ∀ p, p < 36 → (opN (fun p => decide (0 < w p)) 36).testBit p = decide (0 < w p) := fun p hp => opN_tb 36 p hp
  obtain ⟨k1, g1⟩ := dist_wk (o := opN (fun p => decide (0 < w p)) 36) (d := mO w) (fun f t hf ht hlt => by
    rw [mO_e ht] at hlt
    by_cases e : f = t
    · exact ⟨0, e⟩
    · rw [if_neg e] at hlt
      by_cases e2 : w (6 * f + t) = 0
      · rw [if_pos e2] at hlt; omega
      · exact ⟨1, t, ht, by rw [htb _ (by omega)]; exact decide_eq_true (by omega), rfl⟩) 6 (by omega) f t hf ht (by omega)
  obtain ⟨j, j1, j2⟩ := wk_short ht hf g1
  have := dist_up (d := itM (mO w) 6) (tri_it hd0 6 (by omega)) (fun f t hf ht hb => by
    rw [htb _ (by omega)] at hb
    have hw := of_decide_eq_true hb
    have hle := itM_le (d := mO w) 6 (6 * f + t)
    have h9 := (h (6 * f + t) (by omega)).1
    rw [mO_e ht] at hle
    by_cases e : f = t
    · rw [if_pos e] at hle; omega
    · rw [if_neg e, if_neg (by omega)] at hle; omega) ht j f hf j2
  omega
theorem itW_p {P : Nat → Prop} (h : ∀ k, k < 36 → 0 < w k → P (k / 6) ∧ P (k % 6)) : ∀ i, i ≤ 6 → ∀ k, k < 36 → 0 < itW w i k → P (k / 6) ∧ P (k % 6) := by
  intro i
  induction i with
  | zero => intro _; exact h
  | succ i ih =>
    intro hi k hk hlt
    obtain ⟨f, t, hf, ht, rfl⟩ := ft_eq hk
    have hlt : 0 < rdW (itW w i) i (6 * f + t) := hlt
    rw [rdW_e ht] at hlt
    by_cases hc : f ≠ t ∧ 0 < itW w i (6 * f + i) ∧ 0 < itW w i (6 * i + t) ∧ (itW w i (6 * f + t) = 0 ∨ itW w i (6 * f + i) + itW w i (6 * i + t) < itW w i (6 * f + t))
    · have g1 := ih (by omega) (6 * f + i) (by omega) hc.2.1
      have g2 := ih (by omega) (6 * i + t) (by omega) hc.2.2.1
      rw [(pr_of (a := f) (b := i) (by omega)).1] at g1
      rw [(pr_of (a := i) ht).2] at g2
      rw [(pr_of ht).1, (pr_of ht).2]
      exact ⟨g1.1, g2.2⟩
    · rw [if_neg hc] at hlt
      exact ih (by omega) (6 * f + t) hk hlt
end
