section
variable {t : Nat → Nat} {tl i m s e κ c : Nat} {V R R' : zI} {L M M' : zL}
def bgT (t : Nat → Nat) (tl : Nat) : Nat → Nat
  | 0 => skP t tl 0
  | k + 1 => skP t tl (eT t tl (bgT t tl k))
def edP (t : Nat → Nat) (tl k : Nat) : Nat := eT t tl (bgT t tl k)
def tkP (t : Nat → Nat) (tl k : Nat) : tkT := tkn t tl (bgT t tl k)
theorem eT_ex (hs : s < tl) (h0 : kdO (t s) ≠ 0) : ∃ m, 0 < m ∧ s + m ≤ tl ∧ eT t tl s = s + m ∧ (∀ k, k < m → kdO (t (s + k)) = kdO (t s)) ∧ (kdO (t s) = 1 → m = 1) ∧ (kdO (t s) ≠ 1 → s + m = tl ∨ kdO (t (s + m)) ≠ kdO (t s)) := by
  by_cases h1 : kdO (t s) = 1
  · refine ⟨1, by omega, by omega, ?_, fun k hk => ?_, fun _ => rfl, fun h => absurd h1 h⟩
    · unfold eT; rw [if_neg (by omega), if_pos h1]
    · rw [show k = 0 by omega]; rfl
  · obtain ⟨m, m1, m2, m3⟩ := rn_ex (t := t) (tl := tl) (κ := kdO (t s)) (tl - s) s (by omega)
    refine ⟨m, ?_, by omega, eT_run hs h1 (by omega) m2 m3, m2, fun h => absurd h h1, fun _ => m3⟩
    rcases Nat.eq_zero_or_pos m with h | h
    · subst h
      rcases m3 with h | h
      · omega
      · exact absurd rfl h
    · exact h
theorem eT_le (s : Nat) : eT t tl s ≤ tl := by
  by_cases hs : s < tl
  · by_cases h0 : kdO (t s) = 0
    · unfold eT
      rw [if_neg (by omega), if_neg (by omega)]
      obtain ⟨m, m1, m2, m3⟩ := rn_ex (t := t) (tl := tl) (κ := kdO (t s)) (tl - s) s (by omega)
      rw [rn_u m s (by omega) m2 m3]
      omega
    · obtain ⟨m, -, h, e, -⟩ := eT_ex hs h0
      omega
  · unfold eT; rw [if_pos (by omega)]; omega
theorem sk_f (e : Nat) (he : e ≤ tl) : skP t tl e ≤ tl ∧ e ≤ skP t tl e ∧ (skP t tl e < tl → ¬ isB (t (skP t tl e))) ∧ ∀ j, e ≤ j → j < skP t tl e → isB (t j) := skP_le (tl - e) e (by omega)
theorem st_le (k : Nat) : bgT t tl k ≤ tl := by
  cases k with
  | zero => exact (sk_f 0 (Nat.zero_le _)).1
  | succ k => exact (sk_f _ (eT_le _)).1
theorem st_nb (k : Nat) (h : bgT t tl k < tl) : kdO (t (bgT t tl k)) ≠ 0 := by
  intro g
  have g := kdO_0.mp g
  cases k with
  | zero => exact (sk_f 0 (Nat.zero_le _)).2.2.1 h g
  | succ k => exact (sk_f _ (eT_le _)).2.2.1 h g
theorem st_ed (k : Nat) : edP t tl k ≤ bgT t tl (k + 1) := (sk_f _ (eT_le _)).2.1
theorem st_lt (k : Nat) (h : bgT t tl k < tl) : bgT t tl k < edP t tl k := by
  obtain ⟨m, h1, h2, h3, -⟩ := eT_ex h (st_nb k h)
  unfold edP
  omega
theorem st_end (k : Nat) (h : tl ≤ bgT t tl k) : bgT t tl (k + 1) = tl := by
  have h1 := st_le (t := t) (tl := tl) k
  have e : bgT t tl k = tl := by omega
  show skP t tl (eT t tl (bgT t tl k)) = tl
  rw [e]
  have : eT t tl tl = tl := by unfold eT; rw [if_pos (Nat.le_refl _)]
  rw [this, skP_e]
theorem st_mono : ∀ d k, bgT t tl k ≤ bgT t tl (k + d) := by
  intro d
  induction d with
  | zero => intro k; exact Nat.le_refl _
  | succ d ih =>
    intro k
    refine Nat.le_trans (ih k) ?_
    show bgT t tl (k + d) ≤ bgT t tl (k + d + 1)
    by_cases h : bgT t tl (k + d) < tl
    · exact Nat.le_trans (Nat.le_of_lt (st_lt _ h)) (st_ed _)
    · rw [st_end _ (by omega)]; exact st_le _
theorem st_ed' {j c : Nat} (h : j < c) : edP t tl j ≤ bgT t tl c := by
  have h1 := st_ed (t := t) (tl := tl) j
  have h2 := st_mono (t := t) (tl := tl) (c - (j + 1)) (j + 1)
  rw [show j + 1 + (c - (j + 1)) = c by omega] at h2
  omega
/-- the octet ahead of a token's first is of another kind -/
theorem st_bef (c : Nat) (hc : bgT t tl c < tl) (h0 : 0 < bgT t tl c) : kdO (t (bgT t tl c - 1)) ≠ kdO (t (bgT t tl c)) ∨ kdO (t (bgT t tl c)) = 1 := by
  have hnb := st_nb c hc
  cases c with
  | zero =>
    refine Or.inl ?_
    have := (sk_f (t := t) (tl := tl) 0 (Nat.zero_le _)).2.2.2 (bgT t tl 0 - 1) (Nat.zero_le _) (by show bgT t tl 0 - 1 < bgT t tl 0; omega)
    rw [kdO_0.mpr this]
    exact fun g => hnb g.symm
  | succ c =>
    by_cases hp : bgT t tl c < tl
    · have he := st_ed (t := t) (tl := tl) c
      by_cases e : edP t tl c = bgT t tl (c + 1)
      · obtain ⟨m, h1, h2, h3, h4, h5, h6⟩ := eT_ex hp (st_nb c hp)
        have e' : bgT t tl (c + 1) = bgT t tl c + m := by rw [← e]; exact h3
        by_cases k1 : kdO (t (bgT t tl c)) = 1
        · by_cases k2 : kdO (t (bgT t tl (c + 1))) = 1
          · exact Or.inr k2
          · refine Or.inl ?_
            rw [e', show bgT t tl c + m - 1 = bgT t tl c + (m - 1) by omega, h4 (m - 1) (by omega), k1, ← e']
            exact fun g => k2 g.symm
        · refine Or.inl ?_
          rw [e', show bgT t tl c + m - 1 = bgT t tl c + (m - 1) by omega, h4 (m - 1) (by omega)]
          rcases h6 k1 with g | g
          · omega
          · exact fun x => g x.symm
      · refine Or.inl ?_
        have := (sk_f (t := t) (tl := tl) (edP t tl c) (eT_le _)).2.2.2 (bgT t tl (c + 1) - 1) (by omega) (by show bgT t tl (c + 1) - 1 < bgT t tl (c + 1); omega)
        rw [kdO_0.mpr this]
        exact fun g => hnb g.symm
    · have := st_end (t := t) (tl := tl) c (by omega)
      omega
theorem tkn_p (hs : s ≤ tl) : (tkn t tl s).2.2 = s ∧ ((tkn t tl s).1 = 0 ↔ tl ≤ s) := by
  unfold tkn
  by_cases h : tl ≤ s
  · rw [if_pos h]; exact ⟨by show tl = s; omega, fun _ => h, fun _ => rfl⟩
  rw [if_neg h]
  have g : ∀ (x y : Nat), x ≠ 0 → ((x, y, s) : tkT).2.2 = s ∧ (((x, y, s) : tkT).1 = 0 ↔ tl ≤ s) := fun x y hx => ⟨rfl, fun e => absurd e hx, fun e => absurd e h⟩
  split
  · exact g _ _ (by omega)
  · split
    · exact g _ _ (by omega)
    · split
      · split
        · exact g _ _ (by omega)
        · exact g _ _ (by omega)
      · split
        · exact g _ _ (by omega)
        · split
          · exact g _ _ (by omega)
          · exact g _ _ (by omega)
theorem AH_P (tn : Nat) : AH t tl (edP t tl) (tkP t tl) tn := fun k R M _ hT h5 => by
  refine zW_mono (r_ahd hT (eT_le _) h5) ?_
  rintro ⟨R1, M1⟩ ⟨h1, h2⟩
  exact ⟨h1, h2⟩
theorem PLC_P (tn : Nat) : PLC t tl (edP t tl) (tkP t tl) tn := ⟨fun k _ => eT_le _, fun k _ => ⟨(tkn_p (st_le (k + 1))).1, (tkn_p (st_le (k + 1))).2, st_le (k + 1)⟩⟩
theorem tw1 {x v s : Nat} (h5 : x ≤ 5) (hv : v < 2147483000) (hs : s ≤ 1600) (h1 : x = 1 → v < 256) (h2 : x = 2 → v < 10000) (h4 : x = 4 → v < 23) (hb : x = 5 → v ≤ 1600) : ((x, v, s) : tkT).1 ≤ 5 ∧ ((x, v, s) : tkT).2.1 < 2147483000 ∧ ((x, v, s) : tkT).2.2 ≤ 1600 ∧ (((x, v, s) : tkT).1 = 1 → ((x, v, s) : tkT).2.1 < 256) ∧ (((x, v, s) : tkT).1 = 2 → ((x, v, s) : tkT).2.1 < 10000) ∧ (((x, v, s) : tkT).1 = 4 → ((x, v, s) : tkT).2.1 < 23) ∧ (((x, v, s) : tkT).1 = 5 → ((x, v, s) : tkT).2.1 ≤ 1600) := ⟨h5, hv, hs, h1, h2, h4, hb⟩
theorem TW_P (htl : tl ≤ 1600) (hoc : ∀ j, j < tl → t j < 256) (hc : bgT t tl c = tl) : TW (tkP t tl) (c + 1) := by
  refine ⟨fun j hj h0 => ?_, fun j hj => ?_⟩
  · have h1 := (tkn_p (t := t) (st_le (t := t) (tl := tl) j)).2
    by_cases e : j = c
    · subst e
      exact absurd (h1.mpr (by omega)) h0
    · omega
  · have hsl := st_le (t := t) (tl := tl) j
    show (tkn t tl (bgT t tl j)).1 ≤ 5 ∧ _
    unfold tkP
    generalize hs : bgT t tl j = s at hsl
    by_cases h : tl ≤ s
    · have : tkn t tl s = (0, 0, tl) := by unfold tkn; rw [if_pos h]
      rw [this]
      exact tw1 (by omega) (by omega) htl (fun g => by omega) (fun g => by omega) (fun g => by omega) (fun g => by omega)
    have hslt : s < tl := by omega
    have h0 : kdO (t s) ≠ 0 := by rw [← hs] at hslt ⊢; exact st_nb j hslt
    obtain ⟨m, m1, m2, m3, m4, m5, m6⟩ := eT_ex hslt h0
    have ho := hoc s hslt
    unfold tkn
    rw [if_neg h, m3, Nat.add_sub_cancel_left]
    by_cases k1 : kdO (t s) = 1
    · rw [if_pos k1]
      exact tw1 (by omega) (by omega) (by omega) (fun g => by omega) (fun g => by omega) (fun g => by omega) (fun g => by omega)
    rw [if_neg k1]
    by_cases g : glu t s
    · rw [if_pos g]
      exact tw1 (by omega) (by omega) (by omega) (fun g => by omega) (fun g => by omega) (fun g => by omega) (fun g => by omega)
    rw [if_neg g]
    by_cases k2 : kdO (t s) = 2
    · rw [if_pos k2]
      by_cases h4 : 4 < m
      · rw [if_pos h4]
        exact tw1 (by omega) (by omega) (by omega) (fun g => by omega) (fun g => by omega) (fun g => by omega) (fun g => by omega)
      · rw [if_neg h4]
        have hb := nmV_b (t := t) (i := s) m (by omega) (fun k hk => kdO_2.mp (by rw [m4 k hk]; exact k2))
        have hb4 : 10 ^ m ≤ 10 ^ 4 := Nat.pow_le_pow_right (by decide) (by omega)
        exact tw1 (by omega) (by omega) (by omega) (fun g => by omega) (fun g => by omega) (fun g => by omega) (fun g => by omega)
    rw [if_neg k2]
    have k3 : kdO (t s) = 3 := by have := kdO_le (o := t s); omega
    by_cases h6 : 6 < m
    · rw [if_pos h6]
      exact tw1 (by omega) (by omega) (by omega) (fun g => by omega) (fun g => by omega) (fun g => by omega) (fun g => by omega)
    rw [if_neg h6]
    by_cases hx : ixF owL (nmR (ltr t s m)) < 23
    · rw [if_pos hx]
      exact tw1 (by omega) (by omega) (by omega) (fun g => by omega) (fun g => by omega) (fun g => by omega) (fun g => by omega)
    · rw [if_neg hx]
      have hb := nmC_b (ltr t s m) (ltr_mem m (fun k hk => kdO_3.mp (by rw [m4 k hk]; exact k3)))
      rw [ltr_len] at hb
      have hb6 : 32 ^ m ≤ 32 ^ 6 := Nat.pow_le_pow_right (by decide) (by omega)
      have hb7 : (32 : Nat) ^ 6 = 1073741824 := rfl
      exact tw1 (by omega) (by omega) (by omega) (fun g => by omega) (fun g => by omega) (fun g => by omega) (fun g => by omega)
end
