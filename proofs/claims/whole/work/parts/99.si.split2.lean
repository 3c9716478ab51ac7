section
variable {t : Nat → Nat} {tl i m s e κ c y n c0 q0 : Nat} {V V0 : zI} {L : zL} {K N : Nat → Nat} {G : zG} {A B F A' B' F' : Nat → Nat}
theorem AR_e (h : AR y c A B F V) (he : ∀ j, j < c → A' j = A j ∧ B' j = B j ∧ F' j = F j) : AR y c A' B' F' V := ⟨h.1, fun j hj => by
  obtain ⟨e1, e2, e3⟩ := he j hj
  rw [e1, e2, e3]
  exact h.2 j hj⟩
def tkW (t : Nat → Nat) (s L : Nat) : Nat × Nat := if kdO (t s) = 1 then (1, t s) else if glu t s then (5, s) else if kdO (t s) = 2 then (if 4 < L then (5, s + 4) else (2, nmV t s L)) else if 6 < L then (5, s + 6) else (3, nmC (ltr t s L))
theorem tw_b (h0 : kdO (t s) ≠ 0) (h1 : kdO (t s) ≠ 1) (hr : ∀ k, k < m → kdO (t (s + k)) = kdO (t s)) : (tkW t s m).1 < 100 ∧ ((tkW t s m).1 = 3 → kdO (t s) = 3 ∧ m ≤ 6 ∧ (tkW t s m).2 < 32 ^ m) ∧ ((tkW t s m).1 = 2 → kdO (t s) = 2 ∧ (tkW t s m).2 < 10000) := by
  unfold tkW
  rw [if_neg h1]
  have hle := kdO_le (o := t s)
  by_cases g : glu t s
  · rw [if_pos g]; exact ⟨by show 5 < 100; omega, fun e => by have : 5 = 3 := e; omega, fun e => by have : 5 = 2 := e; omega⟩
  rw [if_neg g]
  by_cases k2 : kdO (t s) = 2
  · rw [if_pos k2]
    by_cases h4 : 4 < m
    · rw [if_pos h4]; exact ⟨by show 5 < 100; omega, fun e => by have : 5 = 3 := e; omega, fun e => by have : 5 = 2 := e; omega⟩
    · rw [if_neg h4]
      have hb := nmV_b (t := t) (i := s) m (by omega) (fun k hk => kdO_2.mp (by rw [hr k hk]; exact k2))
      have hb4 : 10 ^ m ≤ 10 ^ 4 := Nat.pow_le_pow_right (by decide) (by omega)
      exact ⟨by show 2 < 100; omega, fun e => by have : 2 = 3 := e; omega, fun _ => ⟨k2, by show nmV t s m < 10000; omega⟩⟩
  rw [if_neg k2]
  have k3 : kdO (t s) = 3 := by omega
  by_cases h6 : 6 < m
  · rw [if_pos h6]; exact ⟨by show 5 < 100; omega, fun e => by have : 5 = 3 := e; omega, fun e => by have : 5 = 2 := e; omega⟩
  · rw [if_neg h6]
    have hb := nmC_b (ltr t s m) (ltr_mem m (fun k hk => kdO_3.mp (by rw [hr k hk]; exact k3)))
    rw [ltr_len] at hb
    exact ⟨by show 3 < 100; omega, fun _ => ⟨k3, by omega, hb⟩, fun e => by have : 3 = 2 := e; omega⟩
theorem tw_step (h0 : kdO (t s) ≠ 0) (h1 : kdO (t s) ≠ 1) : lnA (kdO (t s)) m (tkW t s m).1 = (tkW t s (m + 1)).1 ∧ lnB (kdO (t s)) (t (s + m)) (s + m) m (tkW t s m).1 (tkW t s m).2 = (tkW t s (m + 1)).2 := by
  have hle := kdO_le (o := t s)
  unfold tkW lnA lnB
  rw [if_neg h1, if_neg h1]
  by_cases g : glu t s
  · rw [if_pos g, if_pos g]
    dsimp only
    generalize (if kdO (t s) = 3 then 6 else 4) = mo
    by_cases em : m = mo
    · rw [if_pos em, if_pos em]; exact ⟨rfl, rfl⟩
    · rw [if_neg em, if_neg em]; exact ⟨rfl, rfl⟩
  rw [if_neg g, if_neg g]
  by_cases k2 : kdO (t s) = 2
  · rw [if_pos k2, if_pos k2, k2, if_neg (show ¬ 2 = 3 by decide)]
    by_cases h4 : 4 < m
    · rw [if_pos h4, if_pos (show 4 < m + 1 by omega)]
      dsimp only
      rw [if_neg (by omega), if_neg (by omega), if_neg (by decide), if_neg (by decide)]
      exact ⟨rfl, rfl⟩
    · rw [if_neg h4]
      by_cases e4 : m = 4
      · subst e4
        rw [if_pos (show 4 < 4 + 1 by omega)]
        dsimp only
        rw [if_pos rfl, if_pos rfl, if_neg (by decide)]
        exact ⟨rfl, rfl⟩
      · rw [if_neg (show ¬ 4 < m + 1 by omega)]
        dsimp only
        rw [if_neg e4, if_neg e4, if_neg (by decide), if_pos rfl]
        refine ⟨rfl, ?_⟩
        show nmV t s m * 10 + t (s + m) - 48 = 10 * nmV t s m + t (s + m) - 48
        rw [Nat.mul_comm]
  · rw [if_neg k2, if_neg k2]
    have k3 : kdO (t s) = 3 := by omega
    rw [k3, if_pos rfl]
    by_cases h6 : 6 < m
    · rw [if_pos h6, if_pos (show 6 < m + 1 by omega)]
      dsimp only
      rw [if_neg (by omega), if_neg (by omega), if_neg (by decide), if_neg (by decide)]
      exact ⟨rfl, rfl⟩
    · rw [if_neg h6]
      by_cases e6 : m = 6
      · subst e6
        rw [if_pos (show 6 < 6 + 1 by omega)]
        dsimp only
        rw [if_pos rfl, if_pos rfl, if_neg (by decide)]
        exact ⟨rfl, rfl⟩
      · rw [if_neg (show ¬ 6 < m + 1 by omega)]
        dsimp only
        rw [if_neg e6, if_neg e6, if_pos rfl]
        refine ⟨rfl, ?_⟩
        show nmC (ltr t s m) + (t (s + m) - 96) * 32 ^ m = nmC (ltr t s m ++ [t (s + m) - 96])
        rw [nmC_app, ltr_len]
theorem tw_1 (hκ : kdO (t i) = 2 ∨ kdO (t i) = 3) : lnA (kdO (t i)) 0 (kdO (t i)) = kdO (t i) ∧ (¬ glu t i → (kdO (t i), lnB (kdO (t i)) (t i) i 0 (kdO (t i)) 0) = tkW t i 1) ∧ (glu t i → tkW t i 1 = (5, i)) := by
  unfold tkW lnA lnB
  rcases hκ with k | k
  · rw [k]
    refine ⟨by rw [if_neg (by decide)], fun g => ?_, fun g => ?_⟩
    · show (2, 0 * 10 + t i - 48) = (if glu t i then (5, i) else (2, nmV t i 1))
      rw [if_neg g]
      rfl
    · show (if glu t i then (5, i) else (2, nmV t i 1)) = (5, i)
      rw [if_pos g]
  · rw [k]
    refine ⟨by rw [if_neg (by decide)], fun g => ?_, fun g => ?_⟩
    · show (3, 0 + (t i - 96) * 1) = (if glu t i then (5, i) else (3, (t (i + 0) - 96) + 32 * 0))
      rw [if_neg g, Nat.add_zero, Nat.zero_add, Nat.mul_one]
      rfl
    · show (if glu t i then (5, i) else (3, (t (i + 0) - 96) + 32 * 0)) = (5, i)
      rw [if_pos g]
end
