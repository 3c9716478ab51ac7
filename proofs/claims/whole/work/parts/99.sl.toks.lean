section
variable {t : Nat → Nat} {tl i m s e κ c y n c0 q0 : Nat} {V V0 : zI} {L : zL} {K N : Nat → Nat} {G : zG}
theorem tkW_n (hs : s < tl) (htl : tl ≤ 1600) (ho : t s < 256) (h0 : kdO (t s) ≠ 0) : tkn t tl s = ((if (tkW t s (eT t tl s - s)).1 = 3 ∧ ixF owL (nmR (ltr t s (eT t tl s - s))) < 23 then 4 else (tkW t s (eT t tl s - s)).1), (if (tkW t s (eT t tl s - s)).1 = 3 ∧ ixF owL (nmR (ltr t s (eT t tl s - s))) < 23 then ixF owL (nmR (ltr t s (eT t tl s - s))) else (tkW t s (eT t tl s - s)).2), s) ∧ (tkW t s (eT t tl s - s)).1 < 100 ∧ (tkW t s (eT t tl s - s)).2 < 2147483648 ∧ ((tkW t s (eT t tl s - s)).1 = 3 → nmK (ltr t s (eT t tl s - s)) ∧ (tkW t s (eT t tl s - s)).2 = nmC (ltr t s (eT t tl s - s))) := by
  obtain ⟨m, m1, m2, m3, m4, m5, m6⟩ := eT_ex hs h0
  have hle := kdO_le (o := t s)
  have e5 : ∀ a : Nat, a ≠ 3 → ¬ (a = 3 ∧ ixF owL (nmR (ltr t s m)) < 23) := fun a ha g => ha g.1
  unfold tkn
  rw [if_neg (by omega), m3, Nat.add_sub_cancel_left]
  unfold tkW
  by_cases k1 : kdO (t s) = 1
  · rw [if_pos k1, if_pos k1]
    dsimp only
    rw [if_neg (e5 1 (by decide)), if_neg (e5 1 (by decide))]
    exact ⟨rfl, by omega, by omega, fun g => by omega⟩
  rw [if_neg k1, if_neg k1]
  by_cases g : glu t s
  · rw [if_pos g, if_pos g]
    dsimp only
    rw [if_neg (e5 5 (by decide)), if_neg (e5 5 (by decide))]
    exact ⟨rfl, by omega, by omega, fun g => by omega⟩
  rw [if_neg g, if_neg g]
  by_cases k2 : kdO (t s) = 2
  · rw [if_pos k2, if_pos k2]
    by_cases h4 : 4 < m
    · rw [if_pos h4, if_pos h4]
      dsimp only
      rw [if_neg (e5 5 (by decide)), if_neg (e5 5 (by decide))]
      exact ⟨rfl, by omega, by omega, fun g => by omega⟩
    · rw [if_neg h4, if_neg h4]
      dsimp only
      rw [if_neg (e5 2 (by decide)), if_neg (e5 2 (by decide))]
      have hb := nmV_b (t := t) (i := s) m (by omega) (fun k hk => kdO_2.mp (by rw [m4 k hk]; exact k2))
      have hb4 : 10 ^ m ≤ 10 ^ 4 := Nat.pow_le_pow_right (by decide) (by omega)
      exact ⟨rfl, by omega, by omega, fun g => by omega⟩
  rw [if_neg k2, if_neg k2]
  have k3 : kdO (t s) = 3 := by omega
  by_cases h6 : 6 < m
  · rw [if_pos h6, if_pos h6]
    dsimp only
    rw [if_neg (e5 5 (by decide)), if_neg (e5 5 (by decide))]
    exact ⟨rfl, by omega, by omega, fun g => by omega⟩
  rw [if_neg h6, if_neg h6]
  dsimp only
  have hm := ltr_mem (t := t) (s := s) m (fun k hk => kdO_3.mp (by rw [m4 k hk]; exact k3))
  have hb := nmC_b (ltr t s m) hm
  rw [ltr_len] at hb
  have hb6 : 32 ^ m ≤ 32 ^ 6 := Nat.pow_le_pow_right (by decide) (by omega)
  have hb7 : (32 : Nat) ^ 6 = 1073741824 := rfl
  have hk : nmK (ltr t s m) := ⟨by rw [ltr_len]; omega, hm⟩
  refine ⟨?_, by omega, by omega, fun _ => ⟨hk, rfl⟩⟩
  by_cases hx : ixF owL (nmR (ltr t s m)) < 23
  · rw [if_pos hx, if_pos (show 3 = 3 ∧ ixF owL (nmR (ltr t s m)) < 23 from ⟨rfl, hx⟩), if_pos (show 3 = 3 ∧ ixF owL (nmR (ltr t s m)) < 23 from ⟨rfl, hx⟩)]
  · rw [if_neg hx, if_neg (show ¬ (3 = 3 ∧ ixF owL (nmR (ltr t s m)) < 23) from fun g => hx g.2), if_neg (show ¬ (3 = 3 ∧ ixF owL (nmR (ltr t s m)) < 23) from fun g => hx g.2)]
theorem k_split (hy : 28 ≤ y) (hg : AG y tl N G) (hN1 : N 1 = 1600) (hoc : ∀ j, j < tl → t j < 256) (ht : ∀ j, j < tl → V 1 j &&& 255 = qi (t j)) (h0 : V y 3 = qi 0) : zW (f_X8_split y 1 (qi tl) n K N G V L) (fun r => ∃ V1 c, r = (n, 0, 0, K, N, G, V1, L) ∧ c ≤ tl ∧ bgT t tl c = tl ∧ TV V1 y (y + 1) (y + 2) (y + 3) (c + 1) (tkP t tl) ∧ AF y V V1) := by
  have htl := hg.2.2.2.2
  unfold f_X8_split g_X8_split
  refine sp_all hy hg hN1 hoc ht h0 (fun c V' hc hct hAR hlt hAF => ?_)
  unfold f_X8_split_145
  rw [show (0 : Int32) = qi 0 from rfl]
  refine zW_call (s_add (a := 0) (v := 0) (f := tl) hg hct hAR hAF) ?_
  rintro ⟨V1, L1⟩ ⟨rfl, h1, h2⟩
  dsimp only at h1 h2 ⊢
  have hj : ∀ j, j < c → _ := fun j hj => tkW_n (t := t) (hlt j hj) htl (hoc _ (hlt j hj)) (st_nb j (hlt j hj))
  refine zW_call (s_marks (P := fun r => ∃ V1', r = (n, 0, 0, K, N, G, V1', L1) ∧ AR y (c + 1) (mA (up (fun j => (tkW t (bgT t tl j) (edP t tl j - bgT t tl j)).1) c 0) (fun j => ixF owL (nmR (ltr t (bgT t tl j) (edP t tl j - bgT t tl j)))) 23) (mB (up (fun j => (tkW t (bgT t tl j) (edP t tl j - bgT t tl j)).1) c 0) (up (fun j => (tkW t (bgT t tl j) (edP t tl j - bgT t tl j)).2) c 0) (fun j => ixF owL (nmR (ltr t (bgT t tl j) (edP t tl j - bgT t tl j)))) 23) (up (bgT t tl) c tl) V1' ∧ AF y V V1') (ix := fun j => ixF owL (nmR (ltr t (bgT t tl j) (edP t tl j - bgT t tl j)))) hg (by omega) (fun j hjc => ?_) (fun j hjc h3 => ?_) h1 h2 (fun V2 h3 h4 => ⟨V2, rfl, h3, h4⟩)) ?_
  · by_cases e : j = c
    · subst e; rw [up_c, up_c]; omega
    · rw [up_n e, up_n e]
      exact ⟨(hj j (by omega)).2.1, (hj j (by omega)).2.2.1⟩
  · by_cases e : j = c
    · subst e; rw [up_c] at h3; omega
    · rw [up_n e] at h3
      rw [up_n e]
      obtain ⟨g1, g2⟩ := (hj j (by omega)).2.2.2 h3
      exact ⟨_, g1, g2, rfl⟩
  rintro r ⟨V2, rfl, h3, h4⟩
  unfold f_X8_split_156
  refine zW_some ⟨V2, c, rfl, hct, hc, ⟨h3.1, fun j hjc => ?_⟩, h4⟩
  have hh := h3.2 j hjc
  by_cases e : j = c
  · subst e
    have e1 : tkP t tl j = (0, 0, tl) := by unfold tkP tkn; rw [hc, if_pos (Nat.le_refl _)]
    rw [e1]
    have g : ¬ (up (fun j => (tkW t (bgT t tl j) (edP t tl j - bgT t tl j)).1) j 0 j = 3 ∧ ixF owL (nmR (ltr t (bgT t tl j) (edP t tl j - bgT t tl j))) < 23) := fun g => by have := g.1; rw [up_c] at this; omega
    unfold mA mB at hh
    dsimp only at hh
    rw [if_neg g, if_neg g, up_c, up_c, up_c] at hh
    exact hh
  · have e1 : tkP t tl j = _ := (hj j (by omega)).1
    rw [e1]
    unfold mA mB at hh
    dsimp only at hh
    rw [up_n e, up_n e, up_n e] at hh
    exact hh
end
