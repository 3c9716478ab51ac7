section
variable {t : Nat → Nat} {tl i m s e κ c y n c0 q0 : Nat} {V V0 : zI} {L : zL} {K N : Nat → Nat} {G : zG} {A B F A' B' F' : Nat → Nat}
/-- the tokens after i octets -/
abbrev wA (t : Nat → Nat) (tl i j : Nat) : Nat := (tkW t (bgT t tl j) (min i (edP t tl j) - bgT t tl j)).1
abbrev wB (t : Nat → Nat) (tl i j : Nat) : Nat := (tkW t (bgT t tl j) (min i (edP t tl j) - bgT t tl j)).2
def SP (t : Nat → Nat) (tl y : Nat) (V0 : zI) (i c : Nat) (V : zI) : Prop := AR y c (wA t tl i) (wB t tl i) (bgT t tl) V ∧ AF y V0 V ∧ (∀ j, j < c → bgT t tl j < i) ∧ i ≤ bgT t tl c ∧ c ≤ i
abbrev bfO (t : Nat → Nat) (i : Nat) : Nat := if i = 0 then 0 else kdO (t (i - 1))
theorem bf_glu (hi : 0 < i) : glu t i ↔ (bfO t i = 3 ∨ bfO t i = 2) := by
  unfold bfO
  rw [if_neg (by omega), kdO_3, kdO_2]
  exact ⟨fun h => h.2, fun h => ⟨hi, h⟩⟩
/-- tokens ahead of the last don't move -/
theorem w_old {j : Nat} (h : edP t tl j ≤ i) : wA t tl (i + 1) j = wA t tl i j ∧ wB t tl (i + 1) j = wB t tl i j := by
  unfold wA wB
  rw [show min (i + 1) (edP t tl j) = min i (edP t tl j) by omega]
  exact ⟨rfl, rfl⟩
set_option maxHeartbeats 4000000 in
theorem sp_step {kk : Nat × Nat × Int32 × Int32 × Int32 × zS → Option zS} {P : zS → Prop} (hy : 28 ≤ y) (hg : AG y tl N G) (hN1 : N 1 = 1600) (hi : i < tl) (hoc : ∀ j, j < tl → t j < 256) (ht : ∀ j, j < tl → V0 1 j &&& 255 = qi (t j)) (h : SP t tl y V0 i c V) (hk : ∀ c' V', SP t tl y V0 (i + 1) c' V' → zW (kk (y, 1, qi tl, qi (bfO t (i + 1)), qi (i + 1), n, c0, q0, K, N, G, V', L)) P) : zW (b_X8_split_5 kk (y, 1, qi tl, qi (bfO t i), qi i, n, c0, q0, K, N, G, V, L)) P := by
  obtain ⟨hAR, hAF, hlt, hge, hci⟩ := id h
  have htl := hg.2.2.2.2
  have ho := hoc i hi
  have eo : V 1 i &&& 255 = qi (t i) := by rw [hAF.1 1 (by omega) (by omega) (by omega) (by omega)]; exact ht i hi
  have hle := kdO_le (o := t i)
  have ebf : bfO t (i + 1) = kdO (t i) := by unfold bfO; rw [if_neg (by omega), Nat.add_sub_cancel]
  rw [ebf] at hk
  have ex : qi i + 1 = qi (i + 1) := by rw [show (1 : Int32) = qi 1 from rfl, q_add]
  have hbfb : bfO t i ≤ 3 := by
    unfold bfO
    split
    · omega
    · exact kdO_le
  show zW (if qi tl ≤ qi i then f_X8_split_145 y (qi tl) n c0 q0 K N G V L else (if (Int32.ofNat (N 1)) ≤ qi i then f_X8_split_145 y (qi tl) n c0 q0 K N G V L else if inB (qi i) (N 1) then (f_X8_kindOf ((V 1 (qi i).toNatClampNeg) &&& 255)).bind fun r2 => (if r2 = 3 then f_X8_split_47 kk y 1 (qi tl) (qi (bfO t i)) (qi i) ((V 1 (qi i).toNatClampNeg) &&& 255) r2 n c0 q0 K N G V L else (if r2 = 2 then f_X8_split_47 kk y 1 (qi tl) (qi (bfO t i)) (qi i) ((V 1 (qi i).toNatClampNeg) &&& 255) r2 n c0 q0 K N G V L else f_X8_split_52 kk y 1 (qi tl) (qi (bfO t i)) (qi i) ((V 1 (qi i).toNatClampNeg) &&& 255) r2 0 n c0 q0 K N G V L)) else none)) P
  refine zW_if0 (by rw [q_le (by omega) (by omega)]; omega) (zW_if0 (by rw [hN1]; show ¬ qi 1600 ≤ qi i; rw [q_le (by omega) (by omega)]; omega) (zW_if1 (by rw [hN1]; exact q_inP (by omega) (by omega)) ?_))
  have eo' : V 1 (qi i).toNatClampNeg &&& 255 = qi (t i) := by rw [q_nn (by omega)]; exact eo
  rw [eo', k_kind ho, o_bind]
  -- where i lies
  have hwhere : (i = bgT t tl c ∧ kdO (t i) ≠ 0) ∨ (kdO (t i) = 0 ∧ i < bgT t tl c ∧ ∀ j, j < c → edP t tl j ≤ i) ∨ (∃ c', c = c' + 1 ∧ i < edP t tl c' ∧ i < bgT t tl c ∧ kdO (t (bgT t tl c')) = kdO (t i) ∧ (kdO (t i) = 2 ∨ kdO (t i) = 3) ∧ bfO t i = kdO (t i) ∧ ∀ k, k < i - bgT t tl c' → kdO (t (bgT t tl c' + k)) = kdO (t (bgT t tl c'))) := by
    by_cases e : i = bgT t tl c
    · left
      refine ⟨e, ?_⟩
      rw [e]
      exact st_nb c (by omega)
    · right
      have hlt' : i < bgT t tl c := by omega
      cases c with
      | zero =>
        left
        exact ⟨kdO_0.mpr ((sk_f (t := t) (tl := tl) 0 (Nat.zero_le _)).2.2.2 i (Nat.zero_le _) hlt'), hlt', fun j hj => absurd hj (Nat.not_lt_zero _)⟩
      | succ c' =>
        have hs := hlt c' (by omega)
        by_cases he : i < edP t tl c'
        · right
          have hst : bgT t tl c' < tl := by omega
          obtain ⟨m, h1, h2, h3, h4, h5, h6⟩ := eT_ex hst (st_nb c' hst)
          have he' : i < bgT t tl c' + m := by rw [← h3]; exact he
          have hk' : kdO (t i) = kdO (t (bgT t tl c')) := by
            have := h4 (i - bgT t tl c') (by omega)
            rw [show bgT t tl c' + (i - bgT t tl c') = i by omega] at this
            exact this
          have h1' : kdO (t (bgT t tl c')) ≠ 1 := fun g => by have := h5 g; omega
          have h0' := st_nb c' hst
          have hle' := kdO_le (o := t (bgT t tl c'))
          refine ⟨c', rfl, he, hlt', hk'.symm, by omega, ?_, fun k hk => h4 k (by omega)⟩
          unfold bfO
          rw [if_neg (by omega)]
          have := h4 (i - 1 - bgT t tl c') (by omega)
          rw [show bgT t tl c' + (i - 1 - bgT t tl c') = i - 1 by omega] at this
          rw [this, hk']
        · left
          refine ⟨kdO_0.mpr ((sk_f (t := t) (tl := tl) (edP t tl c') (eT_le _)).2.2.2 i (by omega) hlt'), hlt', fun j hj => ?_⟩
          by_cases ej : j = c'
          · rw [ej]; omega
          · have h1 := st_ed' (t := t) (tl := tl) (show j < c' by omega)
            omega
  rcases hwhere with ⟨hst, h0⟩ | ⟨hb, hlt', hold⟩ | ⟨c', rfl, he, hlt', hkd, hκ, hbf, hrun⟩
  · -- a new token
    have hold : ∀ j, j < c → edP t tl j ≤ i := fun j hj => by rw [hst]; exact st_ed' hj
    have hed : i < edP t tl c := by rw [hst]; exact st_lt c (by omega)
    have hmin : min (i + 1) (edP t tl c) - bgT t tl c = 1 := by omega
    have hnext : i + 1 ≤ bgT t tl (c + 1) := Nat.le_trans hed (st_ed c)
    have hmk : ∀ (A1 B1 : Nat → Nat) (V1 : zI), AR y (c + 1) A1 B1 (up (bgT t tl) c i) V1 → AF y V0 V1 → (∀ j, j < c → A1 j = wA t tl i j ∧ B1 j = wB t tl i j) → (A1 c, B1 c) = tkW t i 1 → SP t tl y V0 (i + 1) (c + 1) V1 := fun A1 B1 V1 h1 h2 h3 h4 => by
      refine ⟨AR_e h1 (fun j hj => ?_), h2, fun j hj => ?_, hnext, by omega⟩
      · by_cases e : j = c
        · subst e
          rw [up_c]
          unfold wA wB
          rw [hmin, ← hst, ← h4]
          exact ⟨rfl, rfl, rfl⟩
        · rw [up_n e]
          obtain ⟨e1, e2⟩ := w_old (hold j (by omega))
          obtain ⟨e3, e4⟩ := h3 j (by omega)
          rw [e1, e2, e3, e4]
          exact ⟨rfl, rfl, rfl⟩
      · by_cases e : j = c
        · rw [e]; omega
        · have := hlt j (by omega); omega
    by_cases k1 : kdO (t i) = 1
    · rw [k1]
      refine zW_if0 (by decide) (zW_if0 (by decide) ?_)
      unfold f_X8_split_52
      refine zW_if1 (by rfl) ?_
      unfold f_X8_split_78
      refine zW_if1 (by rfl) (zW_if1 (by rfl) ?_)
      refine zW_call (s_add (a := 1) (v := t i) (f := i) hg (by omega) hAR hAF) ?_
      rintro ⟨V1, L1⟩ ⟨rfl, h1, h2⟩
      dsimp only at h1 h2 ⊢
      rw [ex]
      rw [k1] at hk
      refine hk (c + 1) V1 (hmk _ _ _ h1 h2 (fun j hj => ⟨up_n (by omega), up_n (by omega)⟩) ?_)
      rw [up_c, up_c]
      unfold tkW
      rw [if_pos k1]
    have hκ : kdO (t i) = 2 ∨ kdO (t i) = 3 := by omega
    have hne : bfO t i ≠ kdO (t i) := by
      unfold bfO
      by_cases e : i = 0
      · rw [if_pos e]; omega
      · rw [if_neg e]
        have := st_bef (t := t) (tl := tl) c (by omega) (by omega)
        rw [← hst] at this
        rcases this with g | g
        · exact g
        · exact absurd g k1
    obtain ⟨w1, w2, w3⟩ := tw_1 hκ
    have hgl : glu t i ↔ (bfO t i = 3 ∨ bfO t i = 2) := by
      by_cases e : i = 0
      · constructor
        · intro h; have := h.1; omega
        · intro h
          unfold bfO at h
          rw [if_pos e] at h
          omega
      · exact bf_glu (by omega)
    have h78 : zW (f_X8_split_78 kk y 1 (qi tl) (qi (bfO t i)) (qi i) (qi (t i)) (qi (kdO (t i))) 1 n c0 q0 K N G V L) P := by
      unfold f_X8_split_78
      refine zW_if0 (by decide) ?_
      rw [show (0 : Int32) = qi 0 from rfl]
      refine zW_call (s_add (a := kdO (t i)) (v := 0) (f := i) hg (by omega) hAR hAF) ?_
      rintro ⟨V1, L1⟩ ⟨rfl, h1, h2⟩
      dsimp only at h1 h2 ⊢
      refine zW_call (s_len (κ := kdO (t i)) (o := t i) hg (by omega) hκ hi rfl h1 (by rw [up_c]; omega) (by rw [up_c]; exact Nat.le_refl _) (fun g => ?_) (fun g => ?_) h2) ?_
      · rw [up_c] at g
        rw [up_c, up_c, Nat.sub_self]
        exact ⟨g, by omega, by decide⟩
      · rw [up_c] at g
        rw [up_c]
        exact ⟨g, by decide⟩
      rintro ⟨V2, L2⟩ ⟨rfl, h3, h4⟩
      dsimp only at h3 h4 ⊢
      rw [up_c, up_c, up_c, Nat.sub_self] at h3
      have hA2 : up (up (wA t tl i) c (kdO (t i))) c (lnA (kdO (t i)) 0 (kdO (t i))) c = kdO (t i) := by rw [up_c]; exact w1
      by_cases g : glu t i
      · have h112 : zW (f_X8_split_112 kk y 1 (qi tl) (qi i) (qi (kdO (t i))) n c0 q0 K N G V2 L2) P := by
          unfold f_X8_split_112
          refine zW_call (s_spoil (p := i) hg (by omega) h3 (by rw [hA2]; omega) h4) ?_
          rintro ⟨V3, L3⟩ ⟨rfl, h5, h6⟩
          dsimp only at h5 h6 ⊢
          rw [ex]
          refine hk (c + 1) V3 (hmk _ _ _ h5 h6 (fun j hj => ⟨?_, ?_⟩) ?_)
          · rw [up_n (by omega), up_n (by omega), up_n (by omega)]
          · rw [up_n (by omega), up_n (by omega), up_n (by omega)]
          · rw [up_c, up_c, w3 g, hA2, if_neg (by omega)]
        by_cases b3 : bfO t i = 3
        · exact zW_if1 (by rw [b3]; rfl) h112
        · refine zW_if0 (by rw [q_lit, q_eq (by omega) (by omega)]; exact b3) ?_
          have b2 : bfO t i = 2 := by
            rcases hgl.mp g with h | h
            · exact absurd h b3
            · exact h
          exact zW_if1 (by rw [b2]; rfl) h112
      · have b3 : bfO t i ≠ 3 := fun h => g (hgl.mpr (Or.inl h))
        have b2 : bfO t i ≠ 2 := fun h => g (hgl.mpr (Or.inr h))
        refine zW_if0 (by rw [q_lit, q_eq (by omega) (by omega)]; exact b3) (zW_if0 (by rw [q_lit, q_eq (by omega) (by omega)]; exact b2) ?_)
        rw [ex]
        refine hk (c + 1) V2 (hmk _ _ _ h3 h4 (fun j hj => ⟨?_, ?_⟩) ?_)
        · rw [up_n (by omega), up_n (by omega)]
        · rw [up_n (by omega), up_n (by omega)]
        · rw [up_c, up_c, w1]
          exact w2 g
    have h47 : zW (f_X8_split_47 kk y 1 (qi tl) (qi (bfO t i)) (qi i) (qi (t i)) (qi (kdO (t i))) n c0 q0 K N G V L) P := by
      unfold f_X8_split_47 f_X8_split_52
      exact zW_if0 (by decide) (zW_if0 (by rw [q_eq (by omega) (by omega)]; exact fun g => hne g.symm) h78)
    rcases hκ with k | k
    · exact zW_if0 (by rw [k]; decide) (zW_if1 (by rw [k]; rfl) h47)
    · exact zW_if1 (by rw [k]; rfl) h47
  · -- a blank
    rw [hb]
    refine zW_if0 (by decide) (zW_if0 (by decide) ?_)
    unfold f_X8_split_52
    refine zW_if1 (by rfl) ?_
    unfold f_X8_split_78
    refine zW_if1 (by rfl) (zW_if0 (by decide) ?_)
    rw [ex]
    rw [hb] at hk
    refine hk c V ⟨AR_e hAR (fun j hj => ?_), hAF, fun j hj => by have := hlt j hj; omega, by omega, by omega⟩
    obtain ⟨e1, e2⟩ := w_old (hold j hj)
    exact ⟨e1, e2, rfl⟩
  · -- a run goes on
    have hs := hlt c' (by omega)
    have h0 : kdO (t (bgT t tl c')) ≠ 0 := by omega
    have h1 : kdO (t (bgT t tl c')) ≠ 1 := by omega
    have hmin : min i (edP t tl c') - bgT t tl c' = i - bgT t tl c' := by omega
    have hmin' : min (i + 1) (edP t tl c') - bgT t tl c' = i - bgT t tl c' + 1 := by omega
    obtain ⟨t1, t2, t3⟩ := tw_b (m := i - bgT t tl c') h0 h1 hrun
    obtain ⟨s1, s2⟩ := tw_step (m := i - bgT t tl c') h0 h1
    rw [show bgT t tl c' + (i - bgT t tl c') = i by omega, hkd] at s2
    rw [hkd] at s1
    have h47 : zW (f_X8_split_47 kk y 1 (qi tl) (qi (bfO t i)) (qi i) (qi (t i)) (qi (kdO (t i))) n c0 q0 K N G V L) P := by
      unfold f_X8_split_47 f_X8_split_52
      refine zW_if0 (by decide) (zW_if1 (by rw [hbf]) ?_)
      refine zW_call (s_len (κ := kdO (t i)) (o := t i) hg (by omega) hκ hi rfl hAR (by show wA t tl i c' < 100; unfold wA; rw [hmin]; exact t1) (by omega) (fun g => ?_) (fun g => ?_) hAF) ?_
      · have g : wA t tl i c' = 3 := g
        unfold wA at g
        rw [hmin] at g
        obtain ⟨g1, g2, g3⟩ := t2 g
        refine ⟨by omega, g2, ?_⟩
        show wB t tl i c' < _
        unfold wB
        rw [hmin]
        exact g3
      · have g : wA t tl i c' = 2 := g
        unfold wA at g
        rw [hmin] at g
        obtain ⟨g1, g2⟩ := t3 g
        refine ⟨by omega, ?_⟩
        show wB t tl i c' < _
        unfold wB
        rw [hmin]
        exact g2
      rintro ⟨V1, L1⟩ ⟨rfl, h3, h4⟩
      dsimp only at h3 h4 ⊢
      rw [ex]
      refine hk (c' + 1) V1 ⟨AR_e h3 (fun j hj => ?_), h4, fun j hj => by have := hlt j hj; omega, by omega, by omega⟩
      by_cases e : j = c'
      · subst e
        rw [up_c, up_c]
        unfold wA wB
        rw [hmin', hmin, ← s1, ← s2]
        exact ⟨rfl, rfl, rfl⟩
      · rw [up_n e, up_n e]
        have h5 := st_ed' (t := t) (tl := tl) (show j < c' by omega)
        obtain ⟨e1, e2⟩ := w_old (t := t) (tl := tl) (i := i) (j := j) (by omega)
        exact ⟨e1, e2, rfl⟩
    rcases hκ with k | k
    · exact zW_if0 (by rw [k]; decide) (zW_if1 (by rw [k]; rfl) h47)
    · exact zW_if1 (by rw [k]; rfl) h47
theorem sp_all {P : zS → Prop} (hy : 28 ≤ y) (hg : AG y tl N G) (hN1 : N 1 = 1600) (hoc : ∀ j, j < tl → t j < 256) (ht : ∀ j, j < tl → V 1 j &&& 255 = qi (t j)) (h0 : V y 3 = qi 0) (hk : ∀ c V', bgT t tl c = tl → c ≤ tl → AR y c (fun j => (tkW t (bgT t tl j) (edP t tl j - bgT t tl j)).1) (fun j => (tkW t (bgT t tl j) (edP t tl j - bgT t tl j)).2) (bgT t tl) V' → (∀ j, j < c → bgT t tl j < tl) → AF y V V' → zW (f_X8_split_145 y (qi tl) n c0 q0 K N G V' L) P) : zW (zfix b_X8_split_5 FU (y, 1, qi tl, 0, 0, n, c0, q0, K, N, G, V, L)) P := by
  have htl := hg.2.2.2.2
  refine zW_lp (I := fun r z => ∃ (i c : Nat) (V' : zI), i ≤ tl ∧ r = tl - i ∧ z = (y, 1, qi tl, qi (bfO t i), qi i, n, c0, q0, K, N, G, V', L) ∧ SP t tl y V i c V') ?_ FU tl _ ⟨0, 0, V, Nat.zero_le _, rfl, rfl, ⟨h0, fun j hj => absurd hj (Nat.not_lt_zero _)⟩, ⟨fun _ _ _ _ _ => rfl, fun _ _ => rfl⟩, fun j hj => absurd hj (Nat.not_lt_zero _), Nat.zero_le _, Nat.le_refl _⟩ (FU_big (by omega))
  rintro kk r z ⟨i, c, V', hi, rfl, rfl, hsp⟩ ih
  by_cases e : i = tl
  · subst e
    have hb := st_le (t := t) (tl := i) c
    have hc : bgT t i c = i := by have := hsp.2.2.2.1; omega
    refine zW_if1 (by rw [q_le (by omega) (by omega)]; exact Nat.le_refl _) ?_
    refine hk c V' hc hsp.2.2.2.2 (AR_e hsp.1 (fun j hj => ?_)) hsp.2.2.1 hsp.2.1
    have hel := eT_le (t := t) (tl := i) (bgT t i j)
    have hmin : min i (edP t i j) = edP t i j := Nat.min_eq_right hel
    unfold wA wB
    rw [hmin]
    exact ⟨rfl, rfl, rfl⟩
  · exact sp_step hy hg hN1 (by omega) hoc ht hsp (fun c' V1 h1 => ih (tl - (i + 1)) _ (by omega) ⟨i + 1, c', V1, by omega, rfl, rfl, h1⟩)
end
