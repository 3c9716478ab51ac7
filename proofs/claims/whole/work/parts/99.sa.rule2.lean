section
variable {b k cd n0 n tn tl tw u p7 : Nat} {V V' R R' : zI} {L M M' : zL} {K N : Nat → Nat} {G : zG} {ed t w st : Nat → Nat} {tk : Nat → tkT} {C : List Nat} {U : aU}
theorem G_new {r x j : Nat} (hx : x ≠ n) (h : x ≠ n0 + 1 ∨ j ≠ 8 + r) : gS (kU G n zn0) (n0 + 1) (8 + r) (some n) x j = G x j := by
  unfold gS
  by_cases e : x = n0 + 1
  · rw [if_pos e]
    subst e
    rcases h with h | h
    · exact absurd rfl h
    · rw [if_neg h, kU_ne hx]
  · rw [if_neg e, kU_ne hx]
theorem tyE_0 {c : List Nat} {bo : Bool} (h : tyE c bo 0) : ∃ t1, tyL c ty0 = some (1, t1) ∧ t1 0 = bo := by
  obtain ⟨t', h1, h2, -⟩ := h 0 (fun _ => false) (Nat.le_refl _)
  exact ⟨t', h1, h2⟩
set_option maxHeartbeats 4000000 in
theorem s_rule {r : Nat} {z s0 : Int32} (hr : r < 3) (hz : z = qi r) (hs0 : s0 = qi (6 + r)) (hA : AH t tl ed tk tn) (hW : TW tk tn) (hn10 : n0 + 10 ≤ n) (h : ST n0 b tn tl t ed tk k cd U w st n N G V R M) (h0 : (tk k).1 ≠ 0) (hl : rulU U r = none) : zX (k_rl n0 s0 (8 + r) n 0 0 K N G V L) (f_reading z R M) (fun x x' => ∃ n' c' q' K' N' G' V' L', x = (n', c', q', K', N', G', V', L') ∧ S2 n0 b tn tl t ed tk k U n K N G V R M n' c' q' K' N' G' V' x'.1 x'.2) := by
  subst hz
  obtain ⟨C, hCl, hj⟩ := ST_JK h
  have hCV := h.1.1
  have hTV := h.1.2.2.1
  have hT := h.2.2.2.1.1
  have hun := h.1.2.1.1
  have hy5 := h.1.2.1.2.1
  have hn28 := h.1.2.1.2.2
  have hb2 := h.2.2.2.2.2.1
  have hcdk := h.2.2.2.2.2.2.1
  have hkt := hj.1.2.1
  have hk1 := hW.1 k hj.1.2.1 h0
  have htl := hCV.2.2.2
  have h25 : R 0 25 = qi cd := h.2.2.2.2.1.2.1
  obtain ⟨tw, ct, way, encl, lost, rul, nam⟩ := U
  obtain ⟨hCU, ⟨h26, h2b, h3b⟩, -⟩ := ST_CU h
  have hG8 : G (n0 + 1) (8 + r) = none := (h.1.2.2.2.1.2.2.2 r hr).1 hl
  have hR8 : R 8 (3 * b + r) = qm := (h.2.2.2.2.1.1.2.2.2 r hr).1 hl
  have hnr : nR (tw, ct, way, encl, lost, rul, nam) ≤ 2 := by
    unfold nR
    have g0 := b_le (rulU (tw, ct, way, encl, lost, rul, nam) 0).isSome
    have g1 := b_le (rulU (tw, ct, way, encl, lost, rul, nam) 1).isSome
    have g2 := b_le (rulU (tw, ct, way, encl, lost, rul, nam) 2).isSome
    have hr3 : r = 0 ∨ r = 1 ∨ r = 2 := by omega
    rcases hr3 with rfl | rfl | rfl
    · rw [hl]; show 0 + _ + _ ≤ 2; omega
    · rw [hl]; show _ + 0 + _ ≤ 2; omega
    · rw [hl]; show _ + _ + 0 ≤ 2; omega
  obtain ⟨⟨V1, L1⟩, e1, rfl, g1⟩ := k_take (L := L) hCV hTV hW hj.1 h0
  obtain ⟨⟨z, R1, M1⟩, f1, rfl, g1'⟩ := z_cnt0 hA hT hk1 hj.2
  dsimp only at g1 g1'
  have hF1 := g1'.1
  have e26 : R1 0 26 = qi b := (hF1.1 26 (by omega) (by omega) (by omega) (by omega) (by omega) (by omega) (by omega)).trans h26
  have e25 : R1 0 25 = qi cd := (hF1.1 25 (by omega) (by omega) (by omega) (by omega) (by omega) (by omega) (by omega)).trans h25
  -- the two programs
  have hcls : f_X5_readRule_n n0 s0 n K N G V L1 = ((if decide (r = 0) then f_X5_readTest_T N G n0 (z_uI (z_uI V1 n0 7 (qi 0)) n0 9 (qi (if r = 2 then 1 else 0))) L1 else f_X5_readSum_T N G n0 (z_uI (z_uI V1 n0 7 (qi 0)) n0 9 (qi (if r = 2 then 1 else 0))) L1).bind fun r3 => f_X5_readRule_n_57 n0 n 0 0 K N G r3.1 r3.2) := by
    unfold f_X5_readRule_n g_X5_readRule_n
    rw [e1, o_bind]
    have hr3 : r = 0 ∨ r = 1 ∨ r = 2 := by omega
    rcases hr3 with rfl | rfl | rfl
    · subst hs0
      rw [if_neg (by decide)]
      unfold f_X5_readRule_n_37
      rw [if_pos (by decide), if_pos (by rfl)]
      rfl
    · subst hs0
      rw [if_neg (by decide)]
      unfold f_X5_readRule_n_37
      rw [if_pos (by decide), if_neg (by decide)]
      rfl
    · subst hs0
      rw [if_pos (by rfl)]
      unfold f_X5_readRule_n_37
      rw [if_pos (by decide), if_neg (by decide)]
      rfl
  have e3 : (3 : Int32) * R 0 26 + qi r = qi (3 * b + r) := by rw [h26, q_lit, q_mul, q_add]
  have hx25 : z_uI R1 0 27 (qi (if r = 2 then 1 else 0)) 0 25 = qi cd := by rw [z_neK (by omega)]; exact e25
  have hRX8 : ∀ y : Int32, z_uI (z_uI R1 0 27 y) 8 (3 * b + r) (qi cd) 0 8 = qi 0 := fun y => by rw [z_neP (by omega), z_neK (by omega)]; exact g1'.2.1.1
  have href : f_reading (qi r) R M = ((f_reads_38 (if decide (r = 0) then 1 else 0) (z_uI (z_uI (z_uI (z_uI (z_uI (z_uI R1 0 27 (qi (if r = 2 then 1 else 0))) 8 (3 * b + r) (qi cd)) 0 33 (qi 0)) 0 34 (qi 0)) 0 36 (qi 0)) 0 37 (qi 0)) M1).bind fun r1 => some (z_uI r1.1 9 (3 * b + r) (r1.1 0 25), r1.2)) := by
    unfold f_reading
    rw [e3, if_pos (show inB (qi (3 * b + r)) 6 from q_inP (by omega) (by omega)), q_nn (by omega), if_pos (show R 8 (3 * b + r) = -1 from hR8)]
    unfold f_reading_25
    rw [f1, o_bind, if_neg (show ¬ (1 : Int32) = 0 by decide)]
    have hin : inB (qi (3 * b + r)) 6 := q_inP (by omega) (by omega)
    have hnn := q_nn (a := 3 * b + r) (by omega)
    have hr3 : r = 0 ∨ r = 1 ∨ r = 2 := by omega
    rcases hr3 with rfl | rfl | rfl
    · rw [if_neg (by decide)]
      unfold f_reading_43
      rw [if_pos (by decide), if_pos hin, if_pos (by rfl), show (0 : Int32) = qi (if 0 = 2 then 1 else 0) from rfl, hx25, hnn]
      unfold f_reading_66 f_reads
      rw [if_pos (show z_uI (z_uI R1 0 27 (qi (if 0 = 2 then 1 else 0))) 8 (3 * b + 0) (qi cd) 0 8 ≤ 0 by rw [hRX8]; exact le00), if_neg (by decide)]
      simp only [if_pos hin, hnn]
      rfl
    · rw [if_neg (by decide)]
      unfold f_reading_43
      rw [if_pos (by decide), if_pos hin, if_neg (by decide), show (0 : Int32) = qi (if 1 = 2 then 1 else 0) from rfl, hx25, hnn]
      unfold f_reading_66 f_reads
      rw [if_pos (show z_uI (z_uI R1 0 27 (qi (if 1 = 2 then 1 else 0))) 8 (3 * b + 1) (qi cd) 0 8 ≤ 0 by rw [hRX8]; exact le00), if_pos (by rfl)]
      simp only [if_pos hin, hnn]
      rfl
    · rw [if_pos (by rfl)]
      unfold f_reading_43
      rw [if_pos (by decide), if_pos hin, if_neg (by decide), show (1 : Int32) = qi (if 2 = 2 then 1 else 0) from rfl, hx25, hnn]
      unfold f_reading_66 f_reads
      rw [if_pos (show z_uI (z_uI R1 0 27 (qi (if 2 = 2 then 1 else 0))) 8 (3 * b + 2) (qi cd) 0 8 ≤ 0 by rw [hRX8]; exact le00), if_pos (by rfl)]
      simp only [if_pos hin, hnn]
      rfl
  unfold k_rl
  rw [hy5, o_bind, o_bind, hG8]
  show zX ((f_X5_readRule_n n0 s0 n K N G V L1).bind _) _ _
  rw [hcls, href]
  sorry
end
