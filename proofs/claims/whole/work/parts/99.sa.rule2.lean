section
variable {b k cd n0 n tn tl tw u p7 : Nat} {V V' R R' : zI} {L M M' : zL} {K N : Nat → Nat} {G : zG} {ed t w st : Nat → Nat} {tk : Nat → tkT} {C : List Nat} {U : aU}
theorem G_new {r x j : Nat} (hx : x ≠ n) (h : x ≠ n0 + 1 ∨ j ≠ 8 + r) : gS (kU G n zn0) (n0 + 1) (8 + r) (some n) x j = G x j := by
  unfold gS
  by_cases e : x = n0 + 1
  · rw [if_pos e]
    subst e
    rcases h with h | h
    · exact absurd rfl h
    · rw [if_neg h, kU_ne hx]
  · rw [if_neg e, kU_ne hx]
theorem tyE_0 {c : List Nat} {bo : Bool} (h : tyE c bo 0) : ∃ t1, tyL c ty0 = some (1, t1) ∧ t1 0 = bo := by
  obtain ⟨t', h1, h2, -⟩ := h 0 (fun _ => false) (Nat.le_refl _)
  exact ⟨t', h1, h2⟩
set_option maxHeartbeats 4000000 in
theorem s_rule {r : Nat} {z s0 : Int32} (hr : r < 3) (hz : z = qi r) (hs0 : s0 = qi (6 + r)) (hA : AH t tl ed tk tn) (hW : TW tk tn) (hn10 : n0 + 10 ≤ n) (h : ST n0 b tn tl t ed tk k cd U w st n N G V R M) (h0 : (tk k).1 ≠ 0) (hl : rulU U r = none) : zX (k_rl n0 s0 (8 + r) n 0 0 K N G V L) (f_reading z R M) (fun x x' => ∃ n' c' q' K' N' G' V' L', x = (n', c', q', K', N', G', V', L') ∧ S2 n0 b tn tl t ed tk k U n K N G V R M n' c' q' K' N' G' V' x'.1 x'.2) := by
  subst hz
  obtain ⟨C, hCl, hj⟩ := ST_JK h
  have hCV := h.1.1
  have hTV := h.1.2.2.1
  have hT := h.2.2.2.1.1
  have hun := h.1.2.1.1
  have hy5 := h.1.2.1.2.1
  have hn28 := h.1.2.1.2.2
  have hb2 := h.2.2.2.2.2.1
  have hcdk := h.2.2.2.2.2.2.1
  have hkt := hj.1.2.1
  have hk1 := hW.1 k hj.1.2.1 h0
  have htl := hCV.2.2.2
  have h25 : R 0 25 = qi cd := h.2.2.2.2.1.2.1
  obtain ⟨tw, ct, way, encl, lost, rul, nam⟩ := U
  obtain ⟨hCU, ⟨h26, h2b, h3b⟩, -⟩ := ST_CU h
  have hG8 : G (n0 + 1) (8 + r) = none := (h.1.2.2.2.1.2.2.2 r hr).1 hl
  have hR8 : R 8 (3 * b + r) = qm := (h.2.2.2.2.1.1.2.2.2 r hr).1 hl
  have hnr : nR (tw, ct, way, encl, lost, rul, nam) ≤ 2 := by
    unfold nR
    have g0 := b_le (rulU (tw, ct, way, encl, lost, rul, nam) 0).isSome
    have g1 := b_le (rulU (tw, ct, way, encl, lost, rul, nam) 1).isSome
    have g2 := b_le (rulU (tw, ct, way, encl, lost, rul, nam) 2).isSome
    have hr3 : r = 0 ∨ r = 1 ∨ r = 2 := by omega
    rcases hr3 with rfl | rfl | rfl
    · rw [hl]; show 0 + _ + _ ≤ 2; omega
    · rw [hl]; show _ + 0 + _ ≤ 2; omega
    · rw [hl]; show _ + _ + 0 ≤ 2; omega
  obtain ⟨⟨V1, L1⟩, e1, rfl, g1⟩ := k_take (L := L) hCV hTV hW hj.1 h0
  obtain ⟨⟨z, R1, M1⟩, f1, rfl, g1'⟩ := z_cnt0 hA hT hk1 hj.2
  dsimp only at g1 g1'
  have hF1 := g1'.1
  have e26 : R1 0 26 = qi b := (hF1.1 26 (by omega) (by omega) (by omega) (by omega) (by omega) (by omega) (by omega)).trans h26
  have e25 : R1 0 25 = qi cd := (hF1.1 25 (by omega) (by omega) (by omega) (by omega) (by omega) (by omega) (by omega)).trans h25
  -- the two programs
  have hcls : f_X5_readRule_n n0 s0 n K N G V L1 = ((if decide (r = 0) then f_X5_readTest_T N G n0 (z_uI (z_uI V1 n0 7 (qi 0)) n0 9 (qi (if r = 2 then 1 else 0))) L1 else f_X5_readSum_T N G n0 (z_uI (z_uI V1 n0 7 (qi 0)) n0 9 (qi (if r = 2 then 1 else 0))) L1).bind fun r3 => f_X5_readRule_n_57 n0 n 0 0 K N G r3.1 r3.2) := by
    unfold f_X5_readRule_n g_X5_readRule_n
    rw [e1, o_bind]
    have hr3 : r = 0 ∨ r = 1 ∨ r = 2 := by omega
    rcases hr3 with rfl | rfl | rfl
    · subst hs0
      rw [if_neg (by decide)]
      unfold f_X5_readRule_n_37
      rw [if_pos (by decide), if_pos (by rfl)]
      rfl
    · subst hs0
      rw [if_neg (by decide)]
      unfold f_X5_readRule_n_37
      rw [if_pos (by decide), if_neg (by decide)]
      rfl
    · subst hs0
      rw [if_pos (by rfl)]
      unfold f_X5_readRule_n_37
      rw [if_pos (by decide), if_neg (by decide)]
      rfl
  have e3 : (3 : Int32) * R 0 26 + qi r = qi (3 * b + r) := by rw [h26, q_lit, q_mul, q_add]
  have hx25 : z_uI R1 0 27 (qi (if r = 2 then 1 else 0)) 0 25 = qi cd := by rw [z_neK (by omega)]; exact e25
  have hRX8 : ∀ y : Int32, z_uI (z_uI R1 0 27 y) 8 (3 * b + r) (qi cd) 0 8 = qi 0 := fun y => by rw [z_neP (by omega), z_neK (by omega)]; exact g1'.2.1.1
  have href : f_reading (qi r) R M = ((f_reads_38 (if decide (r = 0) then 1 else 0) (z_uI (z_uI (z_uI (z_uI (z_uI (z_uI R1 0 27 (qi (if r = 2 then 1 else 0))) 8 (3 * b + r) (qi cd)) 0 33 (qi 0)) 0 34 (qi 0)) 0 36 (qi 0)) 0 37 (qi 0)) M1).bind fun r1 => some (z_uI r1.1 9 (3 * b + r) (r1.1 0 25), r1.2)) := by
    unfold f_reading
    rw [e3, if_pos (show inB (qi (3 * b + r)) 6 from q_inP (by omega) (by omega)), q_nn (by omega), if_pos (show R 8 (3 * b + r) = -1 from hR8)]
    unfold f_reading_25
    rw [f1, o_bind, if_neg (show ¬ (1 : Int32) = 0 by decide)]
    have hin : inB (qi (3 * b + r)) 6 := q_inP (by omega) (by omega)
    have hnn := q_nn (a := 3 * b + r) (by omega)
    have hr3 : r = 0 ∨ r = 1 ∨ r = 2 := by omega
    rcases hr3 with rfl | rfl | rfl
    · rw [if_neg (by decide)]
      unfold f_reading_43
      rw [if_pos (by decide), if_pos hin, if_pos (by rfl), show (0 : Int32) = qi (if 0 = 2 then 1 else 0) from rfl, hx25, hnn]
      unfold f_reading_66 f_reads
      rw [if_pos (show z_uI (z_uI R1 0 27 (qi (if 0 = 2 then 1 else 0))) 8 (3 * b + 0) (qi cd) 0 8 ≤ 0 by rw [hRX8]; exact le00), if_neg (by decide)]
      simp only [if_pos hin, hnn]
      rfl
    · rw [if_neg (by decide)]
      unfold f_reading_43
      rw [if_pos (by decide), if_pos hin, if_neg (by decide), show (0 : Int32) = qi (if 1 = 2 then 1 else 0) from rfl, hx25, hnn]
      unfold f_reading_66 f_reads
      rw [if_pos (show z_uI (z_uI R1 0 27 (qi (if 1 = 2 then 1 else 0))) 8 (3 * b + 1) (qi cd) 0 8 ≤ 0 by rw [hRX8]; exact le00), if_pos (by rfl)]
      simp only [if_pos hin, hnn]
      rfl
    · rw [if_pos (by rfl)]
      unfold f_reading_43
      rw [if_pos (by decide), if_pos hin, if_neg (by decide), show (1 : Int32) = qi (if 2 = 2 then 1 else 0) from rfl, hx25, hnn]
      unfold f_reading_66 f_reads
      rw [if_pos (show z_uI (z_uI R1 0 27 (qi (if 2 = 2 then 1 else 0))) 8 (3 * b + 2) (qi cd) 0 8 ≤ 0 by rw [hRX8]; exact le00), if_pos (by rfl)]
      simp only [if_pos hin, hnn]
      rfl
  unfold k_rl
  rw [hy5, o_bind, o_bind, hG8]
  show zX ((f_X5_readRule_n n0 s0 n K N G V L1).bind _) _ _
  rw [hcls, href]
  obtain ⟨V2, hV2⟩ : ∃ V2, V2 = z_uI (z_uI V1 n0 7 (qi 0)) n0 9 (qi (if r = 2 then 1 else 0)) := ⟨_, rfl⟩
  obtain ⟨RX, hRX⟩ : ∃ RX, RX = z_uI (z_uI R1 0 27 (qi (if r = 2 then 1 else 0))) 8 (3 * b + r) (qi cd) := ⟨_, rfl⟩
  rw [← hV2, ← hRX]
  have v2x : ∀ x, x ≠ n0 → V2 x = V1 x := fun x hx => by rw [hV2, z_neP hx, z_neP hx]
  have v2j : ∀ j, j ≠ 7 → j ≠ 9 → V2 n0 j = V1 n0 j := fun j j1 j2 => by rw [hV2, z_neK j2, z_neK j1]
  have v27 : V2 n0 7 = qi 0 := by rw [hV2, z_neK (by omega), z_same]
  have v29 : V2 n0 9 = qi (if r = 2 then 1 else 0) := by rw [hV2, z_same]
  have v1x : ∀ x, x ≠ n0 → x ≠ n0 + 9 → V1 x = V x := fun x h1 h2 => g1.1.1 x h1 h2
  have hTV2 : TV V2 (n0 + 5) (n0 + 6) (n0 + 7) (n0 + 8) tn tk := by
    obtain ⟨t1, t2⟩ := hTV
    refine ⟨?_, ?_⟩
    · rw [v2x _ (by omega), v1x _ (by omega) (by omega)]; exact t1
    · rw [v2x _ (by omega), v1x _ (by omega) (by omega), v2x _ (by omega), v1x _ (by omega) (by omega), v2x _ (by omega), v1x _ (by omega) (by omega)]; exact t2
  have hCS2 : CS n0 (n0 + 9) V2 tk tn (k + 1) [] 0 V2 := by
    obtain ⟨-, q2, ⟨q3, q4, q5, q6⟩, ⟨q7, q8, q9, q10⟩, -⟩ := g1
    refine ⟨CF_r, q2, ⟨?_, ?_, ?_, ?_⟩, ⟨v27, ?_, ?_, ?_⟩, fun j hj => absurd hj (Nat.not_lt_zero _)⟩
    · rw [v2j 1 (by omega) (by omega)]; exact q3
    · rw [v2j 2 (by omega) (by omega)]; exact q4
    · rw [v2j 3 (by omega) (by omega)]; exact q5
    · rw [v2j 4 (by omega) (by omega)]; exact q6
    · rw [v2j 8 (by omega) (by omega)]; exact q8
    · rw [v2j 10 (by omega) (by omega)]; exact q9
    · rw [v2j 11 (by omega) (by omega)]; exact q10
  have rx0 : ∀ j, j ≠ 27 → RX 0 j = R1 0 j := fun j hj => by rw [hRX, z_neP (by omega), z_neK hj]
  have rxw : ∀ x, x ≠ 0 → x ≠ 8 → RX x = R1 x := fun x h1 h2 => by rw [hRX, z_neP h2, z_neP h1]
  have rx8 : RX 8 (3 * b + r) = qi cd := by rw [hRX, z_same]
  have rx8' : ∀ j, j ≠ 3 * b + r → RX 8 j = R1 8 j := fun j hj => by rw [hRX, z_neK hj, z_neP (by omega)]
  have rx27 : RX 0 27 = qi (if r = 2 then 1 else 0) := by rw [hRX, z_neP (by omega), z_same]
  have htpX : tpR RX t tl := by
    unfold tpR
    rw [rx0 2 (by omega), rxw 1 (by omega) (by omega), hF1.1 2 (by omega) (by omega) (by omega) (by omega) (by omega) (by omega) (by omega), hF1.2.1 1 (by omega)]
    exact hT
  have hEV : EV b (if r = 2 then 1 else 0) RX t tl := ⟨hb2, htpX, by rw [rx0 26 (by omega)]; exact e26, rx27⟩
  have hRS : RS b cd RX M1 ed tk (k + 1) [] [] 0 0 [] (z_uI (z_uI (z_uI (z_uI RX 0 33 (qi 0)) 0 34 (qi 0)) 0 36 (qi 0)) 0 37 (qi 0)) M1 := by
    have ry0 : ∀ j, j ≠ 33 → j ≠ 34 → j ≠ 36 → j ≠ 37 → z_uI (z_uI (z_uI (z_uI RX 0 33 (qi 0)) 0 34 (qi 0)) 0 36 (qi 0)) 0 37 (qi 0) 0 j = RX 0 j := fun j j1 j2 j3 j4 => by rw [z_neK j4, z_neK j3, z_neK j2, z_neK j1]
    have ryw : ∀ x, x ≠ 0 → z_uI (z_uI (z_uI (z_uI RX 0 33 (qi 0)) 0 34 (qi 0)) 0 36 (qi 0)) 0 37 (qi 0) x = RX x := fun x hx => by rw [z_neP hx, z_neP hx, z_neP hx, z_neP hx]
    refine ⟨⟨fun j j3 j4 j5 j6 j8 j9 j12 j25 j33 j34 j36 j37 => ry0 j j33 j34 j36 j37, fun j _ => ⟨by rw [ryw 10 (by omega)], by rw [ryw 11 (by omega)]⟩, fun x x0 _ _ _ => ryw x x0, fun _ _ => rfl, fun _ _ => rfl⟩, ⟨?_, ?_⟩, ⟨?_, ?_, ?_, ?_, ?_, ?_, z_same⟩, fun j hj => absurd hj (Nat.not_lt_zero _), trivial, trivial⟩
    · rw [ry0 5 (by omega) (by omega) (by omega) (by omega), rx0 5 (by omega)]; exact g1'.2.2.1
    · exact tkR_fr g1'.2.2.2 (by rw [ry0 3 (by omega) (by omega) (by omega) (by omega), rx0 3 (by omega)]) (by rw [ry0 4 (by omega) (by omega) (by omega) (by omega), rx0 4 (by omega)]) (by rw [ry0 6 (by omega) (by omega) (by omega) (by omega), rx0 6 (by omega)]) (by rw [ry0 12 (by omega) (by omega) (by omega) (by omega), rx0 12 (by omega)]) rfl
    · rw [ry0 8 (by omega) (by omega) (by omega) (by omega), rx0 8 (by omega)]; exact g1'.2.1.1
    · rw [ry0 9 (by omega) (by omega) (by omega) (by omega), rx0 9 (by omega)]; exact g1'.2.1.2
    · rw [ry0 25 (by omega) (by omega) (by omega) (by omega), rx0 25 (by omega)]; exact e25
    · rw [z_neK (by omega), z_neK (by omega), z_neK (by omega), z_same]; rfl
    · rw [z_neK (by omega), z_neK (by omega), z_same]
    · rw [z_neK (by omega), z_same]; rfl
  obtain ⟨⟨V4, L4⟩, ⟨R4, M4⟩, ex, ex', el, hRO⟩ := x_rule (tst' := decide (r = 0)) (L := L1) hA hEV hCV hTV2 hW v29 (by split <;> omega) hCS2 hRS (by omega)
  dsimp only at el hRO
  subst el
  rw [ex, ex', o_bind, o_bind]
  have hcl : ∃ cl, V4 n0 7 = qi cl ∧ cl < tl := by
    rcases hRO with ⟨k', c, q1, q2, -⟩ | ⟨k', f, pl, cc, q1, q2, -, q4⟩
    · exact ⟨c.length, q2.2.2.2.1.1, by have := q2.2.1; omega⟩
    · exact ⟨cc, q2.2.2.1.2.2.2.1, by have := q2.2.1; omega⟩
  obtain ⟨cl, hcl, hcl'⟩ := hcl
  obtain ⟨V5, ec, hv5, hv5n⟩ := k_copy (n := n) (K := K) (N := N) (G := G) (V := V4) (L := L4) (pc := n0 + 9) (cl := cl) (by omega) hCV.2.1.2.2.2 hcl' htl.1
  unfold f_X5_readRule_n_57
  rw [hCV.1.2.2.2.2, o_bind]
  dsimp only
  rw [hcl, ec, o_bind]
  unfold f_X5_readRule_n_68
  rw [o_bind]
  dsimp only
  have hCF4 : CF n0 (n0 + 9) V2 V4 := by
    rcases hRO with ⟨k', c, q1, q2, -⟩ | ⟨k', f, pl, cc, q1, q2, -, q4⟩
    · exact q2.1
    · exact q2.1
  have hRF4 : RF b cd RX M1 R4 M4 := by
    rcases hRO with ⟨k', c, q1, q2, q3, q4⟩ | ⟨k', f, pl, cc, q1, q2, q3, q4⟩
    · rcases q4 with ⟨-, F, q4⟩ | ⟨-, q4⟩
      · exact q4.1
      · exact q4.1
    · exact q3.1
  have v5x : ∀ x, x ≠ n → x ≠ n0 → x ≠ n0 + 9 → V5 x = V x := fun x h1 h2 h3 => by rw [hv5 x h1, hCF4.1 x h2 h3, v2x x h2, v1x x h2 h3]
  have hq : RQ b R M (z_uI R4 9 (3 * b + r) (R4 0 25)) M4 := by
    refine RQ_t (RQ_Z hF1) (RQ_t ?_ (RQ_t (RQ_F hRF4) (RQ_9 hr)))
    rw [hRX]
    exact RQ_8 hr
  have hCV' : CV (kU N n cl) (gS (kU G n zn0) (n0 + 1) (8 + r) (some n)) n0 (n0 + 5) (n0 + 6) (n0 + 7) (n0 + 8) (n0 + 9) tn tl := by
    obtain ⟨⟨c1, c2, c3, c4, c5⟩, ⟨c6, c7, c8, c9⟩, c10, c11⟩ := hCV
    refine ⟨⟨?_, ?_, ?_, ?_, ?_⟩, ⟨?_, ?_, ?_, ?_⟩, c10, c11⟩
    · rw [G_new (by omega) (by omega)]; exact c1
    · rw [G_new (by omega) (by omega)]; exact c2
    · rw [G_new (by omega) (by omega)]; exact c3
    · rw [G_new (by omega) (by omega)]; exact c4
    · rw [G_new (by omega) (by omega)]; exact c5
    · rw [kU_ne (by omega)]; exact c6
    · rw [kU_ne (by omega)]; exact c7
    · rw [kU_ne (by omega)]; exact c8
    · rw [kU_ne (by omega)]; exact c9
  have hTV5 : TV V5 (n0 + 5) (n0 + 6) (n0 + 7) (n0 + 8) tn tk := by
    obtain ⟨t1, t2⟩ := hTV
    refine ⟨?_, ?_⟩
    · rw [v5x _ (by omega) (by omega) (by omega)]; exact t1
    · rw [v5x _ (by omega) (by omega) (by omega), v5x _ (by omega) (by omega) (by omega), v5x _ (by omega) (by omega) (by omega)]; exact t2
  refine zX_some ⟨_, _, _, _, _, _, _, _, rfl, fun x hx => ⟨kU_ne (by omega), kU_ne (by omega), by funext j; exact G_new (by omega) (by omega), v5x x (by omega) (by omega) (by omega)⟩, ⟨hq, by rw [v5x _ (by omega) (by omega) (by omega)], by rw [G_new (by omega) (by omega)]; exact hy5, by omega⟩, ?_⟩
  have r9x : ∀ x, x ≠ 9 → z_uI R4 9 (3 * b + r) (R4 0 25) x = R4 x := fun x hx => z_neP hx
  rcases hRO with ⟨k', c, q1, q2, q3, q4⟩ | ⟨k', f, pl, cc, q1, q2, q3, q4⟩
  case inr =>
    refine Or.inr ⟨Or.inr ⟨f, pl, k', cc, CE_x q2 (hv5 _ (by omega)), ?_, ?_⟩, by omega, by omega⟩
    · dsimp only; rw [r9x 0 (by omega)]; exact q3.2.1
    · dsimp only; rw [r9x 0 (by omega)]; exact q3.2.2.1
  have hcs5 : CS n0 (n0 + 9) V5 tk tn k' c 0 V5 := CS_x q2 (hv5 _ (by omega)) (hv5 _ (by omega))
  have hk' := q2.2.1
  rcases q4 with ⟨h5, F, q4⟩ | ⟨h5, q4⟩
  case inr =>
    refine Or.inr ⟨Or.inl ⟨k', c, hCV', hTV5, hcs5, by omega, h5, ?_, ?_⟩, by omega, by omega⟩
    · dsimp only; rw [r9x 0 (by omega)]; exact q4.2.1
    · dsimp only; rw [r9x 0 (by omega)]; exact q4.2.2.1
  have hclc : cl = c.length := by
    have := q2.2.2.2.1.1
    rw [hcl] at this
    exact (q_eq (by omega) (by omega)).mp this
  subst hclc
  obtain ⟨⟨a1, a2, a3, ⟨c1, c2, c3, c4⟩, a6⟩, -, ⟨⟨u1, u2, u3, u4, u5⟩, v1, v2, v3, v4⟩, -, ⟨⟨d1, d2, d3, d4⟩, d5, d6⟩, d7, d8, d9⟩ := id h
  obtain ⟨s1, ⟨s2, s3⟩, ⟨s4, s5, s6, s7, s8, s9, s10⟩, s11, s12, s13⟩ := id q4
  have r4w : ∀ x, x ≠ 0 → x ≠ 8 → x ≠ 10 → x ≠ 11 → (x < 13 ∨ 18 < x) → R4 x = R x := fun x h1 h2 h3 h4 h5 => by rw [s1.2.2.1 x h1 h3 h4 h5, rxw x h1 h2, hF1.2.1 x h1]
  have r48 : ∀ j, j ≠ 3 * b + r → R4 8 j = R 8 j := fun j hj => by rw [s1.2.2.1 8 (by omega) (by omega) (by omega) (by omega), rx8' j hj, hF1.2.1 8 (by omega)]
  have r48r : R4 8 (3 * b + r) = qi cd := by rw [s1.2.2.1 8 (by omega) (by omega) (by omega) (by omega)]; exact rx8
  have r410 : ∀ j, j < 1600 * b + cd → R4 10 j = R 10 j ∧ R4 11 j = R 11 j := fun j hj => by
    have := s1.2.1 j (Or.inl hj)
    rw [this.1, this.2, rxw 10 (by omega) (by omega), rxw 11 (by omega) (by omega), hF1.2.1 10 (by omega), hF1.2.1 11 (by omega)]
    exact ⟨rfl, rfl⟩
  have r426 : R4 0 26 = qi b := (RS_26 hEV q4).1
  have m412 : M4 12 = M 12 := by rw [s1.2.2.2.2 12 (by omega), hF1.2.2.2 12 (by omega)]
  have hrules : ∀ i l, i < 3 → (if i = r then some c else rul i) = some l → ∃ fr, z_uI R4 9 (3 * b + r) (R4 0 25) 8 (3 * b + i) = qi fr ∧ z_uI R4 9 (3 * b + r) (R4 0 25) 9 (3 * b + i) = qi (fr + l.length) ∧ fr + l.length ≤ cd + c.length ∧ ∀ j, j < l.length → z_uI R4 9 (3 * b + r) (R4 0 25) 10 (1600 * b + fr + j) = qi (rsOf (l.getD j 0)) ∧ (100 ≤ l.getD j 0 → z_uI R4 9 (3 * b + r) (R4 0 25) 11 (1600 * b + fr + j) = qi (l.getD j 0 - 100)) := fun i l hi hil => by
    rw [r9x 8 (by omega), r9x 10 (by omega), r9x 11 (by omega)]
    by_cases e : i = r
    · subst e
      rw [if_pos rfl] at hil
      cases hil
      refine ⟨cd, r48r, by rw [z_same]; exact s6, Nat.le_refl _, s11⟩
    · rw [if_neg e] at hil
      obtain ⟨fr, f1, f2, f3, f4⟩ := d6 i l hi hil
      refine ⟨fr, by rw [r48 _ (by omega)]; exact f1, ?_, by omega, fun j hj => ?_⟩
      · rw [z_neK (by omega), r4w 9 (by omega) (by omega) (by omega) (by omega) (by omega)]; exact f2
      · rw [(r410 (1600 * b + fr + j) (by omega)).1, (r410 (1600 * b + fr + j) (by omega)).2]
        exact f4 j hj
  refine Or.inl ⟨k', cd + c.length, (tw, ct, way, encl, lost, fun i => if i = r then some c else rul i, nam), w, st, by omega, ⟨⟨hCV', ⟨⟨Or.inr (by omega), ⟨?_, ?_, ?_⟩, ?_, ?_, ?_⟩, by rw [G_new (by omega) (by omega)]; exact hy5, hn28⟩, hTV5, ⟨?_, ?_, ?_, fun i hi => ⟨fun hil => ?_, fun l hil => ?_⟩⟩, fun i p hi hp => ?_⟩, ⟨c, hcs5, by omega⟩, ⟨⟨u1, u2, u3, u4, u5⟩, v1, v2, fun i l hi hil => ?_, v4⟩, ⟨?_, ⟨?_, ?_⟩, ?_, ?_⟩, ⟨⟨⟨hb2, ?_, ?_, ?_, ?_, ?_⟩, ⟨?_, ?_⟩, ?_, fun i hi => ⟨fun hil => ?_, fun l hil => ?_⟩⟩, ?_, hrules⟩, hb2, by omega, fun i p hi hp => ?_⟩, ?_, ?_⟩
  · rw [G_new (by omega) (by omega)]; exact hun.2.1.1
  · rw [G_new (by omega) (by omega)]; exact hun.2.1.2.1
  · rw [G_new (by omega) (by omega)]; exact hun.2.1.2.2
  · rw [kU_ne (by omega)]; exact hun.2.2.1
  · rw [kU_ne (by omega)]; exact hun.2.2.2.1
  · rw [kU_ne (by omega)]; exact hun.2.2.2.2
  · rw [v5x _ (by omega) (by omega) (by omega)]; exact c1
  · rw [v5x _ (by omega) (by omega) (by omega)]; exact c2
  · rw [v5x _ (by omega) (by omega) (by omega), v5x _ (by omega) (by omega) (by omega)]; exact c3
  · dsimp only at hil
    have e : i ≠ r := fun e => by rw [if_pos e] at hil; cases hil
    rw [if_neg e] at hil
    rw [G_new (by omega) (Or.inr (by omega))]
    exact (c4 i hi).1 hil
  · dsimp only at hil
    by_cases e : i = r
    · subst e
      rw [if_pos rfl] at hil
      cases hil
      refine ⟨n, gS_same, by omega, kU_same, fun j hj => ?_⟩
      rw [hv5n j hj]
      exact q2.2.2.2.2 j hj
    · rw [if_neg e] at hil
      obtain ⟨p, p1, p2, p3, p4⟩ := (c4 i hi).2 l hil
      have hp10 := a6 i p hi p1
      have hpn := d9 i p hi p1
      refine ⟨p, by rw [G_new (by omega) (Or.inr (by omega))]; exact p1, p2, by rw [kU_ne (by omega)]; exact p3, ?_⟩
      rw [v5x _ (by omega) (by omega) (by omega)]
      exact p4
  · by_cases e : i = r
    · subst e
      rw [gS_same] at hp
      cases hp
      omega
    · rw [G_new (by omega) (Or.inr (by omega))] at hp
      exact a6 i p hi hp
  · dsimp only at hil
    by_cases e : i = r
    · subst e
      rw [if_pos rfl] at hil
      cases hil
      refine ⟨by omega, ?_⟩
      obtain ⟨t1, t2, t3⟩ := tyE_0 q3
      exact ⟨t1, t2, t3⟩
    · rw [if_neg e] at hil
      exact v3 i l hi hil
  · dsimp only
    unfold tpR
    rw [r9x 0 (by omega), r9x 1 (by omega)]
    exact RF_tp s1 htpX
  · dsimp only; rw [r9x 0 (by omega)]; exact s4
  · dsimp only; rw [r9x 0 (by omega)]; exact s5
  · dsimp only; rw [r9x 0 (by omega)]; exact s2
  · exact tkR_fr s3 (by dsimp only; rw [r9x 0 (by omega)]) (by dsimp only; rw [r9x 0 (by omega)]) (by dsimp only; rw [r9x 0 (by omega)]) (by dsimp only; rw [r9x 0 (by omega)]) rfl
  · dsimp only; rw [r9x 0 (by omega)]; exact r426
  · dsimp only; rw [r9x 2 (by omega), r4w 2 (by omega) (by omega) (by omega) (by omega) (by omega)]; exact d1.2.2.1
  · dsimp only; rw [r9x 3 (by omega), r4w 3 (by omega) (by omega) (by omega) (by omega) (by omega)]; exact d1.2.2.2.1
  · dsimp only; rw [r9x 7 (by omega), r4w 7 (by omega) (by omega) (by omega) (by omega) (by omega)]; exact d1.2.2.2.2.1
  · dsimp only; rw [r9x 7 (by omega), r4w 7 (by omega) (by omega) (by omega) (by omega) (by omega)]; exact d1.2.2.2.2.2
  · dsimp only; rw [r9x 4 (by omega), r4w 4 (by omega) (by omega) (by omega) (by omega) (by omega)]; exact d2.1
  · dsimp only; rw [r9x 6 (by omega), r4w 6 (by omega) (by omega) (by omega) (by omega) (by omega)]; exact d2.2
  · dsimp only; rw [m412]; exact d3
  · dsimp only at hil ⊢
    have e : i ≠ r := fun e => by rw [if_pos e] at hil; cases hil
    rw [if_neg e] at hil
    rw [r9x 8 (by omega), r48 _ (by omega)]
    exact (d4 i hi).1 hil
  · obtain ⟨fr, f1, f2, f3, f4⟩ := hrules i l hi hil
    exact ⟨fr, f1, f2, by omega, f4⟩
  · dsimp only; rw [r9x 0 (by omega)]; exact s6
  · by_cases e : i = r
    · subst e
      rw [gS_same] at hp
      cases hp
      omega
    · rw [G_new (by omega) (Or.inr (by omega))] at hp
      have := d9 i p hi hp
      omega
  · have hr3 : r = 0 ∨ r = 1 ∨ r = 2 := by omega
    rcases hr3 with rfl | rfl | rfl
    · show 0 + (0 + 1) + ((rul 0).isSome.toNat + (rul 1).isSome.toNat + (rul 2).isSome.toNat) ≤ 1 + (rul 1).isSome.toNat + (rul 2).isSome.toNat
      have hl : rul 0 = none := hl
      rw [hl]; show 0 + (0 + 1) + (0 + _ + _) ≤ _; omega
    · show 0 + (0 + 1) + ((rul 0).isSome.toNat + (rul 1).isSome.toNat + (rul 2).isSome.toNat) ≤ (rul 0).isSome.toNat + 1 + (rul 2).isSome.toNat
      have hl : rul 1 = none := hl
      rw [hl]; show 0 + (0 + 1) + (_ + 0 + _) ≤ _; omega
    · show 0 + (0 + 1) + ((rul 0).isSome.toNat + (rul 1).isSome.toNat + (rul 2).isSome.toNat) ≤ (rul 0).isSome.toNat + (rul 1).isSome.toNat + 1
      have hl : rul 2 = none := hl
      rw [hl]; show 0 + (0 + 1) + (_ + _ + 0) ≤ _; omega
  · have hr3 : r = 0 ∨ r = 1 ∨ r = 2 := by omega
    rcases hr3 with rfl | rfl | rfl
    · show 0 + (0 + c.length) + 1600 * ((rul 0).isSome.toNat + (rul 1).isSome.toNat + (rul 2).isSome.toNat) ≤ 1600 * (1 + (rul 1).isSome.toNat + (rul 2).isSome.toNat)
      have hl : rul 0 = none := hl
      rw [hl]; show 0 + (0 + c.length) + 1600 * (0 + _ + _) ≤ _; omega
    · show 0 + (0 + c.length) + 1600 * ((rul 0).isSome.toNat + (rul 1).isSome.toNat + (rul 2).isSome.toNat) ≤ 1600 * ((rul 0).isSome.toNat + 1 + (rul 2).isSome.toNat)
      have hl : rul 1 = none := hl
      rw [hl]; show 0 + (0 + c.length) + 1600 * (_ + 0 + _) ≤ _; omega
    · show 0 + (0 + c.length) + 1600 * ((rul 0).isSome.toNat + (rul 1).isSome.toNat + (rul 2).isSome.toNat) ≤ 1600 * ((rul 0).isSome.toNat + (rul 1).isSome.toNat + 1)
      have hl : rul 2 = none := hl
      rw [hl]; show 0 + (0 + c.length) + 1600 * (_ + _ + 0) ≤ _; omega
end
