section
variable {b k cd n0 n tn tl tw u p7 : Nat} {V V' R R' : zI} {L M M' : zL} {K N : Nat → Nat} {G : zG} {ed t w st : Nat → Nat} {tk : Nat → tkT} {C : List Nat} {U : aU}
theorem S2_1 {R2 : zI} {M2 : zL} (h : S1 n0 b tn tl t ed tk k cd U n N G V R M L (V', L) (R2, M2)) (hy5 : G n0 5 = some (n0 + 1)) : S2 n0 b tn tl t ed tk k U n K N G V R M n 0 0 K N G V' R2 M2 := by
  obtain ⟨-, ⟨h1, h2, h3⟩, h4⟩ := h
  have h3n := nR3 (U := U)
  refine ⟨fun x hx => ⟨rfl, rfl, rfl, h1 x hx⟩, ⟨h2, h3, hy5, Nat.le_refl _⟩, ?_⟩
  rcases h4 with ⟨k', U', w', st', h5, h6, h7⟩ | h4
  · have e : nR U' = nR U := by unfold nR; rw [h6]
    exact Or.inl ⟨k', cd, U', w', st', h5, h7, by omega, by omega⟩
  · exact Or.inr ⟨Or.inr h4, by omega, by omega⟩
theorem s_lift {X : Option (zI × zL)} {Y : Option (zI × zL)} (hy5 : G n0 5 = some (n0 + 1)) (h : zX X Y (S1 n0 b tn tl t ed tk k cd U n N G V R M L)) : zX (X.bind fun r1 => some (n, 0, 0, K, N, G, r1.1, r1.2)) (Y.bind fun r => some (r.1, r.2)) (fun x x' => ∃ n' c' q' K' N' G' V' L', x = (n', c', q', K', N', G', V', L') ∧ S2 n0 b tn tl t ed tk k U n K N G V R M n' c' q' K' N' G' V' x'.1 x'.2) := by
  obtain ⟨⟨V1, L1⟩, ⟨R1, M1⟩, rfl, rfl, h1⟩ := h
  have e : L1 = L := h1.1
  subst e
  exact zX_some ⟨_, _, _, _, _, _, _, _, rfl, S2_1 h1 hy5⟩
theorem s_bind {X : Option zS} {Y : Option (zI × zL)} {P : zS → zI × zL → Prop} (h : zX X Y P) : zX X (Y.bind fun r => some (r.1, r.2)) P := by
  obtain ⟨a, b, rfl, rfl, h⟩ := h
  exact zX_some h
theorem z_stmt {R0 : zI} {M0 : zL} (h : RZ R0 M0 ed tk k R M) (h5 : (tk k).1 ≠ 5) : f_statement R M = if tO (tk k) 0 then (f_towning R M).bind fun r => some (r.1, r.2) else if tO (tk k) 1 then (f_carting R M).bind fun r => some (r.1, r.2) else if tO (tk k) 4 then (f_holding R M).bind fun r => some (r.1, r.2) else if tO (tk k) 6 then (f_reading 0 R M).bind fun r => some (r.1, r.2) else if tO (tk k) 7 then (f_reading 1 R M).bind fun r => some (r.1, r.2) else if tO (tk k) 8 then (f_reading 2 R M).bind fun r => some (r.1, r.2) else if tO (tk k) 9 then (f_telling 0 3 R M).bind fun r => some (r.1, r.2) else if tO (tk k) 10 then (f_telling 1 100 R M).bind fun r => some (r.1, r.2) else (f_blame 1 (R 0 4) R M).bind fun r => some (r.1, r.2) := by
  have hT := h.2.2.2
  unfold f_statement
  rw [tk_lex0 hT h5, o_bind]
  dsimp only
  rw [if_pos (show R 0 8 ≤ 0 by rw [h.2.1.1]; exact le00), wb_0 hT h5]
  dsimp only
  by_cases g0 : tO (tk k) 0
  · rw [if_pos g0, if_neg (by decide), if_pos g0]
  rw [if_neg g0, if_pos (by rfl), if_neg g0, wb_1 hT h5]
  dsimp only
  by_cases g1 : tO (tk k) 1
  · rw [if_pos g1, if_neg (by decide), if_pos g1]
  rw [if_neg g1, if_pos (by rfl), if_neg g1, wb_4 hT h5]
  dsimp only
  by_cases g4 : tO (tk k) 4
  · rw [if_pos g4, if_neg (by decide), if_pos g4]
  rw [if_neg g4, if_pos (by rfl), if_neg g4, wb_6 hT h5]
  dsimp only
  by_cases g6 : tO (tk k) 6
  · rw [if_pos g6, if_neg (by decide), if_pos g6]
  rw [if_neg g6, if_pos (by rfl), if_neg g6, wb_7 hT h5]
  dsimp only
  by_cases g7 : tO (tk k) 7
  · rw [if_pos g7, if_neg (by decide), if_pos g7]
  rw [if_neg g7, if_pos (by rfl), if_neg g7, wb_8 hT h5]
  dsimp only
  by_cases g8 : tO (tk k) 8
  · rw [if_pos g8, if_neg (by decide), if_pos g8]
  rw [if_neg g8, if_pos (by rfl), if_neg g8, wb_9 hT h5]
  dsimp only
  by_cases g9 : tO (tk k) 9
  · rw [if_pos g9, if_neg (by decide), if_pos g9]
  rw [if_neg g9, if_pos (by rfl), if_neg g9, wb_10 hT h5]
  dsimp only
  by_cases g10 : tO (tk k) 10
  · rw [if_pos g10, if_neg (by decide), if_pos g10]
  rw [if_neg g10, if_pos (by rfl), if_neg g10]
theorem k_16b {y0 : Nat} {s0 : Int32} (a0 : s0 ≠ 0) (a1 : s0 ≠ 1) (a4 : s0 ≠ 4) (a6 : s0 ≠ 6) (a7 : s0 ≠ 7) (a8 : s0 ≠ 8) (a9 : s0 ≠ 9) (a10 : s0 ≠ 10) : f_X5_readStatement_16 y0 s0 n 0 0 K N G V L = f_X5_readStatement_204 y0 n 0 0 K N G V L := by
  unfold f_X5_readStatement_16
  rw [if_neg a0, if_neg a1]
  by_cases e2 : s0 = 2
  · rw [if_pos e2]
  rw [if_neg e2]
  by_cases e3 : s0 = 3
  · rw [if_pos e3]
  rw [if_neg e3, if_neg a4]
  by_cases e5 : s0 = 5
  · rw [if_pos e5]
  rw [if_neg e5, if_neg a6, if_neg a7, if_neg a8, if_neg a9, if_neg a10]
set_option maxHeartbeats 4000000 in
theorem s_stmt (hA : AH t tl ed tk tn) (hW : TW tk tn) (hn10 : n0 + 10 ≤ n) (h : ST n0 b tn tl t ed tk k cd U w st n N G V R M) (h0 : (tk k).1 ≠ 0) : zX (f_X5_readStatement n0 n K N G V L) (f_statement R M) (fun x x' => ∃ n' c' q' K' N' G' V' L', x = (n', c', q', K', N', G', V', L') ∧ S2 n0 b tn tl t ed tk k U n K N G V R M n' c' q' K' N' G' V' x'.1 x'.2) := by
  obtain ⟨C, hCl, hj⟩ := ST_JK h
  have hCV := h.1.1
  have hy5 := h.1.2.1.2.1
  have hd9 := hCV.2.2.1.2.2.2.2.1
  have hkt := hj.1.2.1
  have b2 : V n0 2 = qi (tk k).1 := hj.1.2.2.1.2.1
  have b3 : V n0 3 = qi (tk k).2.1 := hj.1.2.2.1.2.2.1
  obtain ⟨w1, w2, w3, w4, w5, w6, -⟩ := hW.2 k hkt
  have hT := hj.2.2.2.2
  have hrule : ∀ r, r < 3 → zX (k_rl n0 (qi (6 + r)) (8 + r) n 0 0 K N G V L) (f_reading (qi r) R M) (fun x x' => ∃ n' c' q' K' N' G' V' L', x = (n', c', q', K', N', G', V', L') ∧ S2 n0 b tn tl t ed tk k U n K N G V R M n' c' q' K' N' G' V' x'.1 x'.2) := fun r hr => by
    cases e : rulU U r with
    | none => exact s_rule hr rfl rfl hA hW hn10 h h0 e
    | some l => exact s_rul2 hr rfl hW h e
  have hbad : (∀ i, i = 0 ∨ i = 1 ∨ i = 4 ∨ i = 6 ∨ i = 7 ∨ i = 8 ∨ i = 9 ∨ i = 10 → ¬ tO (tk k) i) → zX (f_X5_readStatement_204 n0 n 0 0 K N G V L) (f_statement R M) (fun x x' => ∃ n' c' q' K' N' G' V' L', x = (n', c', q', K', N', G', V', L') ∧ S2 n0 b tn tl t ed tk k U n K N G V R M n' c' q' K' N' G' V' x'.1 x'.2) := fun hn => by
    have href : zW (f_statement R M) (fun r => ZE R M 1 (fp (tk k)) r.1 r.2) := by
      by_cases h5 : (tk k).1 = 5
      · unfold f_statement
        rw [z_lex5 hj.2 h5, o_bind]
        have hz := ZE_mk (f := 1) (pl := fp (tk k)) hj.2 (by omega)
        exact zW_if0 (ZE_gt hz).1 (zW_some hz)
      · rw [z_stmt hj.2 h5, if_neg (hn 0 (by omega)), if_neg (hn 1 (by omega)), if_neg (hn 4 (by omega)), if_neg (hn 6 (by omega)), if_neg (hn 7 (by omega)), if_neg (hn 8 (by omega)), if_neg (hn 9 (by omega)), if_neg (hn 10 (by omega)), show (1 : Int32) = qi 1 from rfl, z_blame hj.2, o_bind]
        have hz := ZE_mk (f := 1) (pl := (tk k).2.2) hj.2 (by omega)
        refine zW_some ?_
        unfold fp
        rw [if_neg h5]
        exact hz
    obtain ⟨⟨V1, L1⟩, e1, rfl, g1⟩ := k_fh (N := N) (G := G) (L := L) hW hj.1 hd9
    dsimp only at g1
    obtain ⟨⟨R1, M1⟩, f1, g1'⟩ := href
    unfold f_X5_readStatement_204
    rw [e1, o_bind, f1]
    have hF : JF n0 (n0 + 9) V tn R M V1 R1 M1 := ⟨_, _, ⟨_, _, g1, by omega⟩, g1'⟩
    exact zX_some ⟨_, _, _, _, _, _, _, _, rfl, S2_1 (L := L1) (cd := cd) (S1_F (r := (V1, L1)) (r' := (R1, M1)) rfl hF) hy5⟩
  unfold f_X5_readStatement g_X5_readStatement
  by_cases e4 : (tk k).1 = 4
  case neg =>
    rw [if_neg (show ¬ V n0 2 = 4 by rw [b2, q_lit, q_eq (by omega) (by omega)]; exact e4), k_16b (by decide) (by decide) (by decide) (by decide) (by decide) (by decide) (by decide) (by decide)]
    exact hbad (fun i _ g => e4 g.1)
  have h5 : (tk k).1 ≠ 5 := by omega
  have hv := w6 e4
  rw [if_pos (show V n0 2 = 4 by rw [b2, e4]; rfl)]
  by_cases hk8 : (tk k).2.1 = 0 ∨ (tk k).2.1 = 1 ∨ (tk k).2.1 = 4 ∨ (tk k).2.1 = 6 ∨ (tk k).2.1 = 7 ∨ (tk k).2.1 = 8 ∨ (tk k).2.1 = 9 ∨ (tk k).2.1 = 10
  case neg =>
    have g : ∀ i : Nat, i < 100 → (tk k).2.1 ≠ i → qi (tk k).2.1 ≠ qi i := fun i hi hne e => hne ((q_eq (by omega) (by omega)).mp e)
    rw [b3, k_16b (g 0 (by omega) (by omega)) (g 1 (by omega) (by omega)) (g 4 (by omega) (by omega)) (g 6 (by omega) (by omega)) (g 7 (by omega) (by omega)) (g 8 (by omega) (by omega)) (g 9 (by omega) (by omega)) (g 10 (by omega) (by omega))]
    exact hbad (fun i hi g => by have := g.2; omega)
  rcases hk8 with e | e | e | e | e | e | e | e
  · rw [show V n0 3 = qi 0 by rw [b3, e], z_stmt hj.2 h5]
    unfold f_X5_readStatement_16
    rw [if_pos (show tO (tk k) 0 from ⟨e4, e⟩), if_pos (by rfl)]
    exact s_lift hy5 (s_town hA hW h h0)
  · rw [show V n0 3 = qi 1 by rw [b3, e], z_stmt hj.2 h5]
    unfold f_X5_readStatement_16
    rw [if_neg (show ¬ tO (tk k) 0 from nO (by omega)), if_pos (show tO (tk k) 1 from ⟨e4, e⟩), if_neg (by decide), if_pos (by rfl)]
    exact s_lift hy5 (s_cart hA hW h h0)
  · rw [show V n0 3 = qi 4 by rw [b3, e], z_stmt hj.2 h5]
    unfold f_X5_readStatement_16
    rw [if_neg (show ¬ tO (tk k) 0 from nO (by omega)), if_neg (show ¬ tO (tk k) 1 from nO (by omega)), if_pos (show tO (tk k) 4 from ⟨e4, e⟩), if_neg (by decide), if_neg (by decide), if_neg (by decide), if_neg (by decide), if_pos (by rfl)]
    exact s_lift hy5 (s_hold hA hW h h0)
  · rw [show V n0 3 = qi 6 by rw [b3, e], z_stmt hj.2 h5]
    unfold f_X5_readStatement_16
    rw [if_neg (show ¬ tO (tk k) 0 from nO (by omega)), if_neg (show ¬ tO (tk k) 1 from nO (by omega)), if_neg (show ¬ tO (tk k) 4 from nO (by omega)), if_pos (show tO (tk k) 6 from ⟨e4, e⟩), if_neg (by decide), if_neg (by decide), if_neg (by decide), if_neg (by decide), if_neg (by decide), if_neg (by decide), if_pos (by rfl)]
    exact s_bind (hrule 0 (by omega))
  · rw [show V n0 3 = qi 7 by rw [b3, e], z_stmt hj.2 h5]
    unfold f_X5_readStatement_16
    rw [if_neg (show ¬ tO (tk k) 0 from nO (by omega)), if_neg (show ¬ tO (tk k) 1 from nO (by omega)), if_neg (show ¬ tO (tk k) 4 from nO (by omega)), if_neg (show ¬ tO (tk k) 6 from nO (by omega)), if_pos (show tO (tk k) 7 from ⟨e4, e⟩), if_neg (by decide), if_neg (by decide), if_neg (by decide), if_neg (by decide), if_neg (by decide), if_neg (by decide), if_neg (by decide), if_pos (by rfl)]
    exact s_bind (hrule 1 (by omega))
  · rw [show V n0 3 = qi 8 by rw [b3, e], z_stmt hj.2 h5]
    unfold f_X5_readStatement_16
    rw [if_neg (show ¬ tO (tk k) 0 from nO (by omega)), if_neg (show ¬ tO (tk k) 1 from nO (by omega)), if_neg (show ¬ tO (tk k) 4 from nO (by omega)), if_neg (show ¬ tO (tk k) 6 from nO (by omega)), if_neg (show ¬ tO (tk k) 7 from nO (by omega)), if_pos (show tO (tk k) 8 from ⟨e4, e⟩), if_neg (by decide), if_neg (by decide), if_neg (by decide), if_neg (by decide), if_neg (by decide), if_neg (by decide), if_neg (by decide), if_neg (by decide), if_pos (by rfl)]
    exact s_bind (hrule 2 (by omega))
  · rw [show V n0 3 = qi 9 by rw [b3, e], z_stmt hj.2 h5]
    unfold f_X5_readStatement_16
    rw [if_neg (show ¬ tO (tk k) 0 from nO (by omega)), if_neg (show ¬ tO (tk k) 1 from nO (by omega)), if_neg (show ¬ tO (tk k) 4 from nO (by omega)), if_neg (show ¬ tO (tk k) 6 from nO (by omega)), if_neg (show ¬ tO (tk k) 7 from nO (by omega)), if_neg (show ¬ tO (tk k) 8 from nO (by omega)), if_pos (show tO (tk k) 9 from ⟨e4, e⟩), if_neg (by decide), if_neg (by decide), if_neg (by decide), if_neg (by decide), if_neg (by decide), if_neg (by decide), if_neg (by decide), if_neg (by decide), if_neg (by decide), if_pos (by rfl)]
    refine s_bind (zX_mono (s_tell (wh := 0) (hi := 3) (K := K) (c := 0) (q := 0) (Or.inl ⟨rfl, rfl⟩) hA hW h h0) ?_)
    rintro x ⟨R1, M1⟩ ⟨V1, e1, h1⟩
    exact ⟨_, _, _, _, _, _, _, _, e1, S2_1 h1 hy5⟩
  · rw [show V n0 3 = qi 10 by rw [b3, e], z_stmt hj.2 h5]
    unfold f_X5_readStatement_16
    rw [if_neg (show ¬ tO (tk k) 0 from nO (by omega)), if_neg (show ¬ tO (tk k) 1 from nO (by omega)), if_neg (show ¬ tO (tk k) 4 from nO (by omega)), if_neg (show ¬ tO (tk k) 6 from nO (by omega)), if_neg (show ¬ tO (tk k) 7 from nO (by omega)), if_neg (show ¬ tO (tk k) 8 from nO (by omega)), if_neg (show ¬ tO (tk k) 9 from nO (by omega)), if_pos (show tO (tk k) 10 from ⟨e4, e⟩), if_neg (by decide), if_neg (by decide), if_neg (by decide), if_neg (by decide), if_neg (by decide), if_neg (by decide), if_neg (by decide), if_neg (by decide), if_neg (by decide), if_neg (by decide), if_pos (by rfl)]
    refine s_bind (zX_mono (s_tell (wh := 1) (hi := 100) (K := K) (c := 0) (q := 0) (Or.inr ⟨rfl, rfl⟩) hA hW h h0) ?_)
    rintro x ⟨R1, M1⟩ ⟨V1, e1, h1⟩
    exact ⟨_, _, _, _, _, _, _, _, e1, S2_1 h1 hy5⟩
end
