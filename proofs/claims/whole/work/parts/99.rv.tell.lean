section
variable {b k cd n0 n c q tn tl tw : Nat} {V V' R R' : zI} {L M M' : zL} {K N : Nat → Nat} {G : zG} {ed t w st : Nat → Nat} {tk : Nat → tkT} {C : List Nat} {U : aU}
theorem CS_x {y pc o : Nat} {V0 : zI} (h : CS y pc V0 tk tn k C o V) (h1 : V' y = V y) (h2 : V' pc = V pc) : CS y pc V' tk tn k C o V' := by
  obtain ⟨-, a2, a3, a4, a5⟩ := h
  unfold CS
  rw [h1, h2]
  exact ⟨CF_r, a2, a3, a4, a5⟩
theorem CE_x {y pc f pl : Nat} {V0 : zI} {cc : Nat} (h : CE y pc V0 tn f pl k cc V) (h1 : V' y = V y) : CE y pc V' tn f pl k cc V' := by
  obtain ⟨-, a2, a3, a4⟩ := h
  unfold CE
  rw [h1]
  exact ⟨CF_r, a2, a3, a4⟩
theorem ST_x {U' : aU} {w' st' : Nat → Nat} (h : ST n0 b tn tl t ed tk k cd U w st n N G V R M) (hv : ∀ x, (x < n0 + 1 ∨ n0 + 4 < x) → V' x = V x) (r0 : R' 0 = R 0) (r1 : R' 1 = R 1) (r8 : R' 8 = R 8) (r9 : R' 9 = R 9) (r10 : R' 10 = R 10) (r11 : R' 11 = R 11) (m0 : M' 0 = M 0) (hc : ucP N G V' (n0 + 1) U' w' st') (hr : urP R' M' b U' w' st') (hU : UI U' w' st') (hru : rulU U' = rulU U) : ST n0 b tn tl t ed tk k cd U' w' st' n N G V' R' M' := by
  obtain ⟨⟨a1, a2, ⟨a3, a4⟩, a5, a6⟩, ⟨C, h2, h2'⟩, h3, ⟨h4, h5, h6, h6'⟩, ⟨h7, h7', h7''⟩, h8, h9, h10⟩ := h
  refine ⟨⟨a1, a2, ⟨?_, ?_⟩, hc, a6⟩, ⟨C, CS_x h2 (hv _ (by omega)) (hv _ (by omega)), h2'⟩, hU, ⟨?_, ?_, ?_, ?_⟩, ⟨hr, ?_, ?_⟩, h8, h9, h10⟩
  · rw [hv _ (by omega)]; exact a3
  · rw [hv _ (by omega), hv _ (by omega), hv _ (by omega)]; exact a4
  · unfold tpR; rw [r0, r1]; exact h4
  · rw [r0]; exact h5
  · rw [r0]; exact h6
  · exact tkR_fr h6' (by rw [r0]) (by rw [r0]) (by rw [r0]) (by rw [r0]) (by rw [m0])
  · rw [r0]; exact h7'
  · rw [hru, r8, r9, r10, r11]; exact h7''
theorem ST_CU {ct encl lost : Nat} {way : Nat → Nat} {rul : Nat → Option (List Nat)} {nam : Nat → List Nat} (h : ST n0 b tn tl t ed tk k cd (tw, ct, way, encl, lost, rul, nam) w st n N G V R M) : CU V (n0 + 1) tw nam w ∧ (R 0 26 = qi b ∧ R 2 b = qi tw ∧ R 3 b = qi ct) ∧ (∀ k, k < tw → M 12 (6 * b + k) = qZ (nmR (nam k))) ∧ V (n0 + 1) 1 = qi ct ∧ ct ≤ 12 ∧ ∀ k, k < 36 → R 4 (36 * b + k) = qi (w k) := by
  obtain ⟨⟨a1, a2, a3, ⟨c1, c2, c3, c4⟩, a6⟩, -, ⟨⟨u1, u2, u3, u4, u5⟩, v1, v2, v3, v4⟩, -, ⟨⟨d1, d2, d3, d4⟩, -⟩, -⟩ := h
  exact ⟨⟨⟨c1.1, v1.1⟩, fun k hk => ⟨c3.1 k hk, v4 k hk⟩, fun k hk => ⟨c2 k hk, (u1 k hk).1⟩⟩, ⟨d1.2.1, d1.2.2.1, d1.2.2.2.1⟩, d3, c1.2.1, v1.2.1, d2.1⟩
theorem JK_CU {nam : Nat → List Nat} (hj : JK n0 (n0 + 9) V tk tn R M ed C k V' R' M') (h : CU V (n0 + 1) tw nam w) : CU V' (n0 + 1) tw nam w := by
  unfold CU
  rw [hj.1.1.1 (n0 + 1) (by omega) (by omega), hj.1.1.1 (n0 + 1 + 1) (by omega) (by omega), hj.1.1.1 (n0 + 1 + 3) (by omega) (by omega)]
  exact h
theorem RQ_x (h : RQ b R M R' M') {R2 : zI} {M2 : zL} (r0 : R2 0 = R' 0) (h2 : ∀ j, j ≠ b → R2 2 j = R' 2 j ∧ R2 3 j = R' 3 j) (h4 : ∀ j, (j < 36 * b ∨ 36 * b + 36 ≤ j) → R2 4 j = R' 4 j ∧ R2 6 j = R' 6 j) (h7 : ∀ j, (j < 2 * b ∨ 2 * b + 2 ≤ j) → R2 7 j = R' 7 j) (hx : ∀ x, x = 1 ∨ x = 5 ∨ (8 ≤ x ∧ x ≤ 11) ∨ 19 ≤ x → R2 x = R' x) (m12 : ∀ j, (j < 6 * b ∨ 6 * b + 6 ≤ j) → M2 12 j = M' 12 j) (mx : ∀ v, v ≠ 12 → M2 v = M' v) : RQ b R M R2 M2 := by
  refine RQ_t h ⟨fun j _ _ _ _ _ _ _ _ _ _ _ _ _ => by rw [r0], h2, h4, h7, fun j _ => ⟨by rw [hx 8 (by omega)], by rw [hx 9 (by omega)]⟩, fun j _ => ⟨by rw [hx 10 (by omega)], by rw [hx 11 (by omega)]⟩, ⟨hx 1 (by omega), hx 5 (by omega), fun v hv => hx v (by omega)⟩, fun j _ => by rw [mx 0 (by omega)], m12, fun v _ h => mx v h⟩
theorem S1_mk (hx : ∀ x, x < n0 → V' x = V x) (hq : RQ b R M R' M') (h2 : V' (n0 + 1) 2 = V (n0 + 1) 2) (hs : ∃ k' U' w' st', k < k' ∧ rulU U' = rulU U ∧ ST n0 b tn tl t ed tk k' cd U' w' st' n N G V' R' M') : S1 n0 b tn tl t ed tk k cd U n N G V R M L (V', L) (R', M') := ⟨rfl, ⟨hx, hq, h2⟩, Or.inl hs⟩
set_option maxHeartbeats 2000000 in
theorem s_tell {wh hi : Nat} (hw : (wh = 0 ∧ hi = 3) ∨ (wh = 1 ∧ hi = 100)) (hA : AH t tl ed tk tn) (hW : TW tk tn) (h : ST n0 b tn tl t ed tk k cd U w st n N G V R M) (h0 : (tk k).1 ≠ 0) : zX ((f_X5_take N G n0 V L).bind fun r19 => (G n0 5).bind fun v20 => (f_X5_readNumber N G n0 0 (qi hi) r19.1 r19.2).bind fun r21 => some (n, c, q, K, N, G, z_uI r21.2.1 v20 (3 + wh) r21.1, r21.2.2)) (f_telling (qi wh) (qi hi) R M) (fun r r' => ∃ V', r = (n, c, q, K, N, G, V', L) ∧ S1 n0 b tn tl t ed tk k cd U n N G V R M L (V', L) r') := by
  obtain ⟨C, hCl, hj⟩ := ST_JK h
  have hCV := h.1.1
  have hTV := h.1.2.2.1
  have hT := h.2.2.2.1.1
  have hy5 := h.1.2.1.2.1
  have hb2 := h.2.2.2.2.2.1
  have hk1 := hW.1 k hj.1.2.1 h0
  unfold f_telling
  obtain ⟨⟨V1, L1⟩, e1, rfl, g1⟩ := k_take (L := L) hCV hTV hW hj.1 h0
  obtain ⟨⟨z, R1, M1⟩, f1, rfl, g1'⟩ := z_cnt0 hA hT hk1 hj.2
  dsimp only at g1 g1'
  rw [e1, o_bind, f1, o_bind, hy5, o_bind]
  dsimp only
  rw [if_neg (show ¬ (1 : Int32) = 0 by decide)]
  refine zX_call (j_num (lo := 0) (L := L1) (by omega) (by omega) hA hT hCV hTV hW (by omega) ⟨g1, g1'⟩) ?_
  rintro ⟨v1, V2, L2⟩ ⟨v2, R2, M2⟩ ⟨rfl, hn⟩
  dsimp only at hn ⊢
  rcases hn with ⟨v, hv, rfl, rfl, hj2⟩ | ⟨rfl, hf⟩
  · have hst := S1_K (r := (V2, L2)) (r' := (R2, M2)) h (show k < k + 1 + 1 by omega) rfl hCl hj2
    dsimp only at hst
    have e8 : R2 0 8 = qi 0 := hj2.2.2.1.1
    obtain ⟨tw, ct, way, encl, lost, rul, nam⟩ := U
    obtain ⟨⟨b1, b2, b3, ⟨c1, c2, c3, c4⟩, b6⟩, -, ⟨⟨u1, u2, u3, u4, u5⟩, v1, v2, v3, v4⟩, -, ⟨⟨d1, d2, d3, d4⟩, -⟩, -⟩ := id hst
    have e26 : R2 0 26 = qi b := d1.2.1
    have e7 : (2 : Int32) * R2 0 26 + qi wh = qi (2 * b + wh) := by rw [e26, q_lit, q_mul, q_add]
    rw [if_pos (show R2 0 8 = 0 from e8), if_pos (show inB ((2 : Int32) * R2 0 26 + qi wh) 4 by rw [e7]; exact q_inP (by omega) (by omega)), e7, q_nn (by omega)]
    refine zX_some ⟨_, rfl, S1_mk (fun x hx => ?_) ?_ ?_ ⟨k + 2, (tw, ct, way, if wh = 0 then v else encl, if wh = 0 then lost else v, rul, nam), w, st, by omega, rfl, ?_⟩⟩
    · show z_uI V2 (n0 + 1) (3 + wh) (qi v) x = V x
      rw [z_neP (by omega)]
      exact hj2.1.1.1 x (by omega) (by omega)
    · refine RQ_x (RQ_Z hj2.2.1) (z_neP (by omega)) (fun j _ => ⟨by rw [z_neP (by omega)], by rw [z_neP (by omega)]⟩) (fun j _ => ⟨by rw [z_neP (by omega)], by rw [z_neP (by omega)]⟩) (fun j hj => ?_) (fun x hx => z_neP (by omega)) (fun j _ => rfl) (fun v _ => rfl)
      rw [z_neK (by omega)]
    · show z_uI V2 (n0 + 1) (3 + wh) (qi v) (n0 + 1) 2 = V (n0 + 1) 2
      rw [z_neK (by omega), hj2.1.1.1 (n0 + 1) (by omega) (by omega)]
    · refine ST_x hst (fun x hx => z_neP (by omega)) (z_neP (by omega)) (z_neP (by omega)) (z_neP (by omega)) (z_neP (by omega)) (z_neP (by omega)) (z_neP (by omega)) rfl ⟨?_, ?_, ?_, fun r hr => ⟨(c4 r hr).1, fun l hl => ?_⟩⟩ ⟨?_, ?_, ?_, ?_⟩ ⟨⟨u1, u2, u3, u4, u5⟩, ?_, v2, v3, v4⟩ rfl
      · rcases hw with ⟨rfl, rfl⟩ | ⟨rfl, rfl⟩
        · exact ⟨by rw [z_neK (by omega)]; exact c1.1, by rw [z_neK (by omega)]; exact c1.2.1, z_same, by rw [z_neK (by omega)]; exact c1.2.2.2⟩
        · exact ⟨by rw [z_neK (by omega)]; exact c1.1, by rw [z_neK (by omega)]; exact c1.2.1, by rw [z_neK (by omega)]; exact c1.2.2.1, z_same⟩
      · rw [z_neP (by omega)]; exact c2
      · rw [z_neP (by omega), z_neP (by omega)]; exact c3
      · obtain ⟨p, p1, p2, p3, p4⟩ := (c4 r hr).2 l hl
        have := b6 r p hr p1
        exact ⟨p, p1, p2, p3, by rw [z_neP (by omega)]; exact p4⟩
      · rw [z_neP (by omega), z_neP (by omega), z_neP (by omega)]
        rcases hw with ⟨rfl, rfl⟩ | ⟨rfl, rfl⟩
        · exact ⟨d1.1, d1.2.1, d1.2.2.1, d1.2.2.2.1, z_same, by rw [z_neK (by omega)]; exact d1.2.2.2.2.2⟩
        · exact ⟨d1.1, d1.2.1, d1.2.2.1, d1.2.2.2.1, by rw [z_neK (by omega)]; exact d1.2.2.2.2.1, z_same⟩
      · rw [z_neP (by omega), z_neP (by omega)]; exact d2
      · exact d3
      · rw [z_neP (by omega), z_neP (by omega), z_neP (by omega), z_neP (by omega)]; exact d4
      · rcases hw with ⟨rfl, rfl⟩ | ⟨rfl, rfl⟩
        · exact ⟨v1.1, v1.2.1, hv.2, v1.2.2.2⟩
        · exact ⟨v1.1, v1.2.1, v1.2.2.1, hv.2⟩
  · obtain ⟨f, pl, ⟨k', c', h1, hc'⟩, h2⟩ := id hf
    rw [if_neg (show ¬ R2 0 8 = 0 from (ZE_gt h2).2)]
    refine zX_some ⟨_, rfl, rfl, ⟨fun x hx => ?_, (JF_v hf).2.1, ?_⟩, Or.inr ⟨f, pl, k', c', CE_x h1 (z_neP (by omega)), h2.2.1, h2.2.2.1⟩⟩
    · show z_uI V2 (n0 + 1) (3 + wh) 0 x = V x
      rw [z_neP (by omega)]
      exact (JF_v (b := b) hf).1 x hx
    · show z_uI V2 (n0 + 1) (3 + wh) 0 (n0 + 1) 2 = V (n0 + 1) 2
      rw [z_neK (by omega), (JF_v (b := b) hf).2.2]
end
