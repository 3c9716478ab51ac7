section
variable {b k cd n0 n c q tn tl tw i f f' : Nat} {V V' R R' R0 : zI} {L M M' M0 : zL} {K N : Nat → Nat} {G : zG} {ed t w st : Nat → Nat} {tk : Nat → tkT} {C : List Nat} {U : aU}
def UF (n0 b tn tl : Nat) (t ed : Nat → Nat) (tk : Nat → tkT) (n : Nat) (K N : Nat → Nat) (G : zG) (V R : zI) (M : zL) (n' c' q' : Nat) (K' N' : Nat → Nat) (G' : zG) (V' : zI) (s : Nat) (R' : zI) (M' : zL) : Prop := (∀ x, x < n0 → K' x = K x ∧ N' x = N x ∧ G' x = G x ∧ V' x = V x) ∧ (RQ b R M R' M' ∧ n ≤ n' ∧ c' ≤ 3 ∧ q' ≤ 4800 ∧ G' n0 5 = some (n0 + 1)) ∧ ((∃ k cd U w st, ST n0 b tn tl t ed tk k cd U w st n' N' G' V' R' M' ∧ (tk k).1 = 0 ∧ V' (n0 + 1) 2 = qi s ∧ s ≤ 80) ∨ FL n0 tn V' R')
theorem kU_1 {x1 : Int32} {y0 : Nat} : zfix b_X5_readUnion_2 (f + 1) (y0, x1, n, c, q, K, N, G, V, L) = (if 80 < x1 then some (n, c, q, K, N, G, V, L) else (if (V y0 10) = 0 then (if (V y0 2) = 0 then some (n, c, q, K, N, G, V, L) else (if x1 = 80 then (f_X5_fail N G y0 6 (V y0 4) V L).bind fun r2 => zfix b_X5_readUnion_2 f (y0, (x1 + 1), n, c, q, K, N, G, r2.1, r2.2) else (f_X5_readStatement y0 n K N G V L).bind fun r1 => f_X5_readUnion_45 (zfix b_X5_readUnion_2 f) y0 x1 r1.1 (c + r1.2.1) (q + r1.2.2.1) r1.2.2.2.1 r1.2.2.2.2.1 r1.2.2.2.2.2.1 r1.2.2.2.2.2.2.1 r1.2.2.2.2.2.2.2)) else some (n, c, q, K, N, G, V, L))) := rfl
theorem zU_1 {x1 : Int32} : zfix b_union_109 (f + 1) (x1, R, M) = (if (R 0 8) = 0 then (if (R 0 3) = 0 then f_union_138 x1 R M else (f_statement R M).bind fun r1 => (f_finishes (x1 + 1) r1.1 r1.2).bind fun r2 => zfix b_union_109 f ((x1 + 1), r2.1, r2.2)) else f_union_138 x1 R M) := rfl
theorem FL_8 (h : FL n0 tn V R) : ¬ V n0 10 = 0 ∧ ¬ R 0 8 = 0 ∧ ∃ f, (0 < f ∧ f < 100) ∧ R 0 8 = qi f := by
  obtain ⟨f, pl, k, c, h1, h2, h3⟩ := h
  have hf := h1.2.2.2
  refine ⟨?_, ?_, f, hf, h2⟩
  · rw [h1.2.2.1.1, q_lit, q_eq (by omega) (by omega)]; omega
  · rw [h2, q_lit, q_eq (by omega) (by omega)]; omega
theorem uE {x1 x2 : Int32} (h : FL n0 tn V R) : zfix b_X5_readUnion_2 (f + 1) (n0, x1, n, c, q, K, N, G, V, L) = some (n, c, q, K, N, G, V, L) ∧ zfix b_union_109 (f' + 1) (x2, R, M) = f_union_138 x2 R M := by
  rw [kU_1, zU_1, if_neg (FL_8 h).1, if_neg (FL_8 h).2.1]
  refine ⟨?_, rfl⟩
  by_cases e : 80 < x1
  · rw [if_pos e]
  · rw [if_neg e]
theorem FL_x (h : FL n0 tn V R) {x : Int32} : FL n0 tn (z_uI V (n0 + 1) 2 x) R := by
  obtain ⟨f, pl, k, c, h1, h2, h3⟩ := h
  exact ⟨f, pl, k, c, CE_x h1 (z_neP (by omega)), h2, h3⟩
set_option maxHeartbeats 4000000 in
theorem u_loop (hA : AH t tl ed tk tn) (hP : PLC t tl ed tk tn) (hW : TW tk tn) : ∀ m k i cd U w st n c q K N G V L R M f f', tn - k ≤ m → m + 3 ≤ f → m + 3 ≤ f' → i ≤ 80 → ((tk k).1 ≠ 0 → i < 80) → n0 + 10 ≤ n → V (n0 + 1) 2 = qi i → c ≤ nR U → q ≤ 1600 * nR U → ST n0 b tn tl t ed tk k cd U w st n N G V R M → ∃ n' c' q' K' N' G' V' L' s R' M', zfix b_X5_readUnion_2 f (n0, qi i, n, c, q, K, N, G, V, L) = some (n', c', q', K', N', G', V', L') ∧ zfix b_union_109 f' (qi i, R, M) = f_union_138 (qi s) R' M' ∧ UF n0 b tn tl t ed tk n K N G V R M n' c' q' K' N' G' V' s R' M' := by
  intro m
  induction m with
  | zero =>
    intro k i cd U w st n c q K N G V L R M f f' hm _ _ _ _ _ _ _ _ h
    obtain ⟨C, -, hj⟩ := ST_JK h
    have := hj.1.2.1
    omega
  | succ m ih =>
    intro k i cd U w st n c q K N G V L R M f f' hm hf hf' hi hi' hn10 hV2 hc hq h
    obtain ⟨C, hCl, hj⟩ := ST_JK h
    have hkt := hj.1.2.1
    have hy5 := h.1.2.1.2.1
    have b2 : V n0 2 = qi (tk k).1 := hj.1.2.2.1.2.1
    have b10 : V n0 10 = qi 0 := hj.1.2.2.2.1.2.2.1
    have hb := (hW.2 k hkt).1
    have h3n := nR3 (U := U)
    obtain ⟨g, rfl⟩ : ∃ g, f = g + 1 := ⟨f - 1, by omega⟩
    obtain ⟨g', rfl⟩ : ∃ g', f' = g' + 1 := ⟨f' - 1, by omega⟩
    have e3 : (R 0 3 = 0) ↔ (tk k).1 = 0 := by
      rcases hj.2.2.2.2.2.2 with ⟨e, a, -⟩ | ⟨e, a, -⟩ | ⟨e, a, -⟩ | ⟨e, a, -⟩ | ⟨e, a, -⟩ | ⟨e, -, -, a⟩
      · rw [a, e]; exact ⟨fun _ => rfl, fun _ => rfl⟩
      · rw [a, q_lit, q_eq (by omega) (by omega)]; omega
      · rw [a, q_lit, q_eq (by omega) (by omega)]; omega
      · rw [a, q_lit, q_eq (by omega) (by omega)]; omega
      · rw [a, q_lit, q_eq (by omega) (by omega)]; omega
      · rcases a with a | a
        · rw [a, q_lit, q_eq (by omega) (by omega)]; omega
        · rw [a, q_lit, q_eq (by omega) (by omega)]; omega
    rw [kU_1, zU_1, if_neg (show ¬ (80 : Int32) < qi i by rw [q_lit, q_lt (by omega) (by omega)]; omega), if_pos (show V n0 10 = 0 from b10), if_pos (show R 0 8 = 0 from hj.2.2.1.1)]
    by_cases hend : (tk k).1 = 0
    · rw [if_pos (show V n0 2 = 0 by rw [b2, hend]; rfl), if_pos (e3.mpr hend)]
      exact ⟨n, c, q, K, N, G, V, L, i, R, M, rfl, rfl, fun x _ => ⟨rfl, rfl, rfl, rfl⟩, ⟨RQ_r, Nat.le_refl _, by omega, by omega, hy5⟩, Or.inl ⟨k, cd, U, w, st, h, hend, hV2, hi⟩⟩
    have hi80 := hi' hend
    rw [if_neg (show ¬ V n0 2 = 0 by rw [b2, q_lit, q_eq (by omega) (by omega)]; exact hend), if_neg (show ¬ R 0 3 = 0 from fun e => hend (e3.mp e)), if_neg (show ¬ qi i = 80 by rw [q_lit, q_eq (by omega) (by omega)]; omega)]
    obtain ⟨x, ⟨R1, M1⟩, es, es', n1, c1, q1, K1, N1, G1, V1, L1, rfl, hS2⟩ := s_stmt (K := K) (L := L) hA hW hn10 h hend
    dsimp only at hS2
    obtain ⟨hfr, ⟨hq1, hV12, hG15, hn1⟩, hout⟩ := hS2
    rw [es, es', o_bind, o_bind]
    dsimp only
    unfold f_X5_readUnion_45
    rw [show (1 : Int32) = qi 1 from rfl, q_add]
    -- a fault, from here
    have hflt : ∀ (V2 : zI) (L2 : zL) (R2 : zI) (M2 : zL), (∀ x, x < n0 → V2 x = V1 x) → RQ b R1 M1 R2 M2 → FL n0 tn V2 R2 → c1 + nR U ≤ 3 → q1 + 1600 * nR U ≤ 4800 → f_X5_skipSign N1 G1 n0 59 V1 L1 = some (V2, L2) → f_finishes (qi (i + 1)) R1 M1 = some (R2, M2) → ∃ n' c' q' K' N' G' V' L' s R' M', ((f_X5_skipSign N1 G1 n0 59 V1 L1).bind fun r1 => (G1 n0 5).bind fun v2 => zfix b_X5_readUnion_2 g (n0, qi (i + 1), n1, c + c1, q + q1, K1, N1, G1, z_uI r1.1 v2 2 (r1.1 v2 2 + qi 1), r1.2)) = some (n', c', q', K', N', G', V', L') ∧ ((f_finishes (qi (i + 1)) R1 M1).bind fun r2 => zfix b_union_109 g' (qi (i + 1), r2.1, r2.2)) = f_union_138 (qi s) R' M' ∧ UF n0 b tn tl t ed tk n K N G V R M n' c' q' K' N' G' V' s R' M' := by
      intro V2 L2 R2 M2 hv2 hq2 hfl hc1 hq1' ek er
      rw [ek, er, o_bind, o_bind, hG15, o_bind]
      obtain ⟨g0, rfl⟩ : ∃ g0, g = g0 + 1 := ⟨g - 1, by omega⟩
      obtain ⟨g0', rfl⟩ : ∃ g0', g' = g0' + 1 := ⟨g' - 1, by omega⟩
      have hfx := FL_x (x := V2 (n0 + 1) 2 + qi 1) hfl
      obtain ⟨u1, u2⟩ := uE (f := g0) (f' := g0') (x1 := qi (i + 1)) (x2 := qi (i + 1)) (n := n1) (c := c + c1) (q := q + q1) (K := K1) (N := N1) (G := G1) (L := L2) (M := M2) hfx
      refine ⟨_, _, _, _, _, _, _, _, i + 1, R2, M2, u1, u2, fun x hx => ⟨(hfr x hx).1, (hfr x hx).2.1, (hfr x hx).2.2.1, ?_⟩, ⟨RQ_t hq1 hq2, hn1, by omega, by omega, hG15⟩, Or.inr hfx⟩
      rw [z_neP (by omega), hv2 x hx]
      exact (hfr x hx).2.2.2
    rcases hout with ⟨k1, cd1, U1, w1', st1, hk1, hst1, hc1, hq1'⟩ | ⟨hbad, hc1, hq1'⟩
    case inr =>
      rcases hbad with ⟨k', C', p1, p2, p3, p4, p5, p6, p7⟩ | hfl
      · obtain ⟨⟨V2, L2⟩, ek, el, hk⟩ := k_skip (L := L1) (s := 59) p1 p2 hW p3 (by omega)
        dsimp only at el hk
        subst el
        have her : f_finishes (qi (i + 1)) R1 M1 = some (R1, M1) := z_finE (f := 1) (by omega) p6
        rcases hk with ⟨hs, -⟩ | ⟨-, hk⟩
        · exact absurd hs.1 (by omega)
        · have hfp : fp (tk k') = (tk k').2.1 := by unfold fp; rw [if_pos p5]
          rw [hfp] at hk
          exact hflt V2 L2 R1 M1 (fun x hx => hk.1.1 x (by omega) (by omega)) RQ_r ⟨1, (tk k').2.1, _, _, CE_self hk, p6, p7⟩ hc1 hq1' ek her
      · obtain ⟨f0, pl, k', c0, h1, h2, h3⟩ := id hfl
        exact hflt V1 L1 R1 M1 (fun x _ => rfl) RQ_r hfl hc1 hq1' (k_skipE h1) (z_finE h1.2.2.2 h2)
    have h3n1 := nR3 (U := U1)
    obtain ⟨C1, hCl1, hj1⟩ := ST_JK hst1
    have hkt1 := hj1.1.2.1
    have hT1 := hst1.2.2.2.1.1
    obtain ⟨⟨V2, L2⟩, ek, el, hk⟩ := k_skip (L := L1) (s := 59) hst1.1.1 hst1.1.2.2.1 hW hj1.1 (by omega)
    dsimp only at el hk
    subst el
    obtain ⟨⟨R2, M2⟩, er, hr⟩ := z_fin hi80 hA hP hW hT1 hkt1 hj1.2
    dsimp only at hr
    rcases hk with ⟨hs, hk⟩ | ⟨hs, hk⟩
    case inr =>
      have hr' : ZE R1 M1 1 (fp (tk k1)) R2 M2 := by
        rcases hr with ⟨g1, -⟩ | ⟨g1, -⟩ | ⟨-, g1⟩
        · exact absurd g1 hs
        · exact absurd g1 hs
        · exact g1
      have hF : JF n0 (n0 + 9) V1 tn R1 M1 V2 R2 M2 := ⟨_, _, ⟨_, _, hk, by omega⟩, hr'⟩
      exact hflt V2 L2 R2 M2 (JF_v (b := b) hF).1 (JF_v hF).2.1 (FL_J hF) (by omega) (by omega) ek er
    have hk2 := hk.2.1
    have ek' : f_X5_skipSign N1 G1 n0 59 V1 L2 = some (V2, L2) := ek
    rw [ek', er, o_bind, o_bind, hG15, o_bind]
    have e22 : V2 (n0 + 1) 2 + qi 1 = qi (i + 1) := by rw [hk.1.1 (n0 + 1) (by omega) (by omega), hV12, hV2, q_add]
    dsimp only
    rw [e22]
    have v3x : ∀ x, x < n0 → z_uI V2 (n0 + 1) 2 (qi (i + 1)) x = V x := fun x hx => by
      rw [z_neP (by omega), hk.1.1 x (by omega) (by omega)]
      exact (hfr x hx).2.2.2
    rcases hr with ⟨-, h80, hr⟩ | ⟨-, h80, hne, hr⟩ | ⟨g1, -⟩
    · have hst2 := S1_K (r := (V2, L2)) (r' := (R2, M2)) hst1 (show k1 < k1 + 1 by omega) rfl hCl1 ⟨hk, hr⟩
      dsimp only at hst2
      have hst3 : ST n0 b tn tl t ed tk (k1 + 1) cd1 U1 w1' st1 n1 N1 G1 (z_uI V2 (n0 + 1) 2 (qi (i + 1))) R2 M2 := by
        refine ST_x hst2 (fun x hx => z_neP (by omega)) rfl rfl rfl rfl rfl rfl rfl ?_ hst2.2.2.2.2.1.1 hst2.2.2.1 rfl
        have hc := hst2.1.2.2.2.1
        have h6 := hst2.1.2.2.2.2
        obtain ⟨tw, ct, way, encl, lost, rul, nam⟩ := U1
        obtain ⟨c1, c2, c3, c4⟩ := hc
        refine ⟨⟨?_, ?_, ?_, ?_⟩, ?_, ?_, fun r hr => ⟨(c4 r hr).1, fun l hl => ?_⟩⟩
        · rw [z_neK (by omega)]; exact c1.1
        · rw [z_neK (by omega)]; exact c1.2.1
        · rw [z_neK (by omega)]; exact c1.2.2.1
        · rw [z_neK (by omega)]; exact c1.2.2.2
        · rw [z_neP (by omega)]; exact c2
        · rw [z_neP (by omega), z_neP (by omega)]; exact c3
        · obtain ⟨p, p1, p2, p3, p4⟩ := (c4 r hr).2 l hl
          have := h6 r p hr p1
          exact ⟨p, p1, p2, p3, by rw [z_neP (by omega)]; exact p4⟩
      obtain ⟨n', c', q', K', N', G', V', L', s, R', M', u1, u2, u3, ⟨u4, u5, u6, u7, u8⟩, u9⟩ := ih (k1 + 1) (i + 1) cd1 U1 w1' st1 n1 (c + c1) (q + q1) K1 N1 G1 (z_uI V2 (n0 + 1) 2 (qi (i + 1))) L2 R2 M2 g g' (by omega) (by omega) (by omega) (by omega) (fun g1 => by
        rcases Nat.lt_or_ge (i + 1) 80 with g2 | g2
        · exact g2
        · exact absurd (h80 (by omega)) g1) (by omega) z_same (by omega) (by omega) hst3
      refine ⟨n', c', q', K', N', G', V', L', s, R', M', u1, u2, fun x hx => ⟨(u3 x hx).1.trans (hfr x hx).1, (u3 x hx).2.1.trans (hfr x hx).2.1, (u3 x hx).2.2.1.trans (hfr x hx).2.2.1, (u3 x hx).2.2.2.trans (v3x x hx)⟩, ⟨RQ_t hq1 (RQ_t (RQ_Z hr.1) u4), by omega, u6, u7, u8⟩, u9⟩
    · have hcs3 : CS n0 (n0 + 9) (z_uI V2 (n0 + 1) 2 (qi (i + 1))) tk tn (k1 + 1) C1 0 (z_uI V2 (n0 + 1) 2 (qi (i + 1))) := CS_x hk (z_neP (by omega)) (z_neP (by omega))
      have d2 : z_uI V2 (n0 + 1) 2 (qi (i + 1)) n0 2 = qi (tk (k1 + 1)).1 := hcs3.2.2.1.2.1
      have d4 : z_uI V2 (n0 + 1) 2 (qi (i + 1)) n0 4 = qi (tk (k1 + 1)).2.2 := hcs3.2.2.1.2.2.2
      have d10 : z_uI V2 (n0 + 1) 2 (qi (i + 1)) n0 10 = qi 0 := hcs3.2.2.2.1.2.2.1
      have hb2 := (hW.2 (k1 + 1) hk2).1
      obtain ⟨⟨V4, L4⟩, e4, el4, h4⟩ := k_fail (N := N1) (G := G1) (L := L2) (f := 6) (pl := (tk (k1 + 1)).2.2) hcs3 hst1.1.1.2.2.1.2.2.2.2.1 (by omega)
      dsimp only at el4 h4
      subst el4
      have hfl : FL n0 tn V4 R2 := ⟨6, (tk (k1 + 1)).2.2, _, _, CE_self h4, hr.2.1, hr.2.2.1⟩
      obtain ⟨g0, rfl⟩ : ∃ g0, g = (g0 + 1) + 1 := ⟨g - 2, by omega⟩
      obtain ⟨g0', rfl⟩ : ∃ g0', g' = g0' + 1 := ⟨g' - 1, by omega⟩
      obtain ⟨u1, u2⟩ := uE (f := g0) (f' := g0') (x1 := qi (i + 1) + 1) (x2 := qi (i + 1)) (n := n1) (c := c + c1) (q := q + q1) (K := K1) (N := N1) (G := G1) (L := L4) (M := M2) hfl
      refine ⟨n1, c + c1, q + q1, K1, N1, G1, V4, L4, i + 1, R2, M2, ?_, u2, fun x hx => ⟨(hfr x hx).1, (hfr x hx).2.1, (hfr x hx).2.2.1, ?_⟩, ⟨RQ_t hq1 (RQ_Z hr.1), by omega, by omega, by omega, hG15⟩, Or.inr hfl⟩
      · rw [kU_1, if_neg (show ¬ (80 : Int32) < qi (i + 1) by rw [q_lit, q_lt (by omega) (by omega)]; omega), if_pos (show z_uI V2 (n0 + 1) 2 (qi (i + 1)) n0 10 = 0 from d10), if_neg (show ¬ z_uI V2 (n0 + 1) 2 (qi (i + 1)) n0 2 = 0 by rw [d2, q_lit, q_eq (by omega) (by omega)]; exact hne), if_pos (show qi (i + 1) = 80 by rw [h80]; rfl), d4, show (6 : Int32) = qi 6 from rfl, e4, o_bind]
        exact u1
      · rw [h4.1.1 x (by omega) (by omega)]
        exact v3x x hx
    · exact absurd hs g1
end
