section
variable {b k cd n0 n tn tl tw u p7 : Nat} {V V' R R' : zI} {L M M' : zL} {K N : Nat → Nat} {G : zG} {ed t w st : Nat → Nat} {tk : Nat → tkT} {C : List Nat} {U : aU}
theorem z_t95E {f pl : Nat} {R0 : zI} {M0 : zL} (h : ZE R0 M0 f pl R M) : f_towning_95 R M = some (R, M) := by
  unfold f_towning_95
  rw [if_neg (ZE_gt h).1]
theorem z_t58 {R0 : zI} {M0 : zL} (h : RZ R0 M0 ed tk k R M) (h5 : (tk k).1 ≠ 5) : zW (f_towning_58 R M) (fun r => ZE R0 M0 1 (fp (tk k)) r.1 r.2) := by
  have hz := ZE_mk (f := 1) (pl := (tk k).2.2) h (by omega)
  have hz' : ZE R0 M0 1 (fp (tk k)) (RB R 1 (tk k).2.2) M := by unfold fp; rw [if_neg h5]; exact hz
  unfold f_towning_58
  rw [show (1 : Int32) = qi 1 from rfl, z_blame h, o_bind]
  unfold f_towning_67
  rw [if_neg (ZE_gt hz).2, z_t95E hz]
  exact zW_some hz'
set_option maxHeartbeats 4000000 in
theorem s_town (hA : AH t tl ed tk tn) (hW : TW tk tn) (h : ST n0 b tn tl t ed tk k cd U w st n N G V R M) (h0 : (tk k).1 ≠ 0) : zX (f_X5_readTown N G n0 V L) (f_towning R M) (S1 n0 b tn tl t ed tk k cd U n N G V R M L) := by
  obtain ⟨C, hCl, hj⟩ := ST_JK h
  obtain ⟨tw, ct, way, encl, lost, rul, nam⟩ := U
  obtain ⟨hCU, ⟨h26, h2b, h3b⟩, hnm, -, -, -⟩ := ST_CU h
  have hCV := h.1.1
  have hTV := h.1.2.2.1
  have hT := h.2.2.2.1.1
  have hun := h.1.2.1.1
  have hy5 := h.1.2.1.2.1
  have hb2 := h.2.2.2.2.2.1
  have hk1 := hW.1 k hj.1.2.1 h0
  have htw := hCU.1.2
  have hd9 := hCV.2.2.1.2.2.2.2.1
  unfold f_X5_readTown f_towning
  rw [hy5, o_bind, hun.2.1.1, o_bind]
  unfold g_X5_readTown
  rw [if_pos (show inB (R 0 26) 2 by rw [h26]; exact q_inP hb2 (by omega))]
  have e2 : R 2 (R 0 26).toNatClampNeg = qi tw := by rw [h26, q_nn (by omega)]; exact h2b
  have hV0 : V (n0 + 1) 0 = qi tw := hCU.1.1
  by_cases hfull : tw = 6
  · rw [if_neg (show ¬ V (n0 + 1) 0 < 6 by rw [hV0, hfull]; decide), if_pos (show R 2 (R 0 26).toNatClampNeg = 6 by rw [e2, hfull]; rfl)]
    unfold f_towning_20
    have b4 : V n0 4 = qi (tk k).2.2 := hj.1.2.2.1.2.2.2
    rw [b4]
    obtain ⟨⟨V1, L1⟩, e1, rfl, g1⟩ := k_fail (N := N) (G := G) (L := L) (f := 6) (pl := (tk k).2.2) hj.1 hd9 (by omega)
    obtain ⟨⟨z, R1, M1⟩, f1, rfl, g1'⟩ := z_cnt1 hj.2
    dsimp only at g1 g1'
    rw [show (6 : Int32) = qi 6 from rfl, e1, o_bind, f1, o_bind, if_pos (show (0 : Int32) = 0 from rfl)]
    exact zX_some (S1_F rfl ⟨_, _, ⟨_, _, g1, by omega⟩, g1'⟩)
  rw [if_pos (show V (n0 + 1) 0 < 6 by rw [hV0, q_lit, q_lt (by omega) (by omega)]; omega), if_neg (show ¬ R 2 (R 0 26).toNatClampNeg = 6 by rw [e2, q_lit, q_eq (by omega) (by omega)]; exact hfull)]
  unfold f_towning_20
  obtain ⟨⟨V1, L1⟩, e1, rfl, g1⟩ := k_take (L := L) hCV hTV hW hj.1 h0
  obtain ⟨⟨z, R1, M1⟩, f1, rfl, g1'⟩ := z_cnt0 hA hT hk1 hj.2
  dsimp only at g1 g1'
  rw [e1, o_bind, f1, o_bind]
  dsimp only
  rw [if_neg (show ¬ (1 : Int32) = 0 by decide)]
  have j1 : JK n0 (n0 + 9) V tk tn R M ed C (k + 1) V1 R1 M1 := ⟨g1, g1'⟩
  have b2 : V1 n0 2 = qi (tk (k + 1)).1 := g1.2.2.1.2.1
  have b3 : V1 n0 3 = qi (tk (k + 1)).2.1 := g1.2.2.1.2.2.1
  have b4 : V1 n0 4 = qi (tk (k + 1)).2.2 := g1.2.2.1.2.2.2
  have hT1 := g1'.2.2.2
  have hkb := (hW.2 (k + 1) hk1).1
  by_cases h3 : (tk (k + 1)).1 = 3
  case neg =>
    rw [if_neg (show ¬ V1 n0 2 = 3 by rw [b2, q_lit, q_eq (by omega) (by omega)]; exact h3)]
    obtain ⟨⟨V2, L2⟩, e2', rfl, g2⟩ := k_fh (N := N) (G := G) (L := L1) hW g1 hd9
    dsimp only at g2
    rw [e2', o_bind]
    have href : zW ((f_lex R1 M1).bind fun r2 => (if (r2.1 0 8) ≤ 0 then (if (r2.1 0 3) = 1 then (f_isOwn (r2.2 0 7) r2.1 r2.2).bind fun r3 => (if r3.1 = 0 then f_towning_67 r3.2.1 r3.2.2 else f_towning_58 r3.2.1 r3.2.2) else f_towning_58 r2.1 r2.2) else some (r2.1, r2.2))) (fun r => ZE R M 1 (fp (tk (k + 1))) r.1 r.2) := by
      by_cases h5 : (tk (k + 1)).1 = 5
      · rw [z_lex5 g1' h5, o_bind]
        have hz := ZE_mk (f := 1) (pl := fp (tk (k + 1))) g1' (by omega)
        exact zW_if0 (ZE_gt hz).1 (zW_some hz)
      · rw [tk_lex0 hT1 h5, o_bind]
        dsimp only
        refine zW_if1 (by rw [g1'.2.1.1]; exact le00) ?_
        rcases hT1.2.2 with ⟨c, a, -⟩ | ⟨c, a, -⟩ | ⟨c, a, -⟩ | ⟨c, -⟩ | ⟨c, a, -, hv, a7⟩ | ⟨c, -⟩
        · exact zW_if0 (by rw [a]; decide) (z_t58 g1' h5)
        · exact zW_if0 (by rw [a]; decide) (z_t58 g1' h5)
        · exact zW_if0 (by rw [a]; decide) (z_t58 g1' h5)
        · exact absurd c h3
        · refine zW_if1 (by rw [a]; rfl) ?_
          rcases z_own (R := R1) (M := M1) (M1 0 7) with ⟨e, -⟩ | ⟨-, e⟩
          · refine zW_is e ?_
            exact zW_if0 (show ¬ (1 : Int32) = 0 by decide) (z_t58 g1' h5)
          · exact absurd a7 (e _ hv)
        · exact absurd c h5
    obtain ⟨r', er, hr⟩ := href
    rw [er]
    exact zX_some (S1_F rfl ⟨_, _, ⟨_, _, g2, by omega⟩, hr⟩)
  have hl : ∃ l, nmK l ∧ (tk (k + 1)).2.1 = nmC l ∧ M1 0 7 = qI (nmR l) ∧ ∀ i, i < 23 → nmR l ≠ ow i := by
    rcases hT1.2.2 with ⟨c, -⟩ | ⟨c, -⟩ | ⟨c, -⟩ | ⟨-, -, -, c⟩ | ⟨c, -⟩ | ⟨c, -⟩
    · omega
    · omega
    · omega
    · exact c
    · omega
    · omega
  obtain ⟨l, hl, hval, h7, hno⟩ := hl
  have hCU1 := JK_CU j1 hCU
  have h5 : (tk (k + 1)).1 ≠ 5 := by omega
  have e3 : R1 0 3 = qi 1 := by
    rcases hT1.2.2 with ⟨c, a, -⟩ | ⟨c, a, -⟩ | ⟨c, a, -⟩ | ⟨c, a, -⟩ | ⟨c, a, -⟩ | ⟨c, -⟩
    · omega
    · omega
    · omega
    · exact a
    · omega
    · omega
  have hF1 := g1'.1
  have e26 : R1 0 26 = qi b := (hF1.1 26 (by omega) (by omega) (by omega) (by omega) (by omega) (by omega) (by omega)).trans h26
  have e2b : R1 2 b = qi tw := by rw [hF1.2.1 2 (by omega)]; exact h2b
  obtain ⟨z, ez, hz⟩ := k_tn (L := L1) (N := N) (G := G) hun hCU1.1.1 htw (fun k hk => (hCU1.2.1 k hk).1) (fun k hk => (hCU1.2.1 k hk).2) hl
  have hnmd : f_named (M1 0 7) R1 M1 = some (z, R1, M1) := by
    rw [h7]
    obtain ⟨⟨z', R', M'⟩, e, hz', e'⟩ := z_nm (R := R1) (M := M1) hb2 e26 e2b htw (fun k hk => by rw [hF1.2.2.2 12 (by omega)]; exact hnm k hk) (fun k hk => (hCU.2.1 k hk).2) hl
    cases e'
    rw [e, fnd_u (show fnd nam tw l z' from hz') hz]
  have hown : f_isOwn (M1 0 7) R1 M1 = some (0, R1, M1) := by
    have hb := nmR_b hl
    rcases z_own (R := R1) (M := M1) (M1 0 7) with ⟨-, i, hi, e⟩ | ⟨e, -⟩
    · rw [h7, Q_eq (by omega) (ow_b i hi)] at e
      exact absurd e (hno i hi)
    · exact e
  rw [if_pos (show V1 n0 2 = 3 by rw [b2, h3]; rfl), b3, hval, ez, o_bind, tk_lex0 hT1 h5, o_bind]
  dsimp only
  rw [if_pos (show R1 0 8 ≤ 0 by rw [g1'.2.1.1]; exact le00), if_pos (show R1 0 3 = 1 from e3), hown, o_bind, if_pos (show (0 : Int32) = 0 from rfl)]
  dsimp only
  unfold f_towning_67
  rw [if_pos (show R1 0 8 = 0 from g1'.2.1.1), hnmd, o_bind]
  dsimp only
  rcases hz with ⟨rfl, hnone⟩ | ⟨j, hj', rfl, -⟩
  case inr =>
    rw [if_neg (show ¬ qi j = -1 from q_nem (by omega)), if_neg (show ¬ qi j = -1 from q_nem (by omega)), b4]
    obtain ⟨⟨V2, L2⟩, e2', rfl, g2⟩ := k_fail (N := N) (G := G) (L := L1) (f := 2) (pl := (tk (k + 1)).2.2) g1 hd9 (by omega)
    dsimp only at g2
    rw [show (2 : Int32) = qi 2 from rfl, e2', o_bind, z_blame g1', o_bind]
    have hze := ZE_mk (f := 2) (pl := (tk (k + 1)).2.2) g1' (by omega)
    rw [z_t95E hze]
    exact zX_some (S1_F rfl ⟨_, _, ⟨_, _, g2, by omega⟩, hze⟩)
  rw [if_pos (show qm = -1 from rfl), if_pos (show qm = -1 from rfl)]
  have hV10 : V1 (n0 + 1) 0 = qi tw := hCU1.1.1
  rw [if_pos (show inB (V1 (n0 + 1) 0) (N (n0 + 1 + 1)) by rw [hV10, hun.2.2.1]; exact q_inP (by omega) (by omega)), hV10, q_nn (by omega), z_neP (show n0 + 1 ≠ n0 + 1 + 1 by omega), hV10, show (1 : Int32) = qi 1 from rfl, q_add]
  unfold f_towning_95
  have e6 : (6 : Int32) * R1 0 26 + R1 2 (R1 0 26).toNatClampNeg = qi (6 * b + tw) := by rw [e26, q_nn (by omega), e2b, q_lit, q_mul, q_add]
  rw [if_pos (show R1 0 8 ≤ 0 by rw [g1'.2.1.1]; exact le00), if_pos (show inB (R1 0 26) 2 by rw [e26]; exact q_inP hb2 (by omega)), if_pos (show inB ((6 : Int32) * R1 0 26 + R1 2 (R1 0 26).toNatClampNeg) 12 by rw [e6]; exact q_inP (by omega) (by omega)), e6, q_nn (by omega), h7]
  have hst1 := S1_K (r := (V1, L1)) (r' := (R1, M1)) h (show k < k + 1 by omega) rfl hCl j1
  dsimp only at hst1
  obtain ⟨⟨_, _, _, ⟨c1, c2, c3, c4⟩, b6⟩, -, ⟨⟨u1, u2, u3, u4, u5⟩, v1, v2, v3, v4⟩, -, ⟨⟨d1, d2, d3, d4⟩, -⟩, -⟩ := id hst1
  have hsU : ST n0 b tn tl t ed tk (k + 1) cd (tw + 1, ct, way, encl, lost, rul, fun i => if i = tw then l else nam i) w st n N G (z_uI (z_uI V1 (n0 + 1 + 1) tw (qi (nmC l))) (n0 + 1) 0 (qi (tw + 1))) (z_uI R1 2 b (qi (tw + 1))) (z_uL M1 12 (6 * b + tw) (qI (nmR l))) := by
    refine ST_x hst1 (fun x hx => by rw [z_neP (by omega), z_neP (by omega)]) (z_neP (by omega)) (z_neP (by omega)) (z_neP (by omega)) (z_neP (by omega)) (z_neP (by omega)) (z_neP (by omega)) (zL_neP (by omega)) ⟨⟨z_same, ?_, ?_, ?_⟩, ?_, ⟨fun i hi => ?_, ?_⟩, fun r hr => ⟨(c4 r hr).1, fun l' hl' => ?_⟩⟩ ⟨⟨hb2, ?_, z_same, ?_, ?_⟩, ?_, fun i hi => ?_, ?_⟩ ⟨⟨u1, fun i hi hp => ?_, u3, fun i hi hp => ?_, u5⟩, ⟨?_, v1.2⟩, fun i hi => ⟨(v2 i hi).1, fun hp => ?_⟩, v3, fun i hi => ?_⟩ rfl
    · rw [z_neK (by omega), z_neP (by omega)]; exact c1.2.1
    · rw [z_neK (by omega), z_neP (by omega)]; exact c1.2.2.1
    · rw [z_neK (by omega), z_neP (by omega)]; exact c1.2.2.2
    · rw [z_neP (by omega), z_neP (by omega)]; exact c2
    · rw [z_neP (by omega)]
      dsimp only
      by_cases e : i = tw
      · rw [if_pos e, e, z_same]
      · rw [if_neg e, z_neK e]; exact c3.1 i (by omega)
    · rw [z_neP (by omega), z_neP (by omega)]; exact c3.2
    · obtain ⟨p, p1, p2, p3, p4⟩ := (c4 r hr).2 l' hl'
      have := b6 r p hr p1
      exact ⟨p, p1, p2, p3, by rw [z_neP (by omega), z_neP (by omega)]; exact p4⟩
    · rw [z_neP (by omega)]; exact d1.2.1
    · rw [z_neP (by omega)]; exact d1.2.2.2.1
    · rw [z_neP (by omega)]; exact d1.2.2.2.2
    · rw [z_neP (by omega), z_neP (by omega)]; exact d2
    · dsimp only
      by_cases e : i = tw
      · rw [if_pos e, e, zL_same, Q_z]
      · rw [if_neg e, zL_neK (by omega)]; exact d3 i (by omega)
    · rw [z_neP (by omega), z_neP (by omega), z_neP (by omega), z_neP (by omega)]; exact d4
    · have := u2 i hi hp
      show i / 6 < tw + 1 ∧ i % 6 < tw + 1
      have h1 : i / 6 < tw := this.1
      have h2 : i % 6 < tw := this.2
      omega
    · refine u4 i hi (fun hq => hp ?_)
      have h1 : i / 6 < tw := hq.1
      have h2 : i % 6 < tw := hq.2.1
      exact ⟨by show i / 6 < tw + 1; omega, by show i % 6 < tw + 1; omega, hq.2.2⟩
    · show tw + 1 ≤ 6
      omega
    · have := (v2 i hi).2 hp
      exact ⟨by omega, by omega, this.2.2⟩
    · dsimp only
      by_cases e : i = tw
      · rw [if_pos e]; exact hl
      · rw [if_neg e]; exact v4 i (by omega)
  obtain ⟨CU', hcsU, -⟩ := hsU.2.1
  have hcsU : CS n0 (n0 + 9) (z_uI (z_uI V1 (n0 + 1 + 1) tw (qi (nmC l))) (n0 + 1) 0 (qi (tw + 1))) tk tn (k + 1) C 0 (z_uI (z_uI V1 (n0 + 1 + 1) tw (qi (nmC l))) (n0 + 1) 0 (qi (tw + 1))) := CS_x g1 (by rw [z_neP (by omega), z_neP (by omega)]) (by rw [z_neP (by omega), z_neP (by omega)])
  obtain ⟨⟨V2, L2⟩, e2', rfl, g2⟩ := k_take (L := L1) hCV hsU.1.2.2.1 hW hcsU (by omega)
  dsimp only at g2
  have hk2 := hW.1 (k + 1) hk1 (by omega)
  have hRZ : RZ R1 (z_uL M1 12 (6 * b + tw) (qI (nmR l))) ed tk (k + 1) R1 (z_uL M1 12 (6 * b + tw) (qI (nmR l))) := ⟨ZF_r, g1'.2.1, g1'.2.2.1, tkR_fr hT1 rfl rfl rfl rfl (by rw [zL_neP (by omega)])⟩
  obtain ⟨⟨R2, M2⟩, f2', g2'⟩ := z_ahead hA hst1.2.2.2.1.1 hk2 hRZ
  dsimp only at g2'
  rw [e2', o_bind, f2', o_bind]
  dsimp only
  have e26' : R2 0 26 = qi b := (g2'.1.1 26 (by omega) (by omega) (by omega) (by omega) (by omega) (by omega) (by omega)).trans e26
  rw [if_pos (show inB (R2 0 26) 2 by rw [e26']; exact q_inP hb2 (by omega)), if_pos (show inB (R2 0 26) 2 by rw [e26']; exact q_inP hb2 (by omega)), e26', q_nn (by omega), g2'.1.2.1 2 (by omega), e2b, show (1 : Int32) = qi 1 from rfl, q_add]
  have hj2 : JK n0 (n0 + 9) (z_uI (z_uI V1 (n0 + 1 + 1) tw (qi (nmC l))) (n0 + 1) 0 (qi (tw + 1))) tk tn (z_uI R1 2 b (qi (tw + 1))) (z_uL M1 12 (6 * b + tw) (qI (nmR l))) ed C (k + 2) V2 (z_uI R2 2 b (qi (tw + 1))) M2 := by
    refine ⟨g2, ⟨fun j j3 j4 j5 j6 j8 j9 j12 => ?_, fun x hx => ?_, g2'.1.2.2.1, g2'.1.2.2.2⟩, ?_, ?_, ?_⟩
    · rw [z_neP (by omega), z_neP (by omega)]; exact g2'.1.1 j j3 j4 j5 j6 j8 j9 j12
    · by_cases e : x = 2
      · subst e
        unfold z_uI
        rw [g2'.1.2.1 2 (by omega)]
      · rw [z_neP e, z_neP e]; exact g2'.1.2.1 x hx
    · rw [z_neP (by omega)]; exact g2'.2.1
    · rw [z_neP (by omega)]; exact g2'.2.2.1
    · exact tkR_fr g2'.2.2.2 (by rw [z_neP (by omega)]) (by rw [z_neP (by omega)]) (by rw [z_neP (by omega)]) (by rw [z_neP (by omega)]) rfl
  have hfin := S1_K (r := (V2, L2)) (r' := (z_uI R2 2 b (qi (tw + 1)), M2)) hsU (show k + 1 < k + 2 by omega) rfl hCl hj2
  refine zX_some (S1_mk (fun x hx => ?_) ?_ ?_ ⟨k + 2, (tw + 1, ct, way, encl, lost, rul, fun i => if i = tw then l else nam i), w, st, by omega, rfl, hfin⟩)
  · rw [g2.1.1 x (by omega) (by omega), z_neP (by omega), z_neP (by omega)]
    exact g1.1.1 x (by omega) (by omega)
  · refine RQ_t (RQ_x (R2 := z_uI R1 2 b (qi (tw + 1))) (M2 := z_uL M1 12 (6 * b + tw) (qI (nmR l))) (RQ_Z g1'.1) (z_neP (by omega)) (fun j hj => ⟨z_neK hj, by rw [z_neP (by omega)]⟩) (fun j _ => ⟨by rw [z_neP (by omega)], by rw [z_neP (by omega)]⟩) (fun j _ => by rw [z_neP (by omega)]) (fun x hx => z_neP (by omega)) (fun j hj => zL_neK (by omega)) (fun v hv => zL_neP hv)) (RQ_Z hj2.2.1)
  · rw [g2.1.1 (n0 + 1) (by omega) (by omega), z_neK (by omega), z_neP (by omega), g1.1.1 (n0 + 1) (by omega) (by omega)]
end
