section
variable {b fr k o tn tl wo y yt a0 a1 a2 pc H B lv off : Nat} {bo : Bool} {V0 V R0 R R1 : zI} {L M M0 M1 : zL} {N : Nat → Nat} {G : zG} {ed t : Nat → Nat} {tk : Nat → tkT} {T : tkT} {C O P : List Nat} {F : T_GR}
theorem go_bad {o1 : Nat} {C1 O1 : List Nat} {F1 : List fmT} (h : RS b fr R0 M0 ed tk k C1 O1 o1 1 F1 R M) (hb : (tk k).1 ≠ 5 → zW (f_goesOn R M) (fun r => r.1 = qi 0 ∧ RE b fr R0 M0 1 (tk k).2.2 r.2.1 r.2.2)) : ∃ R' M', rg 1 (1, R, M) (0, R', M') ∧ RE b fr R0 M0 1 (fp (tk k)) R' M' := by
  unfold fp
  by_cases e : (tk k).1 = 5
  · rw [if_pos e]
    exact st_goE (y := 0) (by omega) h.2.2.1.2.2.2.2.2.2 (g_lex h e)
  · rw [if_neg e]
    exact st_goE (y := 0) (by omega) h.2.2.1.2.2.2.2.2.2 (hb e)
theorem op_bad {o1 w : Nat} {C1 O1 : List Nat} {F1 : List fmT} (hw : w ≤ 1) (h : RS b fr R0 M0 ed tk k C1 O1 o1 0 F1 R M) (hb : (tk k).1 ≠ 5 → zW (f_operand R M) (fun r => r.1 = qi w ∧ RE b fr R0 M0 1 (tk k).2.2 r.2.1 r.2.2)) : ∃ R' M', rg 1 (1, R, M) (0, R', M') ∧ RE b fr R0 M0 1 (fp (tk k)) R' M' := by
  unfold fp
  by_cases e : (tk k).1 = 5
  · rw [if_pos e]
    exact st_opE (w' := 1) (by omega) h.2.2.1.2.2.2.2.2.2 (o_lex h e)
  · rw [if_neg e]
    exact st_opE hw h.2.2.1.2.2.2.2.2.2 (hb e)
set_option maxHeartbeats 2000000 in
theorem x_cmp (hA : AH t tl ed tk tn) (hE : EV b wo R0 t tl) (hC : CV N G y yt a0 a1 a2 pc tn tl) (hV : TV V0 yt a0 a1 a2 tn tk) (hW : TW tk tn) (ho : o ≤ 7) (hS : SX b fr R0 M0 ed tk y pc V0 tn N G L F.2.2.2.2.1 5 5 3 false (8 * o + 3) 2 prS qA o) : SX b fr R0 M0 ed tk y pc V0 tn N G L (f_X5_readComparison F) 4 4 2 true (8 * o + 2) 3 prC (fun _ ph' T => ph' = 1 ∧ ¬ ari T) o := by
  intro V R M k C O x ph bg pr bs Fr hcs hrs hpre hlow hbs hol hFr hx hbg hk
  obtain ⟨⟨ht, rfl⟩, hn⟩ := hpre
  have htl := hC.2.2.2
  have hd := hC.2.2.1.2.2.2.2.1
  unfold f_X5_readComparison g_X5_readComparison
  refine zW_call (hS V R M k C O x 0 bg pr bs Fr hcs hrs ⟨by omega, fun _ => hn⟩ (low_le hlow (by omega)) hbs (by omega) hFr hx hbg hk) ?_
  rintro ⟨V1, L1⟩ ⟨rfl, h1⟩
  dsimp only at h1 ⊢
  rcases h1 with ⟨m, R1, M1, k1, c1, P1, ph1, e1, e2, e3, e4, e5, e6, e7, e8, e9⟩ | h1
  case inr =>
    obtain ⟨m1, R1, M1, k1, f1, pl, cc, a1, a2, a3, a4, a5, a6⟩ := id h1
    refine zW_if0 (by rw [a4.2.2.1.2.2.1]; decide) ?_
    unfold f_X5_readComparison_20
    rw [if_neg (by decide), if_neg (by decide), if_neg (by decide), k_fhE a4]
    exact zW_some ⟨rfl, Or.inr h1⟩
  obtain ⟨hp1, hna⟩ := qA_ari e9
  subst hp1
  have hk1 := e3.2.1
  have hn0 : nots P1 = 0 := nots_0 (pnd_le e5 (by omega))
  rw [hn0, Nat.add_zero] at e4
  obtain ⟨w1, w2, w3, w4, -⟩ := hW.2 k1 hk1
  have b2 : V1 y 2 = qi (tk k1).1 := e3.2.2.1.2.1
  have b3 : V1 y 3 = qi (tk k1).2.1 := e3.2.2.1.2.2.1
  have hCl : (C ++ (c1 ++ P1)).length = C.length + (c1.length + P1.length) := by rw [List.length_append, List.length_append]
  have hCl2 : (C ++ c1).length = C.length + c1.length := List.length_append
  by_cases hcm : cmS (tk k1)
  case neg =>
    obtain ⟨R2, M2, g2, r2⟩ := go_bad e4 (fun h5 => g_0E e4 h5 (by omega) hx ht hna hcm)
    have hfin : zW (f_X5_failHere N G y V1 L1) (fun r => r.2 = L1 ∧ (XK b fr R0 M0 ed tk y pc V0 tn 4 true (8 * o + 2) 3 (fun ph' T => ph' = 1 ∧ ¬ ari T) k C O o x pr bs Fr R M r.1 ∨ XE b fr R0 M0 y pc V0 tn k k C.length R M r.1)) := by
      refine zW_mono (k_fh hW e3 hd) ?_
      rintro ⟨V2, L2⟩ ⟨rfl, h2⟩
      exact ⟨rfl, Or.inr (XE_mk h2 r2 (rg_t e2 g2) (by omega) (by omega) (by omega))⟩
    have hfin' : zW ((f_X5_failHere N G y V1 L1).bind fun r1 => some (r1.1, r1.2)) (fun r => r.2 = L1 ∧ (XK b fr R0 M0 ed tk y pc V0 tn 4 true (8 * o + 2) 3 (fun ph' T => ph' = 1 ∧ ¬ ari T) k C O o x pr bs Fr R M r.1 ∨ XE b fr R0 M0 y pc V0 tn k k C.length R M r.1)) := by
      refine zW_call hfin ?_
      rintro ⟨V2, L2⟩ h2
      exact zW_some h2
    by_cases e1' : (tk k1).1 = 1
    · refine zW_if1 (by rw [b2, e1']; rfl) ?_
      rw [b3]
      unfold f_X5_readComparison_20
      have hh := w4 e1'
      refine zW_if0 (by rw [q_lit, q_eq (by omega) (by omega)]; exact fun g => hcm ⟨e1', Or.inl g⟩) (zW_if0 (by rw [q_lit, q_eq (by omega) (by omega)]; exact fun g => hcm ⟨e1', Or.inr (Or.inl g)⟩) (zW_if0 (by rw [q_lit, q_eq (by omega) (by omega)]; exact fun g => hcm ⟨e1', Or.inr (Or.inr g)⟩) hfin'))
    · refine zW_if0 (by rw [b2, q_lit, q_eq (by omega) (by omega)]; exact e1') ?_
      unfold f_X5_readComparison_20
      rw [if_neg (by decide), if_neg (by decide), if_neg (by decide)]
      exact hfin'
  have hcc : ∃ cc, (cc = 14 ∨ cc = 15 ∨ cc = 16) ∧ tS (tk k1) (cmC cc) := by
    obtain ⟨g1, g⟩ := hcm
    rcases g with g | g | g
    · exact ⟨14, Or.inl rfl, g1, g⟩
    · exact ⟨15, Or.inr (Or.inl rfl), g1, g⟩
    · exact ⟨16, Or.inr (Or.inr rfl), g1, g⟩
  obtain ⟨cc, hc3, hs⟩ := hcc
  have q : (14 ≤ cc ∧ cc ≤ 16) ∧ isop cc ∧ rk cc = 4 ∧ nots [cc] = 0 ∧ cOf cc = cc ∧ (5 ≤ cc ∧ cc ≤ 16) ∧ decide (cc = 12 ∨ cc = 13) = false ∧ decide (12 ≤ cc) = true := by
    rcases hc3 with rfl | rfl | rfl
    all_goals decide
  obtain ⟨q1, q2, q3, q4, q5, q6, q7, q8⟩ := q
  have h10 : (tk k1).1 ≠ 0 := by have := hs.1; omega
  have hk2 := hW.1 k1 hk1 h10
  obtain ⟨R2, M2, g2, r2⟩ := st_goK e4.2.2.1.2.2.2.2.2.2 (g_cmp hA hE hk2 q1 hs ht hx e5 (low_le hlow (by omega)) hbs (by omega) (by omega) (by omega) (by omega) e4)
  rw [List.append_assoc] at r2
  have h44 : zW (f_X5_readComparison_44 F N G y (qi (cmC cc)) V1 L1) (fun r => r.2 = L1 ∧ (XK b fr R0 M0 ed tk y pc V0 tn 4 true (8 * o + 2) 3 (fun ph' T => ph' = 1 ∧ ¬ ari T) k C O o x pr bs Fr R M r.1 ∨ XE b fr R0 M0 y pc V0 tn k k C.length R M r.1)) := by
    unfold f_X5_readComparison_44
    refine zW_call (k_take hC hV hW e3 h10) ?_
    rintro ⟨V3, L3⟩ ⟨rfl, h3⟩
    dsimp only at h3 ⊢
    refine zW_call (hS V3 R2 M2 (k1 + 1) (C ++ (c1 ++ P1)) (cc :: O) x 1 0 pr bs Fr h3 r2 ⟨by omega, fun _ g => absurd g (by decide)⟩ (Or.inr ⟨cc, O, rfl, q2, by omega⟩) (Nat.le_succ_of_le hbs) (by show O.length + 1 ≤ _; omega) hFr hx (by omega) (by omega)) ?_
    rintro ⟨V4, L4⟩ ⟨rfl, h4⟩
    dsimp only at h4 ⊢
    have hend : zW (f_X5_emit N G y (qi cc) V4 L4) (fun r => r.2 = L4 ∧ (XK b fr R0 M0 ed tk y pc V0 tn 4 true (8 * o + 2) 3 (fun ph' T => ph' = 1 ∧ ¬ ari T) k C O o x pr bs Fr R M r.1 ∨ XE b fr R0 M0 y pc V0 tn k k C.length R M r.1)) := by
      rcases h4 with ⟨m4, R4, M4, k4, c4, P4, ph4, b1, b2, b3, b4, b5, b6, b7, b8, b9⟩ | h4
      · have hCl4 : ((C ++ (c1 ++ P1)) ++ (c4 ++ P4)).length = C.length + (c1.length + P1.length) + (c4.length + P4.length) := by rw [List.length_append, hCl, List.length_append]
        obtain ⟨hp4, hna4⟩ := qA_ari b9
        subst hp4
        have hk4 := b3.2.1
        have hem := k_emit (L := L4) (c := cc) hC b3 (by omega)
        rw [q5] at hem
        refine zW_mono hem ?_
        rintro ⟨V5, L5⟩ ⟨rfl, h5⟩
        dsimp only at h5 ⊢
        have h5' : CS y pc V0 tk tn k4 (C ++ ((c1 ++ P1 ++ c4) ++ (P4 ++ [cc]))) o V5 := by simpa only [List.append_assoc] using h5
        have hn4 : nots P4 = 0 := nots_0 (pnd_le b5 (by omega))
        have hpn : pnd 4 (P4 ++ [cc]) := by
          intro a ha
          rcases List.mem_append.mp ha with ha | ha
          · exact ⟨(b5 a ha).1, by have := (b5 a ha).2; omega⟩
          · rw [List.mem_singleton.mp ha]; exact ⟨q2, by omega⟩
        have b4' : RS b fr R0 M0 ed tk k4 (C ++ (c1 ++ P1 ++ c4)) ((P4 ++ [cc]) ++ O) (o + nots (P4 ++ [cc])) 1 ((x, 1, 0, pr, bs) :: Fr) R4 M4 := by
          rw [nots_0 hpn]
          rw [hn4] at b4
          simpa only [List.append_assoc, List.cons_append, List.nil_append] using b4
        refine ⟨rfl, Or.inl ⟨m + 1 + m4, R4, M4, k4, c1 ++ P1 ++ c4, P4 ++ [cc], 1, by omega, rg_t (rg_t e2 g2) b2, h5', b4', hpn, ?_, ?_, ?_, rfl, hna4⟩⟩
        · rw [List.length_append]; show P4.length + 1 ≤ 3; omega
        · rw [List.length_append, List.length_append, List.length_append]; show c1.length + P1.length + c4.length + (P4.length + 1) + k ≤ k4; omega
        · have ht' := ty_bin (A := c1 ++ P1) (D := c4 ++ P4) (H := 8 * o + 2) q6 (by rw [q7]; exact ty_mono e8 (by omega)) (by rw [q7]; exact b8)
          rw [q8] at ht'
          simpa only [List.append_assoc] using ht'
      · refine zW_mono (XE_em (kc := k) (cl := C.length) hC (by omega) (XE_tr (k := k) (kc := k + 1) h4 (rg_t e2 g2) (by omega) (by omega))) ?_
        rintro r ⟨h5, h6⟩
        exact ⟨h5, Or.inr h6⟩
    have h77 : ∀ z : Int32, z = qi cc → zW (f_X5_readComparison_77 F N G y z V4 L4) (fun r => r.2 = L4 ∧ (XK b fr R0 M0 ed tk y pc V0 tn 4 true (8 * o + 2) 3 (fun ph' T => ph' = 1 ∧ ¬ ari T) k C O o x pr bs Fr R M r.1 ∨ XE b fr R0 M0 y pc V0 tn k k C.length R M r.1)) := fun z hz => by
      rw [hz]
      unfold f_X5_readComparison_77
      refine zW_call hend ?_
      rintro ⟨V5, L5⟩ h5
      exact zW_some h5
    rcases hc3 with rfl | rfl | rfl
    · exact zW_if1 (by rfl) (h77 _ rfl)
    · exact zW_if0 (by decide) (zW_if1 (by rfl) (h77 _ rfl))
    · exact zW_if0 (by decide) (zW_if0 (by decide) (h77 _ rfl))
  refine zW_if1 (by rw [b2, hs.1]; rfl) ?_
  rw [b3, hs.2]
  unfold f_X5_readComparison_20
  rcases hc3 with rfl | rfl | rfl
  · exact zW_if1 (by rfl) h44
  · exact zW_if0 (by decide) (zW_if1 (by rfl) h44)
  · exact zW_if0 (by decide) (zW_if0 (by decide) (zW_if1 (by rfl) h44))
end
