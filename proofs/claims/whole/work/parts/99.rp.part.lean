section
variable {b fr k o tn tl wo y yt a0 a1 a2 pc H B lv off : Nat} {bo : Bool} {V0 V R0 R R1 : zI} {L M M0 M1 : zL} {N : Nat → Nat} {G : zG} {ed t : Nat → Nat} {tk : Nat → tkT} {T : tkT} {C O P : List Nat} {F : T_GR}
theorem x_tlE {j kc cl : Nat} (hC : CV N G y yt a0 a1 a2 pc tn tl) (hSE : FX y pc V0 tn N G L F.2.2.2.2.1) (hcl : cl ≤ 2000) (h : XE b fr R0 M0 y pc V0 tn k (kc + 1) cl R M V) : zW (x_tl F N G y (qi j) V L) (fun r => r.2 = L ∧ XE b fr R0 M0 y pc V0 tn k kc cl R M r.1) := by
  obtain ⟨m1, R4, M4, k4, f1, pl, cc, a1, a2, a3, a4, a5, a6⟩ := id h
  unfold x_tl
  rw [hSE V f1 pl k4 cc a4, o_bind]
  dsimp only
  rw [k_skipE a4, o_bind]
  dsimp only
  rw [hSE V f1 pl k4 cc a4, o_bind]
  dsimp only
  rw [k_skipE a4, o_bind]
  refine zW_call (XE_em hC hcl (XE_8 h)) ?_
  rintro ⟨V3, L3⟩ ⟨rfl, h3⟩
  exact zW_some ⟨rfl, h3⟩
set_option maxHeartbeats 2000000 in
theorem x_cho (hA : AH t tl ed tk tn) (hE : EV b wo R0 t tl) (hC : CV N G y yt a0 a1 a2 pc tn tl) (hV : TV V0 yt a0 a1 a2 tn tk) (hW : TW tk tn) (ho : o ≤ 7) (hS : o < 7 → SX b fr R0 M0 ed tk y pc V0 tn N G L F.2.2.2.2.1 5 5 3 false (8 * (o + 1) + 3) 2 prS qA (o + 1)) (hSE : o < 7 → FX y pc V0 tn N G L F.2.2.2.2.1) (hT : o < 7 → SX b fr R0 M0 ed tk y pc V0 tn N G L F.1 1 1 0 true (8 * (o + 1)) (12 - (o + 1)) prT qR (o + 1)) : SX b fr R0 M0 ed tk y pc V0 tn N G L (f_X5_readChoice F) 7 7 5 false (8 * o + 5) 0 (fun x ph bg T => prS x ph bg T ∧ tO T 16) qP o := by
  intro V R M k C O x ph bg pr bs Fr hcs hrs hpre hlow hbs hol hFr hx hbg hk
  have htl := hC.2.2.2
  obtain ⟨⟨V1, L1⟩, et, h1⟩ := k_take (L := L) hC hV hW hcs (by have := hpre.2.1; omega)
  obtain ⟨rfl, h1⟩ := h1
  dsimp only at h1
  have hop := x_open (L := L1) hA hE hC hV hW ho (Or.inr (Or.inr rfl)) hcs hrs hpre.1 hpre.2 hFr hx hbg hk
  rw [et, o_bind] at hop
  unfold f_X5_readChoice g_X5_readChoice
  rw [et, o_bind]
  refine zW_call hop ?_
  rintro ⟨z, V2, L2⟩ ⟨rfl, h2⟩
  dsimp only at h2 ⊢
  rcases h2 with ⟨rfl, o7, h2, R2, M2, g2, r2⟩ | ⟨rfl, h2⟩
  case inr => exact zW_if1 (by rfl) (zW_some ⟨rfl, Or.inr h2⟩)
  refine zW_if0 (by decide) ?_
  rw [if_pos rfl, show fnS 16 = rsOf 18 from rfl] at r2
  refine zW_call (hT o7 V2 R2 M2 (k + 2) C O 6 0 1 (rsOf 18) O.length ((x, ph, 0, pr, bs) :: Fr) h2 r2 ⟨⟨Or.inr (Or.inr rfl), rfl⟩, rfl⟩ (Or.inl rfl) (Nat.le_refl _) (by omega) (by show Fr.length + 1 ≤ _; omega) (by omega) (by omega) (by omega)) ?_
  rintro ⟨V3, L3⟩ ⟨rfl, h3⟩
  dsimp only at h3 ⊢
  rcases h3 with ⟨m, R3, M3, k3, c1, P1, ph1, e1, e2, e3, e4, e5, e6, e7, e8, e9⟩ | h3
  case inr =>
    obtain ⟨m1, R4, M4, k4, f1, pl, cc, a1, a2, a3, a4, a5, a6⟩ := id h3
    rw [k_skipE a4, o_bind]
    refine zW_mono (x_tlE (j := 18) (kc := k) (cl := C.length) hC (hSE o7) (by have := hcs.2.1; omega) (XE_tr (k := k) (kc := k + 1) h3 g2 (by omega) (by omega))) ?_
    rintro r ⟨h5, h6⟩
    exact ⟨h5, Or.inr h6⟩
  obtain ⟨hq, hnj⟩ := qR_cnj e9
  have hp : ph1 = 1 ∨ ph1 = 2 := by
    rcases hq with hq | hq
    · exact Or.inl hq.1
    · exact Or.inr hq
  have hna : ph1 < 2 → ¬ ari (tk k3) := fun h => by
    rcases hq with hq | hq
    · exact hq.2
    · omega
  have hnP : nots P1 ≤ P1.length := by
    have g : ∀ P : List Nat, nots P ≤ P.length := by
      intro P
      induction P with
      | nil => exact Nat.le_refl _
      | cons a P ih =>
        show (if a = 17 then 1 else 0) + nots P ≤ P.length + 1
        by_cases e : a = 17
        · rw [if_pos e]; omega
        · rw [if_neg e]; omega
    exact g P1
  have hk3 := e3.2.1
  have hCl : (C ++ (c1 ++ P1)).length = C.length + (c1.length + P1.length) := by rw [List.length_append, List.length_append]
  have hCl2 : (C ++ c1).length = C.length + c1.length := List.length_append
  refine zW_call (k_skip (s := 44) hC hV hW e3 (by omega)) ?_
  rintro ⟨V4, L4⟩ ⟨rfl, h4⟩
  dsimp only at h4 ⊢
  rcases h4 with ⟨hs, h4⟩ | ⟨hs, h4⟩
  case inr =>
    obtain ⟨R5, M5, g5, r5⟩ := go_bad e4 (fun h5 => g_comE h5 (Or.inr rfl) hs (by omega) hna (fun _ => by omega) (fun _ => hnj) (by show Fr.length + 1 < 20; omega) e4)
    refine zW_mono (x_tlE (j := 18) (kc := k) (cl := C.length) hC (hSE o7) (by have := hcs.2.1; omega) (XE_mk (k := k) (kc := k + 1) h4 r5 (rg_t (rg_t g2 e2) g5) (by omega) (by omega) (by omega))) ?_
    rintro r ⟨h5, h6⟩
    exact ⟨h5, Or.inr h6⟩
  have hk4 := hW.1 k3 hk3 (by have := hs.1; omega)
  have g := g_com hA hE hk4 (Or.inr rfl) hs (by omega) (fun _ => by omega) e5 (Or.inl rfl) (Nat.le_refl _) (by omega) (by omega) (by show Fr.length + 1 < 20; omega) (by omega) (by omega) e4
  rw [if_neg (by decide), List.append_assoc, Nat.add_sub_cancel] at g
  obtain ⟨R4, M4, g4, r4⟩ := st_goK e4.2.2.1.2.2.2.2.2.2 g
  have g24 := rg_t (rg_t g2 e2) g4
  refine zW_mono (x_tail (j := 18) (kc := k3) hA hE hC hV hW (Or.inr (Or.inr rfl)) o7 (hS o7) (hSE o7) h4 r4 (by omega) (by omega) hFr (by omega) (by omega)) ?_
  rintro ⟨V5, L5⟩ ⟨rfl, h5⟩
  refine ⟨rfl, ?_⟩
  rcases h5 with ⟨m5, R5, M5, k5, A, D, f1, f2, f3, f4, f5, f6, f7⟩ | h5
  · refine Or.inl ⟨1 + m + 1 + m5, R5, M5, k5, (c1 ++ P1) ++ (A ++ D ++ [18]), [], ph, by omega, rg_t g24 f2, ?_, ?_, fun a ha => absurd ha List.not_mem_nil, Nat.zero_le _, ?_, ?_, rfl⟩
    · rw [List.append_nil, ← List.append_assoc]; exact f3
    · rw [← List.append_assoc]; exact f4
    · rw [List.length_append, List.length_append, List.length_append, List.length_append]; show c1.length + P1.length + (A.length + D.length + 1) + 0 + k ≤ k5; omega
    · rw [List.append_nil]
      have ht := ty_if (A := c1 ++ P1) (D := A) (E := D) (H := 8 * o + 5) (ty_mono e8 (by omega)) (ty_mono f6 (by omega)) (ty_mono f7 (by omega))
      simpa only [List.append_assoc] using ht
  · exact Or.inr (XE_tr2 h5 g24 (by omega) (by omega))
set_option maxHeartbeats 4000000 in
theorem x_part (hA : AH t tl ed tk tn) (hE : EV b wo R0 t tl) (hC : CV N G y yt a0 a1 a2 pc tn tl) (hV : TV V0 yt a0 a1 a2 tn tk) (hW : TW tk tn) (hw9 : V0 y 9 = qi wo) (hw1 : wo ≤ 1) (ho : o ≤ 7) (hS : o < 7 → SX b fr R0 M0 ed tk y pc V0 tn N G L F.2.2.2.2.1 5 5 3 false (8 * (o + 1) + 3) 2 prS qA (o + 1)) (hX1 : SX b fr R0 M0 ed tk y pc V0 tn N G L (fun N G y V L => F.2.2.2.2.2.2.2.1 N G y (qi 10) V L) 7 7 5 false (8 * o + 5) 0 (fun x ph bg T => prS x ph bg T ∧ tO T 21) qP o) (hX2 : SX b fr R0 M0 ed tk y pc V0 tn N G L (fun N G y V L => F.2.2.2.2.2.2.2.1 N G y (qi 11) V L) 7 7 5 false (8 * o + 5) 0 (fun x ph bg T => prS x ph bg T ∧ tO T 22) qP o) (hX3 : SX b fr R0 M0 ed tk y pc V0 tn N G L F.2.2.2.2.2.2.2.2 7 7 5 false (8 * o + 5) 0 (fun x ph bg T => prS x ph bg T ∧ tO T 16) qP o) : SX b fr R0 M0 ed tk y pc V0 tn N G L (f_X5_readPart F) 7 7 5 false (8 * o + 5) 0 prS qP o := by
  intro V R M k C O x ph bg pr bs Fr hcs hrs hpre hlow hbs hol hFr hx hbg hk
  have htl := hC.2.2.2
  have hd := hC.2.2.1.2.2.2.2.1
  have hk0 := hcs.2.1
  have h37 : R 0 37 = qi 0 := hrs.2.2.1.2.2.2.2.2.2
  have b2 : V y 2 = qi (tk k).1 := hcs.2.2.1.2.1
  have b3 : V y 3 = qi (tk k).2.1 := hcs.2.2.1.2.2.1
  obtain ⟨w1, w2, w3, w4, w5, w6, -⟩ := hW.2 k hk0
  have hr1 := p_15 (y := 0) hrs
  unfold f_X5_readPart g_X5_readPart
  by_cases e2 : (tk k).1 = 2
  · refine zW_if1 (by rw [b2, e2]; rfl) ?_
    have hv := w5 e2
    have hk1 := hW.1 k hk0 (by omega)
    rw [b3, show (100 : Int32) = qi 100 from rfl, q_add]
    have hem := k_emit (L := L) (c := 100 + (tk k).2.1) hC hcs (by omega)
    rw [show cOf (100 + (tk k).2.1) = 100 + (tk k).2.1 from if_neg (by omega)] at hem
    refine zW_call hem ?_
    rintro ⟨V1, L1⟩ ⟨rfl, h1⟩
    dsimp only at h1 ⊢
    refine zW_call (k_take hC hV hW h1 (by omega)) ?_
    rintro ⟨V2, L2⟩ ⟨rfl, h2⟩
    dsimp only at h2 ⊢
    have hop : zW (f_operand R M) (fun r => r.1 = qi 1 ∧ RS b fr R0 M0 ed tk (k + 1) (C ++ [100 + (tk k).2.1]) O o 0 ((x, ph, 0, pr, bs) :: Fr) r.2.1 r.2.2) := by
      rw [o_171 hrs (by omega) (by omega) hx hbg hpre.2, o_chain hr1 (by omega) (nS (by omega)) (nO (by omega)) (nO (by omega)) (nO (by omega)), if_pos e2, show (0 : Int32) = qi 0 from rfl, o_396 (s := 0) (by omega) hE hr1 (by omega) hw1]
      refine o_425 hA hE hk1 hr1 (by omega) ?_ (fun _ => ?_)
      · unfold rsOf; rw [if_neg (by omega), if_neg (by omega), if_pos (by omega)]
      · have hh := hrs.2.1.2.2.2
        rw [z_neP (by omega), show 100 + (tk k).2.1 - 100 = (tk k).2.1 by omega]
        rcases hh with ⟨c, -⟩ | ⟨c, -⟩ | ⟨-, -, -, a, -⟩ | ⟨c, -⟩ | ⟨c, -⟩ | ⟨c, -⟩
        · omega
        · omega
        · exact a
        · omega
        · omega
        · omega
    obtain ⟨R2, M2, g2, r2⟩ := st_opK (w' := 1) (by omega) h37 hop
    refine zW_some ⟨rfl, Or.inl ⟨1, R2, M2, k + 1, [100 + (tk k).2.1], [], ph, by omega, g2, by rw [List.append_nil]; exact h2, r2, fun a ha => absurd ha List.not_mem_nil, Nat.zero_le _, by show 1 + 0 + k ≤ k + 1; omega, ?_, rfl⟩⟩
    have := ty_one (c := 100 + (tk k).2.1) (H := 8 * o + 5) (by omega) (by omega)
    rw [show decide (100 + (tk k).2.1 = 50) = false from decide_eq_false (by omega)] at this
    exact this
  refine zW_if0 (by rw [b2, q_lit, q_eq (by omega) (by omega)]; exact e2) ?_
  rw [show (40 : Int32) = qi 40 from rfl, k_sg hW hcs (by omega), o_bind]
  by_cases c40 : tS (tk k) 40
  · rw [if_pos c40]
    refine zW_if0 (by decide) ?_
    have s1 := c40.1
    have h10 : (tk k).1 ≠ 0 := by omega
    have hk1 := hW.1 k hk0 h10
    by_cases o7 : o = 7
    · subst o7
      refine zW_call (k_opens7 hC hcs) ?_
      rintro ⟨z, V1, L1⟩ ⟨rfl, rfl, h1⟩
      refine zW_if1 (by rfl) ?_
      have hop := o_par7 hr1 c40
      rw [← o_171 hrs (by omega) (by omega) hx hbg hpre.2] at hop
      obtain ⟨R2, M2, g2, r2⟩ := st_opE (w' := 0) (by omega) h37 hop
      exact zW_some ⟨rfl, Or.inr (XE_mk h1 r2 g2 (by omega) (by omega) (by omega))⟩
    · have o7 : o < 7 := by omega
      refine zW_call (k_opens hC hV hW hcs h10 o7) ?_
      rintro ⟨z, V1, L1⟩ ⟨rfl, rfl, h1⟩
      dsimp only at h1 ⊢
      refine zW_if0 (by decide) ?_
      have hop := o_par hA hE.2.1 hk1 hr1 (by show Fr.length + 1 < 20; omega) o7 c40
      rw [← o_171 hrs (by omega) (by omega) hx hbg hpre.2] at hop
      obtain ⟨R2, M2, g2, r2⟩ := st_opK (w' := 0) (by omega) h37 hop
      refine zW_call (hS o7 V1 R2 M2 (k + 1) C O 2 0 1 0 O.length ((x, ph, 0, pr, bs) :: Fr) h1 r2 ⟨by omega, fun h => by rcases h with h | h | h <;> omega⟩ (Or.inl rfl) (Nat.le_refl _) (by omega) (by show Fr.length + 1 ≤ _; omega) (by omega) (by omega) (by omega)) ?_
      rintro ⟨V3, L3⟩ ⟨rfl, h3⟩
      dsimp only at h3 ⊢
      rcases h3 with ⟨m, R3, M3, k3, c1, P1, ph1, f1, f2, f3, f4, f5, f6, f7, f8, f9⟩ | h3
      · obtain ⟨hp1, hna⟩ := qA_ari f9
        subst hp1
        have hk3 := f3.2.1
        have hn0 : nots P1 = 0 := nots_0 (pnd_le f5 (by omega))
        have hCl : (C ++ (c1 ++ P1)).length = C.length + (c1.length + P1.length) := by rw [List.length_append, List.length_append]
        have hCl2 : (C ++ c1).length = C.length + c1.length := List.length_append
        refine zW_call (k_skip (s := 41) hC hV hW f3 (by omega)) ?_
        rintro ⟨V4, L4⟩ ⟨rfl, h4⟩
        dsimp only at h4 ⊢
        rcases h4 with ⟨hs, h4⟩ | ⟨hs, h4⟩
        · have hk4 := hW.1 k3 hk3 (by have := hs.1; omega)
          have g := g_cls2 hA hE hk4 hs (by omega) (pnd_le f5 (by omega)) (Or.inl rfl) (Nat.le_refl _) (by omega) (by omega) (by show Fr.length + 1 < 20; omega) (by omega) (by omega) f4
          rw [hn0, show o + 1 + 0 - 0 - 1 = o by omega] at g
          obtain ⟨R5, M5, g5, r5⟩ := st_goK f4.2.2.1.2.2.2.2.2.2 g
          have b6 : V4 y 8 = qi (o + 1) := h4.2.2.2.1.2.1
          rw [b6, show (1 : Int32) = qi 1 from rfl, q_sub (by omega), Nat.add_sub_cancel]
          have h8 := k_8 (o' := o) h4 hd
          refine zW_some ⟨rfl, Or.inl ⟨1 + m + 1, R5, M5, k3 + 1, c1 ++ P1, [], ph, by omega, rg_t (rg_t g2 f2) g5, by rw [List.append_nil]; exact h8, ?_, fun a ha => absurd ha List.not_mem_nil, Nat.zero_le _, ?_, ?_, rfl⟩⟩
          · rw [← List.append_assoc]
            exact r5
          · rw [List.length_append]; show c1.length + P1.length + 0 + k ≤ k3 + 1; omega
          · rw [List.append_nil]; exact ty_mono f8 (by omega)
        · obtain ⟨R5, M5, g5, r5⟩ := go_bad f4 (fun h5 => g_clsE h5 (Or.inl rfl) hs (by omega) (fun _ => hna) (fun h => by rcases h with h | h | h <;> omega) (fun h => by rcases h with h | h | h <;> omega) (by show Fr.length + 1 < 20; omega) f4)
          exact zW_some ⟨rfl, Or.inr (XE_8 (XE_mk h4 r5 (rg_t (rg_t g2 f2) g5) (by omega) (by omega) (by omega)))⟩
      · obtain ⟨m1, R4, M4, k4, f1, pl, cc, a1, a2, a3, a4, a5, a6⟩ := id h3
        rw [k_skipE a4, o_bind]
        exact zW_some ⟨rfl, Or.inr (XE_8 (XE_tr h3 g2 (by omega) (by omega)))⟩
  rw [if_neg c40]
  refine zW_if1 (by rfl) ?_
  rw [show (21 : Int32) = qi 21 from rfl, k_ow hW hcs (by omega), o_bind]
  by_cases c21 : tO (tk k) 21
  · rw [if_pos c21]
    refine zW_if0 (by decide) ?_
    unfold f_X5_readPart_83
    rw [show (21 : Int32) = qi 21 from rfl, k_ow hW hcs (by omega), o_bind, if_pos c21]
    refine zW_if0 (by decide) ?_
    unfold f_X5_readPart_100
    refine zW_call (hX1 V R M k C O x ph bg pr bs Fr hcs hrs ⟨hpre, c21⟩ hlow hbs hol hFr hx hbg hk) ?_
    rintro ⟨V1, L1⟩ h1
    exact zW_some h1
  rw [if_neg c21]
  refine zW_if1 (by rfl) ?_
  rw [show (22 : Int32) = qi 22 from rfl, k_ow hW hcs (by omega), o_bind]
  by_cases c22 : tO (tk k) 22
  · rw [if_pos c22]
    refine zW_if0 (by decide) ?_
    unfold f_X5_readPart_83
    rw [show (21 : Int32) = qi 21 from rfl, k_ow hW hcs (by omega), o_bind, if_neg c21]
    refine zW_if1 (by rfl) ?_
    unfold f_X5_readPart_100
    refine zW_call (hX2 V R M k C O x ph bg pr bs Fr hcs hrs ⟨hpre, c22⟩ hlow hbs hol hFr hx hbg hk) ?_
    rintro ⟨V1, L1⟩ h1
    exact zW_some h1
  rw [if_neg c22]
  refine zW_if1 (by rfl) ?_
  rw [show (16 : Int32) = qi 16 from rfl, k_ow hW hcs (by omega), o_bind]
  by_cases c16 : tO (tk k) 16
  · rw [if_pos c16]
    refine zW_if0 (by decide) ?_
    refine zW_call (hX3 V R M k C O x ph bg pr bs Fr hcs hrs ⟨hpre, c16⟩ hlow hbs hol hFr hx hbg hk) ?_
    rintro ⟨V1, L1⟩ h1
    exact zW_some h1
  rw [if_neg c16]
  refine zW_if1 (by rfl) ?_
  have hw9' : V y 9 = qi wo := by rw [hcs.1.2 9 (by omega) (by omega) (by omega) (by omega) (by omega) (by omega) (by omega) (by omega)]; exact hw9
  by_cases hfc : (tk k).1 = 4 ∧ (11 ≤ (tk k).2.1 ∧ (tk k).2.1 ≤ 15) ∧ ¬ (14 ≤ (tk k).2.1 ∧ wo = 1)
  · obtain ⟨i1, i2, i3⟩ := hfc
    have hk1 := hW.1 k hk0 (by omega)
    have h63 : zW (f_X5_readFactNamed_63 N G y (qi (tk k).2.1) V L) (fun r => r.2 = L ∧ (XK b fr R0 M0 ed tk y pc V0 tn 7 false (8 * o + 5) 0 (qP ph) k C O o x pr bs Fr R M r.1 ∨ XE b fr R0 M0 y pc V0 tn k k C.length R M r.1)) := by
      unfold f_X5_readFactNamed_63
      refine zW_call (k_take hC hV hW hcs (by omega)) ?_
      rintro ⟨V1, L1⟩ ⟨rfl, h1⟩
      dsimp only at h1 ⊢
      rw [show (0 : Int32) = qi 0 from rfl, show (11 : Int32) = qi 11 from rfl, q_add, q_sub (by omega)]
      have hem := k_emit (L := L1) (c := (tk k).2.1 - 11) hC h1 (by omega)
      rw [show cOf ((tk k).2.1 - 11) = 0 + (tk k).2.1 - 11 by unfold cOf; rw [if_neg (by omega)]; omega] at hem
      refine zW_call hem ?_
      rintro ⟨V2, L2⟩ ⟨rfl, h2⟩
      dsimp only at h2 ⊢
      have hop : zW (f_operand R M) (fun r => r.1 = qi 1 ∧ RS b fr R0 M0 ed tk (k + 1) (C ++ [(tk k).2.1 - 11]) O o 0 ((x, ph, 0, pr, bs) :: Fr) r.2.1 r.2.2) := by
        rw [o_171 hrs (by omega) (by omega) hx hbg hpre.2, o_chain hr1 (by omega) c40 c21 c22 c16, if_neg e2]
        have hfin : ∀ s : Nat, s = (tk k).2.1 - 10 → zW (f_operand_396 (qi s) (z_uI R 15 Fr.length (qi 0)) M) (fun r => r.1 = qi 1 ∧ RS b fr R0 M0 ed tk (k + 1) (C ++ [(tk k).2.1 - 11]) O o 0 ((x, ph, 0, pr, bs) :: Fr) r.2.1 r.2.2) := fun s hs => by
          rw [o_396 (by omega) hE hr1 (by omega) hw1]
          refine o_425 hA hE hk1 hr1 (by omega) ?_ (fun h => by omega)
          unfold rsOf; rw [if_pos (by omega)]; omega
        have hv : (tk k).2.1 = 11 ∨ (tk k).2.1 = 12 ∨ (tk k).2.1 = 13 ∨ (tk k).2.1 = 14 ∨ (tk k).2.1 = 15 := by omega
        rcases hv with hv | hv | hv | hv | hv
        · rw [if_pos (show tO (tk k) 11 from ⟨i1, hv⟩)]; exact hfin 1 (by omega)
        · rw [if_neg (show ¬ tO (tk k) 11 from nO (by omega)), if_pos (show tO (tk k) 12 from ⟨i1, hv⟩)]; exact hfin 2 (by omega)
        · rw [if_neg (show ¬ tO (tk k) 11 from nO (by omega)), if_neg (show ¬ tO (tk k) 12 from nO (by omega)), if_pos (show tO (tk k) 13 from ⟨i1, hv⟩)]; exact hfin 3 (by omega)
        · rw [if_neg (show ¬ tO (tk k) 11 from nO (by omega)), if_neg (show ¬ tO (tk k) 12 from nO (by omega)), if_neg (show ¬ tO (tk k) 13 from nO (by omega)), if_pos (show tO (tk k) 14 from ⟨i1, hv⟩)]; exact hfin 4 (by omega)
        · rw [if_neg (show ¬ tO (tk k) 11 from nO (by omega)), if_neg (show ¬ tO (tk k) 12 from nO (by omega)), if_neg (show ¬ tO (tk k) 13 from nO (by omega)), if_neg (show ¬ tO (tk k) 14 from nO (by omega)), if_pos (show tO (tk k) 15 from ⟨i1, hv⟩)]; exact hfin 5 (by omega)
      obtain ⟨R2, M2, g2, r2⟩ := st_opK (w' := 1) (by omega) h37 hop
      refine zW_some ⟨rfl, Or.inl ⟨1, R2, M2, k + 1, [(tk k).2.1 - 11], [], ph, by omega, g2, by rw [List.append_nil]; exact h2, r2, fun a ha => absurd ha List.not_mem_nil, Nat.zero_le _, by show 1 + 0 + k ≤ k + 1; omega, ?_, rfl⟩⟩
      have := ty_one (c := (tk k).2.1 - 11) (H := 8 * o + 5) (by omega) (by omega)
      rw [show decide ((tk k).2.1 - 11 = 50) = false from decide_eq_false (by omega)] at this
      exact this
    have h63' : zW ((f_X5_readFactNamed N G y V L).bind fun r5 => some (r5.1, r5.2)) (fun r => r.2 = L ∧ (XK b fr R0 M0 ed tk y pc V0 tn 7 false (8 * o + 5) 0 (qP ph) k C O o x pr bs Fr R M r.1 ∨ XE b fr R0 M0 y pc V0 tn k k C.length R M r.1)) := by
      have hfn : f_X5_readFactNamed N G y V L = f_X5_readFactNamed_63 N G y (qi (tk k).2.1) V L := by
        unfold f_X5_readFactNamed g_X5_readFactNamed
        rw [if_pos (by rw [b2, i1]; rfl), b3]
        have h34 : ∀ z : Int32, (z = 0 ∨ wo = 0) → f_X5_readFactNamed_34 N G y (qi (tk k).2.1) z V L = f_X5_readFactNamed_63 N G y (qi (tk k).2.1) V L := fun z hz => by
          unfold f_X5_readFactNamed_34
          rw [if_neg (by rw [q_lit, q_lt (by omega) (by omega)]; omega), if_neg (by rw [q_lit, q_lt (by omega) (by omega)]; omega)]
          by_cases ez : z = 0
          · rw [if_pos ez]
          · rw [if_neg ez]
            have : wo = 0 := by
              rcases hz with h | h
              · exact absurd h ez
              · exact h
            rw [if_pos (by rw [hw9', this]; rfl)]
        unfold f_X5_readFactNamed_16
        by_cases e14 : (tk k).2.1 = 14
        · rw [if_pos (by rw [e14]; rfl)]
          exact h34 1 (Or.inr (by omega))
        · rw [if_neg (by rw [q_lit, q_eq (by omega) (by omega)]; exact e14)]
          by_cases e15 : (tk k).2.1 = 15
          · rw [if_pos (by rw [e15]; rfl)]
            exact h34 1 (Or.inr (by omega))
          · rw [if_neg (by rw [q_lit, q_eq (by omega) (by omega)]; exact e15)]
            exact h34 0 (Or.inl rfl)
      rw [hfn]
      refine zW_call h63 ?_
      rintro ⟨V1, L1⟩ h1
      exact zW_some h1
    exact h63'
  · have hfn : f_X5_readFactNamed N G y V L = (f_X5_failHere N G y V L).bind fun r1 => some (r1.1, r1.2) := by
      unfold f_X5_readFactNamed g_X5_readFactNamed
      by_cases e4 : (tk k).1 = 4
      · have hb := w6 e4
        rw [if_pos (by rw [b2, e4]; rfl), b3]
        have h34 : ∀ z : Int32, (14 ≤ (tk k).2.1 → z = 1) → f_X5_readFactNamed_34 N G y (qi (tk k).2.1) z V L = (f_X5_failHere N G y V L).bind fun r1 => some (r1.1, r1.2) := fun z hz => by
          unfold f_X5_readFactNamed_34
          by_cases l11 : (tk k).2.1 < 11
          · rw [if_pos (by rw [q_lit, q_lt (by omega) (by omega)]; exact l11)]; rfl
          · rw [if_neg (by rw [q_lit, q_lt (by omega) (by omega)]; exact l11)]
            by_cases l15 : 15 < (tk k).2.1
            · rw [if_pos (by rw [q_lit, q_lt (by omega) (by omega)]; exact l15)]; rfl
            · rw [if_neg (by rw [q_lit, q_lt (by omega) (by omega)]; exact l15)]
              have h14 : 14 ≤ (tk k).2.1 ∧ wo = 1 := by omega
              rw [hz h14.1, if_neg (by decide), if_neg (by rw [hw9', h14.2]; decide)]; rfl
        unfold f_X5_readFactNamed_16
        by_cases e14 : (tk k).2.1 = 14
        · rw [if_pos (by rw [e14]; rfl)]
          exact h34 1 (fun _ => rfl)
        · rw [if_neg (by rw [q_lit, q_eq (by omega) (by omega)]; exact e14)]
          by_cases e15 : (tk k).2.1 = 15
          · rw [if_pos (by rw [e15]; rfl)]
            exact h34 1 (fun _ => rfl)
          · rw [if_neg (by rw [q_lit, q_eq (by omega) (by omega)]; exact e15)]
            by_cases l15 : 15 < (tk k).2.1
            · unfold f_X5_readFactNamed_34
              rw [if_neg (by rw [q_lit, q_lt (by omega) (by omega)]; omega), if_pos (by rw [q_lit, q_lt (by omega) (by omega)]; exact l15)]; rfl
            · exact h34 0 (fun h => by omega)
      · rw [if_neg (by rw [b2, q_lit, q_eq (by omega) (by omega)]; exact e4)]
        unfold f_X5_readFactNamed_16
        rw [if_neg (by decide), if_neg (by decide)]
        unfold f_X5_readFactNamed_34
        rw [if_pos (by decide)]
        rfl
    have hb : ∃ R' M', rg 1 (1, R, M) (0, R', M') ∧ RE b fr R0 M0 1 (fp (tk k)) R' M' := op_bad (w := 1) (by omega) hrs (fun h5 => by
      rw [o_171 hrs h5 (by omega) hx hbg hpre.2, o_chain hr1 h5 c40 c21 c22 c16, if_neg e2]
      by_cases g11 : tO (tk k) 11
      · exact absurd g11 (nO (by omega))
      rw [if_neg g11]
      by_cases g12 : tO (tk k) 12
      · exact absurd g12 (nO (by omega))
      rw [if_neg g12]
      by_cases g13 : tO (tk k) 13
      · exact absurd g13 (nO (by omega))
      rw [if_neg g13]
      by_cases g14 : tO (tk k) 14
      · obtain ⟨h1, h2⟩ := id g14
        rw [if_pos g14, show (4 : Int32) = qi 4 from rfl, o_396b (by omega) hE hr1 (by omega)]
        exact o_425b hr1
      rw [if_neg g14]
      by_cases g15 : tO (tk k) 15
      · obtain ⟨h1, h2⟩ := id g15
        rw [if_pos g15, show (5 : Int32) = qi 5 from rfl, o_396b (by omega) hE hr1 (by omega)]
        exact o_425b hr1
      rw [if_neg g15, o_396m hr1]
      exact o_425b hr1)
    obtain ⟨R2, M2, g2, r2⟩ := hb
    rw [hfn]
    refine zW_call (zW_call (P := fun r => r.2 = L ∧ CE y pc V0 tn 1 (fp (tk k)) k C.length r.1) (Q := fun r => r.2 = L ∧ CE y pc V0 tn 1 (fp (tk k)) k C.length r.1) (k_fh hW hcs hd) (by rintro ⟨V1, L1⟩ h1; exact zW_some h1)) ?_
    rintro ⟨V1, L1⟩ ⟨rfl, h1⟩
    exact zW_some ⟨rfl, Or.inr (XE_mk h1 r2 g2 (by omega) (by omega) (by omega))⟩
end
