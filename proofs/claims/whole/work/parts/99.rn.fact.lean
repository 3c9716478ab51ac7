section
variable {b fr k o tn tl wo y yt a0 a1 a2 pc H B lv off : Nat} {bo : Bool} {V0 V R0 R R1 : zI} {L M M0 M1 : zL} {N : Nat → Nat} {G : zG} {ed t : Nat → Nat} {tk : Nat → tkT} {T : tkT} {C O P : List Nat} {F : T_GR}
set_option maxHeartbeats 2000000 in
theorem x_fact (hA : AH t tl ed tk tn) (hE : EV b wo R0 t tl) (hC : CV N G y yt a0 a1 a2 pc tn tl) (hV : TV V0 yt a0 a1 a2 tn tk) (hW : TW tk tn) (ho : o ≤ 7) (hS : SX b fr R0 M0 ed tk y pc V0 tn N G L F.2.2.2.1 4 4 2 true (8 * o + 2) 3 prC (fun _ ph' T => ph' = 1 ∧ ¬ ari T) o) (hF : o < 7 → SX b fr R0 M0 ed tk y pc V0 tn N G L F.2.2.1 4 3 2 true (8 * (o + 1) + 2) (10 - (o + 1)) prT qT (o + 1)) (hT : o < 7 → SX b fr R0 M0 ed tk y pc V0 tn N G L F.1 1 1 0 true (8 * (o + 1)) (12 - (o + 1)) prT qR (o + 1)) : SX b fr R0 M0 ed tk y pc V0 tn N G L (f_X5_readFact F) 4 3 2 true (8 * o + 2) (10 - o) prT qT o := by
  intro V R M k C O x ph bg pr bs Fr hcs hrs hpre hlow hbs hol hFr hx hbg hk
  obtain ⟨⟨ht, rfl⟩, rfl⟩ := hpre
  have htl := hC.2.2.2
  have hd := hC.2.2.1.2.2.2.2.1
  have hk0 := hcs.2.1
  have h37 : R 0 37 = qi 0 := hrs.2.2.1.2.2.2.2.2.2
  unfold f_X5_readFact g_X5_readFact
  rw [show (19 : Int32) = qi 19 from rfl, k_ow hW hcs (by omega), o_bind]
  by_cases c19 : tO (tk k) 19
  · rw [if_pos c19]
    refine zW_if0 (by decide) ?_
    have h10 : (tk k).1 ≠ 0 := by have := c19.1; omega
    have hk1 := hW.1 k hk0 h10
    by_cases o7 : o = 7
    · subst o7
      refine zW_call (k_opens7 hC hcs) ?_
      rintro ⟨z, V1, L1⟩ ⟨rfl, rfl, h1⟩
      refine zW_if1 (by rfl) ?_
      obtain ⟨R2, M2, g2, r2⟩ := st_opE (w' := 1) (by omega) h37 (o_not7 hrs (by omega) hx ht c19)
      exact zW_some ⟨rfl, Or.inr (XE_mk h1 r2 g2 (by omega) (by omega) (by omega))⟩
    · have o7 : o < 7 := by omega
      refine zW_call (k_opens hC hV hW hcs h10 o7) ?_
      rintro ⟨z, V1, L1⟩ ⟨rfl, rfl, h1⟩
      dsimp only at h1 ⊢
      refine zW_if0 (by decide) ?_
      obtain ⟨R2, M2, g2, r2⟩ := st_opK (w' := 0) (by omega) h37 (o_not hA hE.2.1 hk1 hrs (by omega) hx ht (by omega) o7 c19)
      refine zW_call (hF o7 V1 R2 M2 (k + 1) C (17 :: O) x 0 1 pr bs Fr h1 r2 ⟨⟨ht, rfl⟩, rfl⟩ (Or.inr ⟨17, O, rfl, by decide, by decide⟩) (Nat.le_succ_of_le hbs) (by show O.length + 1 ≤ _; omega) (by omega) hx (by omega) (by omega)) ?_
      rintro ⟨V3, L3⟩ ⟨rfl, h3⟩
      dsimp only at h3 ⊢
      rcases h3 with ⟨m, R3, M3, k3, c1, P1, ph1, e1, e2, e3, e4, e5, e6, e7, e8, e9⟩ | h3
      · have b6 : V3 y 8 = qi (o + 1) := e3.2.2.2.1.2.1
        have hCl : (C ++ (c1 ++ P1)).length = C.length + (c1.length + P1.length) := by rw [List.length_append, List.length_append]
        have hk3 := e3.2.1
        rw [b6, show (1 : Int32) = qi 1 from rfl, q_sub (by omega), Nat.add_sub_cancel]
        refine zW_call (k_emit (c := 17) hC (k_8 e3 hd) (by omega)) ?_
        rintro ⟨V5, L5⟩ ⟨rfl, h5⟩
        dsimp only at h5 ⊢
        have h5' : CS y pc V0 tk tn k3 (C ++ (c1 ++ (P1 ++ [17]))) o V5 := by simpa only [List.append_assoc] using h5
        have hn4 : nots (P1 ++ [17]) = nots P1 + 1 := by
          have g : ∀ P : List Nat, nots (P ++ [17]) = nots P + 1 := by
            intro P
            induction P with
            | nil => rfl
            | cons a P ihP => show (if a = 17 then 1 else 0) + nots (P ++ [17]) = (if a = 17 then 1 else 0) + nots P + 1; rw [ihP]; omega
          exact g P1
        have e4' : RS b fr R0 M0 ed tk k3 (C ++ c1) ((P1 ++ [17]) ++ O) (o + nots (P1 ++ [17])) 1 ((x, ph1, 0, pr, bs) :: Fr) R3 M3 := by
          rw [hn4, show o + (nots P1 + 1) = o + 1 + nots P1 by omega]
          simpa only [List.append_assoc, List.cons_append, List.nil_append] using e4
        refine zW_some ⟨rfl, Or.inl ⟨1 + m, R3, M3, k3, c1, P1 ++ [17], ph1, by omega, rg_t g2 e2, h5', e4', ?_, ?_, ?_, ?_, e9⟩⟩
        · intro a ha
          rcases List.mem_append.mp ha with ha | ha
          · exact e5 a ha
          · rw [List.mem_singleton.mp ha]; decide
        · rw [List.length_append]; show P1.length + 1 ≤ _; omega
        · rw [List.length_append]; show c1.length + (P1.length + 1) + k ≤ k3; omega
        · have := ty_not (ty_mono e8 (show 8 * o + 2 ≤ 8 * (o + 1) + 2 by omega))
          rw [List.append_assoc] at this
          exact this
      · refine zW_call (XE_em (kc := k) (cl := C.length) hC (by omega) (XE_8 (XE_tr (k := k) (kc := k + 1) h3 g2 (by omega) (by omega)))) ?_
        rintro ⟨V5, L5⟩ ⟨rfl, h5⟩
        exact zW_some ⟨rfl, Or.inr h5⟩
  rw [if_neg c19]
  refine zW_if1 (by rfl) ?_
  rw [show (91 : Int32) = qi 91 from rfl, k_sg hW hcs (by omega), o_bind]
  by_cases c91 : tS (tk k) 91
  · rw [if_pos c91]
    refine zW_if0 (by decide) ?_
    have h10 : (tk k).1 ≠ 0 := by have := c91.1; omega
    have hk1 := hW.1 k hk0 h10
    by_cases o7 : o = 7
    · subst o7
      refine zW_call (k_opens7 hC hcs) ?_
      rintro ⟨z, V1, L1⟩ ⟨rfl, rfl, h1⟩
      refine zW_if1 (by rfl) ?_
      obtain ⟨R2, M2, g2, r2⟩ := st_opE (w' := 0) (by omega) h37 (o_brk7 hrs (by omega) hx ht c91)
      exact zW_some ⟨rfl, Or.inr (XE_mk h1 r2 g2 (by omega) (by omega) (by omega))⟩
    · have o7 : o < 7 := by omega
      refine zW_call (k_opens hC hV hW hcs h10 o7) ?_
      rintro ⟨z, V1, L1⟩ ⟨rfl, rfl, h1⟩
      dsimp only at h1 ⊢
      refine zW_if0 (by decide) ?_
      obtain ⟨R2, M2, g2, r2⟩ := st_opK (w' := 0) (by omega) h37 (o_brk hA hE.2.1 hk1 hrs (by omega) hx ht o7 c91)
      refine zW_call (hT o7 V1 R2 M2 (k + 1) C O 5 0 1 0 O.length ((x, 0, 0, pr, bs) :: Fr) h1 r2 ⟨⟨Or.inr (Or.inl rfl), rfl⟩, rfl⟩ (Or.inl rfl) (Nat.le_refl _) (by omega) (by show Fr.length + 1 ≤ _; omega) (by omega) (by omega) (by omega)) ?_
      rintro ⟨V3, L3⟩ ⟨rfl, h3⟩
      dsimp only at h3 ⊢
      rcases h3 with ⟨m, R3, M3, k3, c1, P1, ph1, e1, e2, e3, e4, e5, e6, e7, e8, e9⟩ | h3
      · obtain ⟨hq, hnj⟩ := qR_cnj e9
        have hp : ph1 = 1 ∨ ph1 = 2 := by
          rcases hq with hq | hq
          · exact Or.inl hq.1
          · exact Or.inr hq
        have hna : ph1 < 2 → ¬ ari (tk k3) := fun h => by
          rcases hq with hq | hq
          · exact hq.2
          · omega
        have hnP : nots P1 ≤ P1.length := by
          have g : ∀ P : List Nat, nots P ≤ P.length := by
            intro P
            induction P with
            | nil => exact Nat.le_refl _
            | cons a P ih =>
              show (if a = 17 then 1 else 0) + nots P ≤ P.length + 1
              by_cases e : a = 17
              · rw [if_pos e]; omega
              · rw [if_neg e]; omega
          exact g P1
        have hCl : (C ++ (c1 ++ P1)).length = C.length + (c1.length + P1.length) := by rw [List.length_append, List.length_append]
        have hCl2 : (C ++ c1).length = C.length + c1.length := List.length_append
        have hk3 := e3.2.1
        refine zW_call (k_skip (s := 93) hC hV hW e3 (by omega)) ?_
        rintro ⟨V4, L4⟩ ⟨rfl, h4⟩
        dsimp only at h4 ⊢
        rcases h4 with ⟨hs, h4⟩ | ⟨hs, h4⟩
        · have hk4 := hW.1 k3 hk3 (by have := hs.1; omega)
          have g := g_cls5 hA hE hk4 hs (by omega) (by omega) e5 (Or.inl rfl) (Nat.le_refl _) (by omega) (by omega) (by omega) (by omega) (by omega) e4
          rw [show o + 1 + nots P1 - nots P1 - 1 = o by omega] at g
          obtain ⟨R5, M5, g5, r5⟩ := st_goK e4.2.2.1.2.2.2.2.2.2 g
          have b6 : V4 y 8 = qi (o + 1) := h4.2.2.2.1.2.1
          rw [b6, show (1 : Int32) = qi 1 from rfl, q_sub (by omega), Nat.add_sub_cancel]
          have h8 := k_8 (o' := o) h4 hd
          refine zW_some ⟨rfl, Or.inl ⟨1 + m + 1, R5, M5, k3 + 1, c1 ++ P1, [], 2, by omega, rg_t (rg_t g2 e2) g5, by rw [List.append_nil]; exact h8, ?_, fun a ha => absurd ha List.not_mem_nil, Nat.zero_le _, ?_, ?_, Or.inr rfl⟩⟩
          · rw [← List.append_assoc]
            exact r5
          · rw [List.length_append]; show c1.length + P1.length + 0 + k ≤ k3 + 1; omega
          · rw [List.append_nil]; exact ty_mono e8 (by omega)
        · obtain ⟨R5, M5, g5, r5⟩ := go_bad e4 (fun h5 => g_clsE h5 (Or.inr (Or.inr rfl)) hs (by omega) hna (fun _ => by omega) (fun _ => hnj) (by show Fr.length + 1 < 20; omega) e4)
          exact zW_some ⟨rfl, Or.inr (XE_8 (XE_mk h4 r5 (rg_t (rg_t g2 e2) g5) (by omega) (by omega) (by omega)))⟩
      · obtain ⟨m1, R4, M4, k4, f1, pl, cc, a1, a2, a3, a4, a5, a6⟩ := id h3
        rw [k_skipE a4, o_bind]
        exact zW_some ⟨rfl, Or.inr (XE_8 (XE_tr h3 g2 (by omega) (by omega)))⟩
  rw [if_neg c91]
  refine zW_if1 (by rfl) ?_
  rw [show (20 : Int32) = qi 20 from rfl, k_ow hW hcs (by omega), o_bind]
  by_cases c20 : tO (tk k) 20
  · rw [if_pos c20]
    refine zW_if0 (by decide) ?_
    have h10 : (tk k).1 ≠ 0 := by have := c20.1; omega
    have hk1 := hW.1 k hk0 h10
    refine zW_call (k_take hC hV hW hcs h10) ?_
    rintro ⟨V1, L1⟩ ⟨rfl, h1⟩
    dsimp only at h1 ⊢
    refine zW_call (k_emit (c := 50) hC h1 (by omega)) ?_
    rintro ⟨V2, L2⟩ ⟨rfl, h2⟩
    dsimp only at h2 ⊢
    obtain ⟨R2, M2, g2, r2⟩ := st_opK (w' := 1) (by omega) h37 (o_all hA hE hk1 hrs (by omega) hx ht (by omega) c20)
    refine zW_some ⟨rfl, Or.inl ⟨1, R2, M2, k + 1, [50], [], 2, by omega, g2, by rw [List.append_nil]; exact h2, r2, fun a ha => absurd ha List.not_mem_nil, Nat.zero_le _, by show 1 + 0 + k ≤ k + 1; omega, ?_, Or.inr rfl⟩⟩
    rw [List.append_nil]
    exact ty_one (c := 50) (Or.inr (Or.inr rfl)) (by omega)
  rw [if_neg c20]
  refine zW_if1 (by rfl) ?_
  refine zW_call (hS V R M k C O x 0 1 pr bs Fr hcs hrs ⟨⟨ht, rfl⟩, fun _ => ⟨c19, c91, c20⟩⟩ hlow hbs hol hFr hx hbg hk) ?_
  rintro ⟨V1, L1⟩ ⟨rfl, h1⟩
  dsimp only at h1 ⊢
  refine zW_some ⟨rfl, ?_⟩
  rcases h1 with ⟨m, R1, M1, k1, c1, P1, ph1, e1, e2, e3, e4, e5, e6, e7, e8, e9⟩ | h1
  · exact Or.inl ⟨m, R1, M1, k1, c1, P1, ph1, e1, e2, e3, e4, pnd_le e5 (by omega), by omega, e7, e8, Or.inl e9⟩
  · exact Or.inr h1
end
