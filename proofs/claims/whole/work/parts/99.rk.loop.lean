section
variable {b fr k o tn tl wo y yt a0 a1 a2 pc H B lv off : Nat} {bo : Bool} {V0 V R0 R R1 : zI} {L M M0 M1 : zL} {N : Nat → Nat} {G : zG} {ed t : Nat → Nat} {tk : Nat → tkT} {T : tkT} {C O P : List Nat} {F : T_GR}
set_option maxHeartbeats 2000000 in
theorem x_loop {f f' : fnT} {bd : (Int32 × zI × zL → Option (zI × zL)) → Int32 × zI × zL → Option (zI × zL)} {op : tkT → Nat → Prop} {B' bg3 lw' : Nat} {Pq : Nat → Nat → Nat → tkT → Prop} {Q' : Nat → Nat → tkT → Prop} (hA : AH t tl ed tk tn) (hE : EV b wo R0 t tl) (hC : CV N G y yt a0 a1 a2 pc tn tl) (hV : TV V0 yt a0 a1 a2 tn tk) (hW : TW tk tn) (ho : o ≤ 7) (hb3 : bg3 ≤ 1) (hlv : lv ≤ 6) (hoff : off ≤ 4)
    (hf : ∀ V, f' N G y V L = (f N G y V L).bind fun r1 => zfix bd FU (0, r1.1, r1.2))
    (hlw : lv < lw') (hS : SX b fr R0 M0 ed tk y pc V0 tn N G L f lw' (lv + 1) (off + 1) bo (H + 1) B' Pq Q' o) (hB : B' + 1 ≤ B)
    (hcc : ∀ T cc, op T cc → T.1 ≠ 0 ∧ (5 ≤ cc ∧ cc ≤ 16) ∧ isop cc ∧ rk cc = lv ∧ decide (cc = 12 ∨ cc = 13) = bo ∧ decide (12 ≤ cc) = bo ∧ nots [cc] = 0 ∧ cOf cc = cc)
    (hst : ∀ kk i V2 k2 C2, CS y pc V0 tk tn k2 C2 o V2 → (∀ cc, ¬ op (tk k2) cc) → i < 2000 → bd kk (qi i, V2, L) = some (V2, L))
    (hsE : ∀ kk i V2 g pl k2 c2, CE y pc V0 tn g pl k2 c2 V2 → i < 2000 → bd kk (qi i, V2, L) = some (V2, L))
    (hgo : ∀ kk i V2 k2 C2 cc, CS y pc V0 tk tn k2 C2 o V2 → op (tk k2) cc → i < 1600 → bd kk (qi i, V2, L) = (f_X5_take N G y V2 L).bind fun r1 => (f N G y r1.1 r1.2).bind fun r2 => (f_X5_emit N G y (qi cc) r2.1 r2.2).bind fun r3 => kk (qi i + qi 1, r3.1, r3.2))
    (hPq : ∀ x ph bg T T', Pq x ph bg T → (bg3 = 0 ∨ tst x ∧ ph = 0) → Pq x ph bg3 T')
    (hP3 : ∀ x ph bg T, Pq x ph bg T → ph < 2 ∧ (bg3 = 0 ∨ tst x ∧ ph = 0))
    (hgR : ∀ x ph bg T ph' pr bs Fr k2 C2 P O R2 M2 cc, Pq x ph bg T → x < 100 → RS b fr R0 M0 ed tk k2 C2 (P ++ O) (o + nots P) 1 ((x, ph', 0, pr, bs) :: Fr) R2 M2 → Q' ph ph' (tk k2) → pnd lv P → P.length ≤ B → op (tk k2) cc → k2 + 1 < tn → low lv bs O → bs ≤ O.length → P.length + O.length < 500 → fr + C2.length + P.length ≤ 1600 → Fr.length < 20 → ∃ R3 M3, rg 1 (1, R2, M2) (1, R3, M3) ∧ RS b fr R0 M0 ed tk (k2 + 1) (C2 ++ P) (cc :: O) o 0 ((x, ph, bg3, pr, bs) :: Fr) R3 M3)
    (hBs : B ≤ 100) : SX b fr R0 M0 ed tk y pc V0 tn N G L f' lv lv off bo H B Pq (fun ph ph' T => Q' ph ph' T ∧ ∀ cc, ¬ op T cc) o := by
  intro V R M k C O x ph bg pr bs Fr hcs hrs hpre hlow hbs hol hFr hx hbg hk
  have htl := hC.2.2.2
  obtain ⟨hph, hb3'⟩ := hP3 x ph bg _ hpre
  rw [hf]
  refine zW_call (hS V R M k C O x ph bg pr bs Fr hcs hrs hpre (low_le hlow (by omega)) hbs (by omega) hFr hx hbg hk) ?_
  rintro ⟨V1, L1⟩ ⟨rfl, h1⟩
  dsimp only at h1 ⊢
  refine zW_lp (I := fun r z => ∃ (i : Nat) (V2 : zI), z = (qi i, V2, L1) ∧ ((∃ m R' M' k' c P ph', m + k ≤ k' ∧ rg m (1, R, M) (1, R', M') ∧ CS y pc V0 tk tn k' (C ++ (c ++ P)) o V2 ∧ RS b fr R0 M0 ed tk k' (C ++ c) (P ++ O) (o + nots P) 1 ((x, ph', 0, pr, bs) :: Fr) R' M' ∧ pnd lv P ∧ P.length ≤ B ∧ c.length + P.length + k ≤ k' ∧ tyE (c ++ P) bo H ∧ Q' ph ph' (tk k') ∧ i + k ≤ k' ∧ tn - k' ≤ r) ∨ (i < 2000 ∧ XE b fr R0 M0 y pc V0 tn k k C.length R M V2))) ?_ FU tn _ ?_ (FU_big (by omega))
  case refine_2 =>
    refine ⟨0, V1, rfl, ?_⟩
    rcases h1 with ⟨m, R', M', k', c, P, ph', e1, e2, e3, e4, e5, e6, e7, e8, e9⟩ | h1
    · exact Or.inl ⟨m, R', M', k', c, P, ph', e1, e2, e3, e4, pnd_le e5 (by omega), by omega, e7, ty_mono e8 (by omega), e9, by omega, by omega⟩
    · exact Or.inr ⟨by omega, h1⟩
  rintro kk r z ⟨i, V2, rfl, hI⟩ ih
  rcases hI with ⟨m, R2, M2, k2, c, P, ph', e1, e2, e3, e4, e5, e6, e7, e8, e9, e10, e11⟩ | ⟨hi, hXE⟩
  case inr =>
    obtain ⟨m1, R1, M1, k1, f1, pl, cc, a1, a2, a3, a4, a5, a6⟩ := id hXE
    rw [hsE kk i V2 f1 pl k1 cc a4 hi]
    exact zW_some ⟨rfl, Or.inr hXE⟩
  have hk2 := e3.2.1
  by_cases hop : ∃ cc, op (tk k2) cc
  case neg =>
    have hop' : ∀ cc, ¬ op (tk k2) cc := fun cc h => hop ⟨cc, h⟩
    rw [hst kk i V2 k2 _ e3 hop' (by omega)]
    exact zW_some ⟨rfl, Or.inl ⟨m, R2, M2, k2, c, P, ph', e1, e2, e3, e4, e5, e6, e7, e8, e9, hop'⟩⟩
  obtain ⟨cc, hop⟩ := hop
  obtain ⟨q1, q2, q3, q4, q5, q6, q7, q8⟩ := hcc _ cc hop
  have hk3 := hW.1 k2 hk2 q1
  have hCl : (C ++ (c ++ P)).length = C.length + (c.length + P.length) := by rw [List.length_append, List.length_append]
  have hCl2 : (C ++ c).length = C.length + c.length := List.length_append
  obtain ⟨R3, M3, g3, r3⟩ := hgR x ph bg _ ph' pr bs Fr k2 (C ++ c) P O R2 M2 cc hpre hx e4 e9 e5 e6 hop hk3 hlow hbs (by omega) (by omega) (by omega)
  rw [List.append_assoc] at r3
  rw [hgo kk i V2 k2 _ cc e3 hop (by omega)]
  refine zW_call (k_take hC hV hW e3 q1) ?_
  rintro ⟨V3, L3⟩ ⟨rfl, h3⟩
  dsimp only at h3 ⊢
  refine zW_call (hS V3 R3 M3 (k2 + 1) (C ++ (c ++ P)) (cc :: O) x ph bg3 pr bs Fr h3 r3 (hPq _ _ _ _ _ hpre hb3') (Or.inr ⟨cc, O, rfl, q3, by omega⟩) (Nat.le_succ_of_le hbs) (by show O.length + 1 ≤ _; omega) hFr hx hb3 (by omega)) ?_
  rintro ⟨V4, L4⟩ ⟨rfl, h4⟩
  dsimp only at h4 ⊢
  have g13 : rg (m + 1) (1, R, M) (1, R3, M3) := rg_t e2 g3
  rcases h4 with ⟨m4, R4, M4, k4, c4, P4, ph4, b1, b2, b3, b4, b5, b6, b7, b8, b9⟩ | h4
  · have hCl4 : ((C ++ (c ++ P)) ++ (c4 ++ P4)).length = C.length + (c.length + P.length) + (c4.length + P4.length) := by rw [List.length_append, hCl, List.length_append]
    have hk4 := b3.2.1
    have hem := k_emit (L := L4) (c := cc) hC b3 (by omega)
    rw [q8] at hem
    refine zW_call hem ?_
    rintro ⟨V5, L5⟩ ⟨rfl, h5⟩
    dsimp only at h5 ⊢
    rw [q_add]
    have h5' : CS y pc V0 tk tn k4 (C ++ ((c ++ P ++ c4) ++ (P4 ++ [cc]))) o V5 := by simpa only [List.append_assoc] using h5
    have hn4 : nots (P4 ++ [cc]) = nots P4 := by
      have g : ∀ P : List Nat, nots (P ++ [cc]) = nots P + nots [cc] := by
        intro P
        induction P with
        | nil => show nots [cc] = 0 + nots [cc]; omega
        | cons a P ihP => show (if a = 17 then 1 else 0) + nots (P ++ [cc]) = (if a = 17 then 1 else 0) + nots P + nots [cc]; rw [ihP]; omega
      rw [g, q7]; omega
    have b4' : RS b fr R0 M0 ed tk k4 (C ++ (c ++ P ++ c4)) ((P4 ++ [cc]) ++ O) (o + nots (P4 ++ [cc])) 1 ((x, ph4, 0, pr, bs) :: Fr) R4 M4 := by
      rw [hn4]
      simpa only [List.append_assoc, List.cons_append, List.nil_append] using b4
    refine ih (tn - k4) _ (by omega) ⟨i + 1, V5, rfl, Or.inl ⟨m + 1 + m4, R4, M4, k4, c ++ P ++ c4, P4 ++ [cc], ph4, by omega, rg_t g13 b2, h5', b4', ?_, ?_, ?_, ?_, b9, by omega, by omega⟩⟩
    · intro a ha
      rcases List.mem_append.mp ha with ha | ha
      · exact ⟨(b5 a ha).1, by have := (b5 a ha).2; omega⟩
      · rw [List.mem_singleton.mp ha]; exact ⟨q3, by omega⟩
    · rw [List.length_append]; show P4.length + 1 ≤ B; omega
    · rw [List.length_append, List.length_append, List.length_append]; show c.length + P.length + c4.length + (P4.length + 1) + k ≤ k4; omega
    · have ht := ty_bin (A := c ++ P) (D := c4 ++ P4) q2 (by rw [q5]; exact e8) (by rw [q5]; exact b8)
      rw [q6] at ht
      simpa only [List.append_assoc] using ht
  · refine zW_call (XE_em (kc := k) (cl := C.length) hC (by omega) (XE_tr (k := k) (kc := k + 1) h4 g13 (by omega) (by omega))) ?_
    rintro ⟨V5, L5⟩ ⟨rfl, h5⟩
    dsimp only at h5 ⊢
    rw [q_add]
    exact ih 0 _ (by omega) ⟨i + 1, V5, rfl, Or.inr ⟨by omega, h5⟩⟩
end
