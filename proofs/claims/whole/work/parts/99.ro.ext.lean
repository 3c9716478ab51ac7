section
variable {b fr k o tn tl wo y yt a0 a1 a2 pc H B lv off : Nat} {bo : Bool} {V0 V R0 R R1 : zI} {L M M0 M1 : zL} {N : Nat → Nat} {G : zG} {ed t : Nat → Nat} {tk : Nat → tkT} {T : tkT} {C O P : List Nat} {F : T_GR}
theorem XE_tr2 {m k2 kc kc2 cl cl2 : Nat} (h : XE b fr R0 M0 y pc V0 tn k2 kc2 cl2 R1 M1 V) (hr : rg m (1, R, M) (1, R1, M1)) (hm : m + k ≤ k2) (hc : cl2 + kc ≤ cl + kc2) : XE b fr R0 M0 y pc V0 tn k kc cl R M V := by
  obtain ⟨m1, R2, M2, k1, f, pl, cc, a1, a2, a3, a4, a5, a6⟩ := h
  exact ⟨m + m1, R2, M2, k1, f, pl, cc, by omega, by omega, rg_t hr a3, a4, a5, by omega⟩
/-- , a sum ) and the op, from the first sum on -/
def x_tl (F : T_GR) (N : Nat → Nat) (G : zG) (y : Nat) (z : Int32) (V : zI) (L : zL) : Option (zI × zL) := (F.2.2.2.2.1 N G y V L).bind fun r3 => (f_X5_skipSign N G y 44 r3.1 r3.2).bind fun r4 => (F.2.2.2.2.1 N G y r4.1 r4.2).bind fun r5 => (f_X5_skipSign N G y 41 r5.1 r5.2).bind fun r6 => (f_X5_emit N G y z (z_uI r6.1 y 8 ((r6.1 y 8) - 1)) r6.2).bind fun r7 => some (r7.1, r7.2)
def TK (b fr : Nat) (R0 : zI) (M0 : zL) (ed : Nat → Nat) (tk : Nat → tkT) (y pc : Nat) (V0 : zI) (tn : Nat) (j k : Nat) (C O : List Nat) (o x ph pr bs : Nat) (Fr : List fmT) (R : zI) (M : zL) (V : zI) : Prop := ∃ m R' M' k' A D, m + k ≤ k' ∧ rg m (1, R, M) (1, R', M') ∧ CS y pc V0 tk tn k' (C ++ (A ++ D ++ [j])) o V ∧ RS b fr R0 M0 ed tk k' (C ++ (A ++ D ++ [j])) O o 1 ((x, ph, 0, pr, bs) :: Fr) R' M' ∧ A.length + D.length + k + 2 ≤ k' ∧ tyE A false (8 * (o + 1) + 3) ∧ tyE D false (8 * (o + 1) + 3)
set_option maxHeartbeats 2000000 in
theorem x_tail {j kc x ph bg pr bs : Nat} {Fr : List fmT} (hA : AH t tl ed tk tn) (hE : EV b wo R0 t tl) (hC : CV N G y yt a0 a1 a2 pc tn tl) (hV : TV V0 yt a0 a1 a2 tn tk) (hW : TW tk tn) (hj : j = 10 ∨ j = 11 ∨ j = 18) (ho : o < 7) (hS : SX b fr R0 M0 ed tk y pc V0 tn N G L F.2.2.2.2.1 5 5 3 false (8 * (o + 1) + 3) 2 prS qA (o + 1)) (hSE : FX y pc V0 tn N G L F.2.2.2.2.1) (hcs : CS y pc V0 tk tn k C (o + 1) V) (hrs : RS b fr R0 M0 ed tk k C O (o + 1) 0 ((3, 0, bg, rsOf j, O.length) :: (x, ph, 0, pr, bs) :: Fr) R M) (hbg : bg ≤ 1) (hol : O.length ≤ 6 * o + 5) (hFr : Fr.length ≤ o) (hk : fr + C.length + 1 < k) (hkc : kc + 1 = k) : zW (x_tl F N G y (qi j) V L) (fun r => r.2 = L ∧ (TK b fr R0 M0 ed tk y pc V0 tn j k C O o x ph pr bs Fr R M r.1 ∨ XE b fr R0 M0 y pc V0 tn k kc C.length R M r.1)) := by
  have htl := hC.2.2.2
  have hd := hC.2.2.1.2.2.2.2.1
  have hjr : rsOf j ≠ 0 ∧ j < 100 ∧ cOf j = j := by
    rcases hj with rfl | rfl | rfl
    all_goals decide
  have hemE : ∀ (V2 : zI) (z : Int32), XE b fr R0 M0 y pc V0 tn k k C.length R M V2 → zW ((f_X5_emit N G y (qi j) (z_uI V2 y 8 z) L).bind fun r7 => some (r7.1, r7.2)) (fun r => r.2 = L ∧ (TK b fr R0 M0 ed tk y pc V0 tn j k C O o x ph pr bs Fr R M r.1 ∨ XE b fr R0 M0 y pc V0 tn k kc C.length R M r.1)) := fun V2 z h => by
    refine zW_call (XE_em (kc := kc) (cl := C.length) hC (by have := hcs.2.1; omega) (by rw [hkc]; exact XE_8 h)) ?_
    rintro ⟨V3, L3⟩ ⟨rfl, h3⟩
    exact zW_some ⟨rfl, Or.inr h3⟩
  unfold x_tl
  refine zW_call (hS V R M k C O 3 0 bg (rsOf j) O.length ((x, ph, 0, pr, bs) :: Fr) hcs hrs ⟨by omega, fun h => by rcases h with h | h | h <;> omega⟩ (Or.inl rfl) (Nat.le_refl _) (by omega) (by show Fr.length + 1 ≤ _; omega) (by omega) hbg (by omega)) ?_
  rintro ⟨V1, L1⟩ ⟨rfl, h1⟩
  dsimp only at h1 ⊢
  rcases h1 with ⟨m, R1, M1, k1, c1, P1, ph1, e1, e2, e3, e4, e5, e6, e7, e8, e9⟩ | h1
  case inr =>
    obtain ⟨m1, R4, M4, k4, f1, pl, cc, a1, a2, a3, a4, a5, a6⟩ := id h1
    rw [k_skipE a4, o_bind]
    dsimp only
    rw [hSE V1 f1 pl k4 cc a4, o_bind]
    dsimp only
    rw [k_skipE a4, o_bind]
    exact hemE V1 _ h1
  obtain ⟨hp1, hna⟩ := qA_ari e9
  subst hp1
  have hk1 := e3.2.1
  have hn0 : nots P1 = 0 := nots_0 (pnd_le e5 (by omega))
  have hCl : (C ++ (c1 ++ P1)).length = C.length + (c1.length + P1.length) := by rw [List.length_append, List.length_append]
  have hCl2 : (C ++ c1).length = C.length + c1.length := List.length_append
  refine zW_call (k_skip (s := 44) hC hV hW e3 (by omega)) ?_
  rintro ⟨V2, L2⟩ ⟨rfl, h2⟩
  dsimp only at h2 ⊢
  rcases h2 with ⟨hs, h2⟩ | ⟨hs, h2⟩
  case inr =>
    obtain ⟨R5, M5, g5, r5⟩ := go_bad e4 (fun h5 => g_comE h5 (Or.inl rfl) hs (by omega) (fun _ => hna) (fun h => by rcases h with h | h | h <;> omega) (fun h => by rcases h with h | h | h <;> omega) (by show Fr.length + 1 < 20; omega) e4)
    have hx : XE b fr R0 M0 y pc V0 tn k k C.length R M V2 := XE_mk h2 r5 (rg_t e2 g5) (by omega) (by omega) (by omega)
    rw [hSE V2 _ _ _ _ h2, o_bind]
    dsimp only
    rw [k_skipE h2, o_bind]
    exact hemE V2 _ hx
  have hk2 := hW.1 k1 hk1 (by have := hs.1; omega)
  have g := g_com hA hE hk2 (Or.inl rfl) hs (by omega) (fun h => by rcases h with h | h | h <;> omega) (pnd_le e5 (by omega)) (Or.inl rfl) (Nat.le_refl _) (by omega) (by omega) (by show Fr.length + 1 < 20; omega) (by omega) (by omega) e4
  rw [hn0, if_pos rfl, List.append_assoc, show o + 1 + 0 - 0 = o + 1 by omega] at g
  obtain ⟨R2, M2, g2, r2⟩ := st_goK e4.2.2.1.2.2.2.2.2.2 g
  have g12 := rg_t e2 g2
  refine zW_call (hS V2 R2 M2 (k1 + 1) (C ++ (c1 ++ P1)) O 4 0 0 (rsOf j) O.length ((x, ph, 0, pr, bs) :: Fr) h2 r2 ⟨by omega, fun h => by rcases h with h | h | h <;> omega⟩ (Or.inl rfl) (Nat.le_refl _) (by omega) (by show Fr.length + 1 ≤ _; omega) (by omega) (by omega) (by omega)) ?_
  rintro ⟨V3, L3⟩ ⟨rfl, h3⟩
  dsimp only at h3 ⊢
  rcases h3 with ⟨m3, R3, M3, k3, c3, P3, ph3, f1, f2, f3, f4, f5, f6, f7, f8, f9⟩ | h3
  case inr =>
    obtain ⟨m1, R4, M4, k4, f1, pl, cc, a1, a2, a3, a4, a5, a6⟩ := id h3
    rw [k_skipE a4, o_bind]
    exact hemE V3 _ (XE_tr h3 g12 (by omega) (by omega))
  obtain ⟨hp3, hna3⟩ := qA_ari f9
  subst hp3
  have hk3 := f3.2.1
  have hn3 : nots P3 = 0 := nots_0 (pnd_le f5 (by omega))
  have hCl3 : (C ++ (c1 ++ P1) ++ (c3 ++ P3)).length = C.length + (c1.length + P1.length) + (c3.length + P3.length) := by rw [List.length_append, hCl, List.length_append]
  have hCl4 : (C ++ (c1 ++ P1) ++ c3).length = C.length + (c1.length + P1.length) + c3.length := by rw [List.length_append, hCl]
  refine zW_call (k_skip (s := 41) hC hV hW f3 (by omega)) ?_
  rintro ⟨V4, L4⟩ ⟨rfl, h4⟩
  dsimp only at h4 ⊢
  rcases h4 with ⟨hs4, h4⟩ | ⟨hs4, h4⟩
  case inr =>
    obtain ⟨R5, M5, g5, r5⟩ := go_bad f4 (fun h5 => g_clsE h5 (Or.inr (Or.inl rfl)) hs4 (by omega) (fun _ => hna3) (fun h => by rcases h with h | h | h <;> omega) (fun h => by rcases h with h | h | h <;> omega) (by show Fr.length + 1 < 20; omega) f4)
    exact hemE V4 _ (XE_mk h4 r5 (rg_t (rg_t g12 f2) g5) (by omega) (by omega) (by omega))
  have hk4 := hW.1 k3 hk3 (by have := hs4.1; omega)
  have g4 := g_cls4 (c := j) hA hE hk4 hs4 (by omega) ⟨rfl, hjr.1, hjr.2.1⟩ (pnd_le f5 (by omega)) (Or.inl rfl) (Nat.le_refl _) (by omega) (by omega) (by show Fr.length + 1 < 20; omega) (by omega) (by omega) f4
  rw [hn3, show o + 1 + 0 - 0 - 1 = o by omega] at g4
  obtain ⟨R5, M5, g5, r5⟩ := st_goK f4.2.2.1.2.2.2.2.2.2 g4
  have b6 : V4 y 8 = qi (o + 1) := h4.2.2.2.1.2.1
  rw [b6, show (1 : Int32) = qi 1 from rfl, q_sub (by omega), Nat.add_sub_cancel]
  have hem := k_emit (L := L4) (c := j) hC (k_8 (o' := o) h4 hd) (by omega)
  rw [hjr.2.2] at hem
  refine zW_call hem ?_
  rintro ⟨V5, L5⟩ ⟨rfl, h5⟩
  dsimp only at h5 ⊢
  refine zW_some ⟨rfl, Or.inl ⟨m + 1 + m3 + 1, R5, M5, k3 + 1, c1 ++ P1, c3 ++ P3, by omega, rg_t (rg_t g12 f2) g5, by simpa only [List.append_assoc] using h5, by simpa only [List.append_assoc] using r5, by rw [List.length_append, List.length_append]; omega, e8, f8⟩⟩
/-- min, max -/
theorem x_open {i x ph bg pr bs : Nat} {Fr : List fmT} (hA : AH t tl ed tk tn) (hE : EV b wo R0 t tl) (hC : CV N G y yt a0 a1 a2 pc tn tl) (hV : TV V0 yt a0 a1 a2 tn tk) (hW : TW tk tn) (ho : o ≤ 7) (hi : i = 21 ∨ i = 22 ∨ i = 16) (hcs : CS y pc V0 tk tn k C o V) (hrs : RS b fr R0 M0 ed tk k C O o 0 ((x, ph, bg, pr, bs) :: Fr) R M) (hpre : prS x ph bg (tk k)) (hN : tO (tk k) i) (hFr : Fr.length ≤ o) (hx : x < 100) (hbg : bg ≤ 1) (hk : fr + C.length < k) : zW ((f_X5_take N G y V L).bind fun r1 => f_X5_opensWithParenthesis N G y r1.1 r1.2) (fun r => r.2.2 = L ∧ ((r.1 = 1 ∧ o < 7 ∧ CS y pc V0 tk tn (k + 2) C (o + 1) r.2.1 ∧ ∃ R' M', rg 1 (1, R, M) (1, R', M') ∧ RS b fr R0 M0 ed tk (k + 2) C O (o + 1) 0 ((if i = 16 then 6 else 3, 0, 1, fnS i, O.length) :: (x, ph, 0, pr, bs) :: Fr) R' M') ∨ (r.1 = 0 ∧ XE b fr R0 M0 y pc V0 tn k k C.length R M r.2.1))) := by
  have htl := hC.2.2.2
  have hd := hC.2.2.1.2.2.2.2.1
  have hk0 := hcs.2.1
  have h10 : (tk k).1 ≠ 0 := by have := hN.1; omega
  have h15 : (tk k).1 ≠ 5 := by have := hN.1; omega
  have hk1 := hW.1 k hk0 h10
  have h37 : R 0 37 = qi 0 := hrs.2.2.1.2.2.2.2.2.2
  obtain ⟨p1, p2, p3, p4⟩ := o_fun hA hE.2.1 hk1 (p_15 (y := 0) hrs) hi hN
  rw [← o_171 hrs h15 (by omega) hx hbg hpre.2] at p1 p2 p3 p4
  refine zW_call (k_take hC hV hW hcs h10) ?_
  rintro ⟨V1, L1⟩ ⟨rfl, h1⟩
  dsimp only at h1 ⊢
  unfold f_X5_opensWithParenthesis g_X5_opensWithParenthesis
  rw [show (40 : Int32) = qi 40 from rfl, k_sg hW h1 (by omega), o_bind]
  by_cases c40 : tS (tk (k + 1)) 40
  · have h20 : (tk (k + 1)).1 ≠ 0 := by have := c40.1; omega
    have hk2 := hW.1 (k + 1) hk1 h20
    rw [if_pos c40]
    refine zW_if0 (by decide) ?_
    by_cases o7 : o = 7
    · subst o7
      refine zW_call (k_opens7 hC h1) ?_
      rintro ⟨z, V2, L2⟩ ⟨rfl, rfl, h2⟩
      refine zW_if1 (show zB 0 by decide) ?_
      obtain ⟨R2, M2, g2, r2⟩ := st_opE (w' := 0) (by omega) h37 (p3 c40 rfl)
      exact zW_some ⟨rfl, Or.inr ⟨rfl, XE_mk h2 r2 g2 (by omega) (by omega) (by omega)⟩⟩
    · have o7 : o < 7 := by omega
      refine zW_call (k_opens hC hV hW h1 h20 o7) ?_
      rintro ⟨z, V2, L2⟩ ⟨rfl, rfl, h2⟩
      refine zW_if1 (show zB 1 by decide) ?_
      obtain ⟨R2, M2, g2, r2⟩ := st_opK (w' := 0) (by omega) h37 (p4 c40 o7 (by show Fr.length + 1 < 20; omega) hk2)
      exact zW_some ⟨rfl, Or.inl ⟨rfl, o7, h2, R2, M2, g2, r2⟩⟩
  · rw [if_neg c40]
    refine zW_if1 (by rfl) ?_
    refine zW_call (k_fh hW h1 hd) ?_
    rintro ⟨V2, L2⟩ ⟨rfl, h2⟩
    have hb : ∃ R' M', rg 1 (1, R, M) (0, R', M') ∧ RE b fr R0 M0 1 (fp (tk (k + 1))) R' M' := by
      unfold fp
      by_cases e : (tk (k + 1)).1 = 5
      · rw [if_pos e]
        exact st_opE (w' := 0) (by omega) h37 (p1 e)
      · rw [if_neg e]
        exact st_opE (w' := 0) (by omega) h37 (p2 e c40)
    obtain ⟨R2, M2, g2, r2⟩ := hb
    exact zW_some ⟨rfl, Or.inr ⟨rfl, XE_mk h2 r2 g2 (by omega) (by omega) (by omega)⟩⟩
set_option maxHeartbeats 2000000 in
theorem x_ext {i j : Nat} (hA : AH t tl ed tk tn) (hE : EV b wo R0 t tl) (hC : CV N G y yt a0 a1 a2 pc tn tl) (hV : TV V0 yt a0 a1 a2 tn tk) (hW : TW tk tn) (ho : o ≤ 7) (hij : (i = 21 ∧ j = 10) ∨ (i = 22 ∧ j = 11)) (hS : o < 7 → SX b fr R0 M0 ed tk y pc V0 tn N G L F.2.2.2.2.1 5 5 3 false (8 * (o + 1) + 3) 2 prS qA (o + 1)) (hSE : o < 7 → FX y pc V0 tn N G L F.2.2.2.2.1) : SX b fr R0 M0 ed tk y pc V0 tn N G L (fun N G y V L => f_X5_readExtreme F N G y (qi j) V L) 7 7 5 false (8 * o + 5) 0 (fun x ph bg T => prS x ph bg T ∧ tO T i) qP o := by
  intro V R M k C O x ph bg pr bs Fr hcs hrs hpre hlow hbs hol hFr hx hbg hk
  have hi : i = 21 ∨ i = 22 ∨ i = 16 := by omega
  have hfn : fnS i = rsOf j ∧ (if i = 16 then 6 else 3) = 3 ∧ (j = 10 ∨ j = 11 ∨ j = 18) ∧ (5 ≤ j ∧ j ≤ 16) ∧ decide (j = 12 ∨ j = 13) = false ∧ decide (12 ≤ j) = false := by
    rcases hij with ⟨rfl, rfl⟩ | ⟨rfl, rfl⟩
    · decide
    · decide
  obtain ⟨⟨V1, L1⟩, et, h1⟩ := k_take (L := L) hC hV hW hcs (by have := hpre.2.1; omega)
  obtain ⟨rfl, h1⟩ := h1
  dsimp only at h1
  have hop := x_open (L := L1) hA hE hC hV hW ho hi hcs hrs hpre.1 hpre.2 hFr hx hbg hk
  rw [et, o_bind] at hop
  show zW (f_X5_readExtreme F N G y (qi j) V L1) _
  unfold f_X5_readExtreme g_X5_readExtreme
  rw [et, o_bind]
  refine zW_call hop ?_
  rintro ⟨z, V2, L2⟩ ⟨rfl, h2⟩
  dsimp only at h2 ⊢
  rcases h2 with ⟨rfl, o7, h2, R2, M2, g2, r2⟩ | ⟨rfl, h2⟩
  case inr => exact zW_if1 (by rfl) (zW_some ⟨rfl, Or.inr h2⟩)
  refine zW_if0 (by decide) ?_
  rw [hfn.1, hfn.2.1] at r2
  refine zW_mono (x_tail (kc := k + 1) hA hE hC hV hW hfn.2.2.1 o7 (hS o7) (hSE o7) h2 r2 (by omega) (by omega) hFr (by omega) (by omega)) ?_
  rintro ⟨V3, L3⟩ ⟨rfl, h3⟩
  refine ⟨rfl, ?_⟩
  rcases h3 with ⟨m, R3, M3, k3, A, D, e1, e2, e3, e4, e5, e6, e7⟩ | h3
  · refine Or.inl ⟨1 + m, R3, M3, k3, A ++ D ++ [j], [], ph, by omega, rg_t g2 e2, by rw [List.append_nil]; exact e3, e4, fun a ha => absurd ha List.not_mem_nil, Nat.zero_le _, ?_, ?_, rfl⟩
    · rw [List.length_append, List.length_append]; show A.length + D.length + 1 + 0 + k ≤ k3; omega
    · rw [List.append_nil]
      have ht := ty_bin (A := A) (D := D) (H := 8 * o + 5) hfn.2.2.2.1 (by rw [hfn.2.2.2.2.1]; exact ty_mono e6 (by omega)) (by rw [hfn.2.2.2.2.1]; exact ty_mono e7 (by omega))
      rw [hfn.2.2.2.2.2] at ht
      exact ht
  · exact Or.inr (XE_tr2 h3 g2 (by omega) (by omega))
end
