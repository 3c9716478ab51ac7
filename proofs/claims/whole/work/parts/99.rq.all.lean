section
variable {b fr k o tn tl wo y yt a0 a1 a2 pc H B lv off : Nat} {bo : Bool} {V0 V R0 R R1 : zI} {L M M0 M1 : zL} {N : Nat → Nat} {G : zG} {ed t : Nat → Nat} {tk : Nat → tkT} {T : tkT} {C O P : List Nat} {F : T_GR}
def XA (b fr : Nat) (R0 : zI) (M0 : zL) (ed : Nat → Nat) (tk : Nat → tkT) (y pc : Nat) (V0 : zI) (tn : Nat) (N : Nat → Nat) (G : zG) (L : zL) (d : Nat) : Prop := ∀ o, o ≤ 7 → (10 * (8 - o) ≤ d → SX b fr R0 M0 ed tk y pc V0 tn N G L (FF_GR d).1 1 1 0 true (8 * o) (12 - o) prT qR o) ∧ (10 * (8 - o) ≤ d + 1 → SX b fr R0 M0 ed tk y pc V0 tn N G L (FF_GR d).2.1 2 2 1 true (8 * o + 1) (11 - o) prT qD o) ∧ (10 * (8 - o) ≤ d + 2 → SX b fr R0 M0 ed tk y pc V0 tn N G L (FF_GR d).2.2.1 4 3 2 true (8 * o + 2) (10 - o) prT qT o) ∧ (10 * (8 - o) ≤ d + 3 → SX b fr R0 M0 ed tk y pc V0 tn N G L (FF_GR d).2.2.2.1 4 4 2 true (8 * o + 2) 3 prC (fun _ ph' T => ph' = 1 ∧ ¬ ari T) o) ∧ (10 * (8 - o) ≤ d + 4 → SX b fr R0 M0 ed tk y pc V0 tn N G L (FF_GR d).2.2.2.2.1 5 5 3 false (8 * o + 3) 2 prS qA o) ∧ (10 * (8 - o) ≤ d + 5 → SX b fr R0 M0 ed tk y pc V0 tn N G L (FF_GR d).2.2.2.2.2.1 6 6 4 false (8 * o + 4) 1 prS qM o) ∧ (10 * (8 - o) ≤ d + 6 → SX b fr R0 M0 ed tk y pc V0 tn N G L (FF_GR d).2.2.2.2.2.2.1 7 7 5 false (8 * o + 5) 0 prS qP o) ∧ (10 * (8 - o) ≤ d + 7 → SX b fr R0 M0 ed tk y pc V0 tn N G L (fun N G y V L => (FF_GR d).2.2.2.2.2.2.2.1 N G y (qi 10) V L) 7 7 5 false (8 * o + 5) 0 (fun x ph bg T => prS x ph bg T ∧ tO T 21) qP o ∧ SX b fr R0 M0 ed tk y pc V0 tn N G L (fun N G y V L => (FF_GR d).2.2.2.2.2.2.2.1 N G y (qi 11) V L) 7 7 5 false (8 * o + 5) 0 (fun x ph bg T => prS x ph bg T ∧ tO T 22) qP o ∧ SX b fr R0 M0 ed tk y pc V0 tn N G L (FF_GR d).2.2.2.2.2.2.2.2 7 7 5 false (8 * o + 5) 0 (fun x ph bg T => prS x ph bg T ∧ tO T 16) qP o)
theorem n_sumd {d : Nat} (hC : CV N G y yt a0 a1 a2 pc tn tl) : FX y pc V0 tn N G L (FF_GR (d + 3)).2.2.2.2.1 :=
  n_sum (F := FF_GR (d + 2)) (n_product (F := FF_GR (d + 1)) (n_part (F := FF_GR d) hC))
theorem x_all (hA : AH t tl ed tk tn) (hE : EV b wo R0 t tl) (hC : CV N G y yt a0 a1 a2 pc tn tl) (hV : TV V0 yt a0 a1 a2 tn tk) (hW : TW tk tn) (hw9 : V0 y 9 = qi wo) (hw1 : wo ≤ 1) : ∀ d, XA b fr R0 M0 ed tk y pc V0 tn N G L d := by
  intro d
  induction d with
  | zero =>
    intro o ho
    refine ⟨fun h => ?_, fun h => ?_, fun h => ?_, fun h => ?_, fun h => ?_, fun h => ?_, fun h => ?_, fun h => ?_⟩
    all_goals omega
  | succ d ih =>
    intro o ho
    obtain ⟨i1, i2, i3, i4, i5, i6, i7, i8⟩ := ih o ho
    have hsum : o < 7 → 10 * (8 - o) ≤ d + 8 → SX b fr R0 M0 ed tk y pc V0 tn N G L (FF_GR d).2.2.2.2.1 5 5 3 false (8 * (o + 1) + 3) 2 prS qA (o + 1) := fun o7 h => (ih (o + 1) (by omega)).2.2.2.2.1 (by omega)
    have htest : o < 7 → 10 * (8 - o) ≤ d + 8 → SX b fr R0 M0 ed tk y pc V0 tn N G L (FF_GR d).1 1 1 0 true (8 * (o + 1)) (12 - (o + 1)) prT qR (o + 1) := fun o7 h => (ih (o + 1) (by omega)).1 (by omega)
    have hfx : o < 7 → 10 * (8 - o) ≤ d + 8 → FX y pc V0 tn N G L (FF_GR d).2.2.2.2.1 := fun o7 h => by
      have hd : d = (d - 3) + 3 := by omega
      rw [hd]
      exact n_sumd hC
    refine ⟨fun h => ?_, fun h => ?_, fun h => ?_, fun h => ?_, fun h => ?_, fun h => ?_, fun h => ?_, fun h => ⟨?_, ?_, ?_⟩⟩
    · exact x_test (F := FF_GR d) hA hE hC hV hW ho (i2 (by omega))
    · exact x_both (F := FF_GR d) hA hE hC hV hW ho (i3 (by omega))
    · exact x_fact (F := FF_GR d) hA hE hC hV hW ho (i4 (by omega)) (fun o7 => (ih (o + 1) (by omega)).2.2.1 (by omega)) (fun o7 => htest o7 (by omega))
    · exact x_cmp (F := FF_GR d) hA hE hC hV hW ho (i5 (by omega))
    · exact x_sum (F := FF_GR d) hA hE hC hV hW ho (i6 (by omega))
    · exact x_product (F := FF_GR d) hA hE hC hV hW ho (i7 (by omega))
    · exact x_part (F := FF_GR d) hA hE hC hV hW hw9 hw1 ho (fun o7 => hsum o7 (by omega)) (i8 (by omega)).1 (i8 (by omega)).2.1 (i8 (by omega)).2.2
    · exact x_ext (F := FF_GR d) hA hE hC hV hW ho (Or.inl ⟨rfl, rfl⟩) (fun o7 => hsum o7 (by omega)) (fun o7 => hfx o7 (by omega))
    · exact x_ext (F := FF_GR d) hA hE hC hV hW ho (Or.inr ⟨rfl, rfl⟩) (fun o7 => hsum o7 (by omega)) (fun o7 => hfx o7 (by omega))
    · exact x_cho (F := FF_GR d) hA hE hC hV hW ho (fun o7 => hsum o7 (by omega)) (fun o7 => hfx o7 (by omega)) (fun o7 => htest o7 (by omega))
/-- a rule's text on both sides, from behind its word -/
def RO (b fr : Nat) (R0 : zI) (M0 : zL) (ed : Nat → Nat) (tk : Nat → tkT) (y pc : Nat) (V0 : zI) (tn : Nat) (bo : Bool) (k : Nat) (V : zI) (R : zI) (M : zL) : Prop := (∃ k' c, c.length + k ≤ k' ∧ CS y pc V0 tk tn k' c 0 V ∧ tyE c bo 0 ∧ (((tk k').1 ≠ 5 ∧ ∃ F, RS b fr R0 M0 ed tk k' c [] 0 1 F R M) ∨ ((tk k').1 = 5 ∧ RE b fr R0 M0 1 (tk k').2.1 R M))) ∨ (∃ k' f pl cc, k ≤ k' ∧ CE y pc V0 tn f pl k' cc V ∧ RE b fr R0 M0 f pl R M ∧ cc + k ≤ k')
theorem rg_stop {n : Nat} : zfix b_reads_43 (n + 1) (0, R, M) = some (R, M) := by
  show (if (0 : Int32) = 0 then some (R, M) else (if (R 0 37) = 0 then (f_operand R M).bind fun r2 => if zB r2.1 then f_reads_70 (zfix b_reads_43 n) 0 (z_uI r2.2.1 0 37 r2.1) r2.2.2 else none else (f_goesOn R M).bind fun r1 => f_reads_70 (zfix b_reads_43 n) r1.1 r1.2.1 r1.2.2)) = some (R, M)
  exact if_pos rfl
set_option maxHeartbeats 2000000 in
theorem x_rule {tst' : Bool} (hA : AH t tl ed tk tn) (hE : EV b wo R0 t tl) (hC : CV N G y yt a0 a1 a2 pc tn tl) (hV : TV V0 yt a0 a1 a2 tn tk) (hW : TW tk tn) (hw9 : V0 y 9 = qi wo) (hw1 : wo ≤ 1) (hcs : CS y pc V0 tk tn k [] 0 V) (hrs : RS b fr R0 M0 ed tk k [] [] 0 0 [] R M) (hk : fr < k) : zX (if tst' then f_X5_readTest_T N G y V L else f_X5_readSum_T N G y V L) (f_reads_38 (if tst' then 1 else 0) R M) (fun r r' => r.2 = L ∧ RO b fr R0 M0 ed tk y pc V0 tn tst' k r.1 r'.1 r'.2) := by
  have htl := hC.2.2.2
  have hall := x_all (L := L) hA hE hC hV hW hw9 hw1 (fr := fr) (M0 := M0) 100 0 (by omega)
  obtain ⟨⟨R1, M1⟩, ep, h1⟩ := p_push (x := if tst' then 1 else 0) hrs (by show 0 < 20; omega)
  dsimp only at h1
  have ep' : f_pushes (if tst' then 1 else 0) R M = some (R1, M1) := by
    rw [← ep]
    cases tst'
    · rfl
    · rfl
  unfold f_reads_38
  rw [ep', o_bind]
  have hx1 : (if tst' = true then 1 else 0) < 100 := by cases tst' <;> decide
  have key : zW (if tst' then f_X5_readTest_T N G y V L else f_X5_readSum_T N G y V L) (fun r => r.2 = L ∧ ((∃ m R' M' k' c P ph', m + k ≤ k' ∧ rg m (1, R1, M1) (1, R', M') ∧ CS y pc V0 tk tn k' ([] ++ (c ++ P)) 0 r.1 ∧ RS b fr R0 M0 ed tk k' ([] ++ c) (P ++ []) (0 + nots P) 1 ((if tst' then 1 else 0, ph', 0, 0, 0) :: []) R' M' ∧ pnd 1 P ∧ P.length ≤ 12 ∧ c.length + P.length + k ≤ k' ∧ tyE (c ++ P) tst' 0 ∧ (ph' < 2 → ¬ ari (tk k')) ∧ (tst' = true → ph' ≠ 0 ∧ ¬ cnj (tk k')) ∧ ph' < 100) ∨ XE b fr R0 M0 y pc V0 tn k k 0 R1 M1 r.1)) := by
    cases tst' with
    | true =>
      refine zW_mono ((hall.1 (by omega)) V R1 M1 k [] [] 1 0 1 0 0 [] hcs h1 ⟨⟨Or.inl rfl, rfl⟩, rfl⟩ (Or.inl rfl) (Nat.le_refl _) (by show 0 ≤ _; omega) (Nat.le_refl _) (by omega) (by omega) (by show fr + 0 < k; omega)) ?_
      rintro ⟨V2, L2⟩ ⟨rfl, h2⟩
      refine ⟨rfl, ?_⟩
      rcases h2 with ⟨m, R2, M2, k2, c, P, ph', e1, e2, e3, e4, e5, e6, e7, e8, e9⟩ | h2
      · obtain ⟨hq, hnj⟩ := qR_cnj e9
        refine Or.inl ⟨m, R2, M2, k2, c, P, ph', e1, e2, e3, e4, e5, by omega, e7, ty_mono e8 (by omega), fun h => ?_, fun _ => ⟨?_, hnj⟩, ?_⟩
        · rcases hq with hq | hq
          · exact hq.2
          · omega
        · rcases hq with hq | hq
          · omega
          · omega
        · rcases hq with hq | hq
          · omega
          · omega
      · exact Or.inr h2
    | false =>
      refine zW_mono ((hall.2.2.2.2.1 (by omega)) V R1 M1 k [] [] 0 0 1 0 0 [] hcs h1 ⟨by omega, fun h => by rcases h with h | h | h <;> omega⟩ (Or.inl rfl) (Nat.le_refl _) (by show 0 ≤ _; omega) (Nat.le_refl _) (by omega) (by omega) (by show fr + 0 < k; omega)) ?_
      rintro ⟨V2, L2⟩ ⟨rfl, h2⟩
      refine ⟨rfl, ?_⟩
      rcases h2 with ⟨m, R2, M2, k2, c, P, ph', e1, e2, e3, e4, e5, e6, e7, e8, e9⟩ | h2
      · obtain ⟨hq, hna⟩ := qA_ari e9
        refine Or.inl ⟨m, R2, M2, k2, c, P, ph', e1, e2, e3, e4, pnd_le e5 (by omega), by omega, e7, ty_mono e8 (by omega), fun _ => hna, (fun h => by cases h), by omega⟩
      · exact Or.inr h2
  have hloop : ∀ m s', rg m (1, R1, M1) s' → m < 2000 → zfix b_reads_43 FU (1, R1, M1) = zfix b_reads_43 (FU - m) s' := fun m s' hg hm => by
    have := hg (FU - m)
    rw [Nat.sub_add_cancel (Nat.le_of_lt (FU_big (by omega)))] at this
    exact this
  have hstop : ∀ m (R' : zI) (M' : zL), m < 2000 → zfix b_reads_43 (FU - m) (0, R', M') = some (R', M') := fun m R' M' hm => by
    have : FU - m = (FU - m - 1) + 1 := by
      have := FU_big (n := 2001) (by omega)
      omega
    rw [this]
    exact rg_stop
  refine zX_W (zW_mono key ?_)
  rintro ⟨V2, L2⟩ ⟨rfl, h2⟩
  dsimp only at h2 ⊢
  rcases h2 with ⟨m, R2, M2, k2, c, P, ph', e1, e2, e3, e4, e5, e6, e7, e8, e9, e10, e11⟩ | h2
  · have hk2 := e3.2.1
    have hCl2 : ([] ++ c : List Nat).length = c.length := rfl
    have hnP : nots P ≤ P.length := by
      have g : ∀ P : List Nat, nots P ≤ P.length := by
        intro P
        induction P with
        | nil => exact Nat.le_refl _
        | cons a P ih =>
          show (if a = 17 then 1 else 0) + nots P ≤ P.length + 1
          by_cases e : a = 17
          · rw [if_pos e]; omega
          · rw [if_neg e]; omega
      exact g P
    by_cases h5 : (tk k2).1 = 5
    · obtain ⟨R3, M3, g3, r3⟩ := st_goE (y := 0) (by omega) e4.2.2.1.2.2.2.2.2.2 (g_lex e4 h5)
      rw [hloop (m + 1) _ (rg_t e2 g3) (by omega), hstop _ _ _ (by omega)]
      exact zW_some ⟨rfl, Or.inl ⟨k2, c ++ P, by rw [List.length_append]; omega, e3, e8, Or.inr ⟨h5, r3⟩⟩⟩
    · have g := g_end hE h5 (by cases tst' <;> decide) e11 e9 (fun ht => by
        cases tst' with
        | true => exact (e10 rfl).1
        | false => rcases ht with h | h | h <;> cases h) (fun ht => by
        cases tst' with
        | true => exact (e10 rfl).2
        | false => rcases ht with h | h | h <;> cases h) e5 (Or.inl rfl) (Nat.le_refl _) (by show P.length + 0 < 500; omega) (by show fr + c.length + P.length ≤ 1600; omega) (by show 0 < 20; omega) (by omega) (by omega) e4
      obtain ⟨R3, M3, g3, r3⟩ := st_goZ e4.2.2.1.2.2.2.2.2.2 g
      rw [hloop (m + 1) _ (rg_t e2 g3) (by omega), hstop _ _ _ (by omega)]
      rw [show 0 + nots P - nots P = 0 by omega] at r3
      exact zW_some ⟨rfl, Or.inl ⟨k2, c ++ P, by rw [List.length_append]; omega, e3, e8, Or.inl ⟨h5, _, r3⟩⟩⟩
  · obtain ⟨m1, R3, M3, k1, f1, pl, cc, a1, a2, a3, a4, a5, a6⟩ := h2
    have := a4.2.1
    rw [hloop m1 _ a3 (by omega), hstop _ _ _ (by omega)]
    exact zW_some ⟨rfl, Or.inr ⟨k1, f1, pl, cc, a2, a4, a5, by omega⟩⟩
end
