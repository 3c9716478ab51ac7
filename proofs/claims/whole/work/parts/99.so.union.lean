section
variable {n n' : Nat} {K N K' N' : Nat → Nat} {G G' : zG} {V R V' R' : zI} {L M M' : zL} {u b f0 cnt acts x : Nat} {pl : Nat → Nat} {U : aU} {A : aS} {hi : Nat → aS}
theorem JJ_R (h : JJ n K N G V R M u b f0 cnt acts x pl U A hi) (hUR : UR R' M' b U) (hw : ∀ w, 19 ≤ w → R' w = R w) (h1 : R' 1 = R 1) (h0 : ∀ j, j = 1 ∨ j = 10 ∨ j = 11 ∨ j = 47 ∨ j = 48 ∨ j = 60 ∨ j = 64 → R' 0 j = R 0 j) (hm : M' 0 49 = M 0 49) : JJ n K N G V R' M' u b f0 cnt acts x pl U A hi := by
  obtain ⟨a1, ⟨⟨b1, b2, b3, b4⟩, b5, b6⟩, c1, c2, c3, c4, c5, c6, c7⟩ := h
  refine ⟨a1, ⟨⟨b1, b2, hUR, SR_fr b4 (fun w h1 _ => hw w (by omega))⟩, b5, fun i hi => ⟨(b6 i hi).1, SR_fr (b6 i hi).2.1 (fun w h1 _ => hw w (by omega)), (b6 i hi).2.2⟩⟩, ?_, ?_, ?_, ?_, ?_, ?_, ?_⟩
  · rw [h0 1 (by omega), h1]; exact c1
  · rw [h0 10 (by omega), h0 11 (by omega)]; exact c2
  · rw [hw 19 (by omega)]; exact c3
  · rw [h0 60 (by omega), hw 33 (by omega), hw 34 (by omega)]; exact c4
  · rw [h0 64 (by omega), hw 35 (by omega)]; exact c5
  · rw [hm]; exact c6
  · rw [h0 48 (by omega), h0 47 (by omega)]; exact c7
def U1 : aU := (0, 0, itW (fun _ => 0) 6, 1, 0, fun _ => none, fun _ => [])
theorem U1_ok : UI U1 (fun _ => 0) (fun _ => 0) := by
  have hup : upB (fun _ => 0) (fun _ => 0) U1 := ⟨fun k _ => ⟨Nat.zero_le _, fun _ => rfl⟩, fun k _ h => absurd h (Nat.lt_irrefl _), fun k _ => Nat.zero_le _, fun k _ _ => rfl, rfl⟩
  exact ⟨hup, ⟨Nat.zero_le _, Nat.zero_le _, by show 1 ≤ 3; omega, Nat.zero_le _⟩, up_way hup, (fun r l _ h => by cases h), fun k hk => absurd hk (Nat.not_lt_zero _)⟩
theorem u_ST {t : Nat → Nat} {tl c bb : Nat} (hn : 28 ≤ n) (hb : bb < 2) (hCV : CV N G n (n + 5) (n + 6) (n + 7) (n + 8) (n + 9) (c + 1) tl) (hu : unS N G (n + 1) ∧ G n 5 = some (n + 1)) (hTV : TV V (n + 5) (n + 6) (n + 7) (n + 8) (c + 1) (tkP t tl)) (hCS : CS n (n + 9) V (tkP t tl) (c + 1) 0 [] 0 V) (hvu : V (n + 1) 0 = qi 0 ∧ V (n + 1) 1 = qi 0 ∧ V (n + 1) 2 = qi 0 ∧ V (n + 1) 3 = qi 1 ∧ V (n + 1) 4 = qi 0) (hvr : ∀ k, V (n + 3) k = qi 0 ∧ V (n + 4) k = qi 0) (hno : ∀ r, r < 3 → G (n + 1) (8 + r) = none) {RX : zI} {MX : zL} (hUS : US bb t tl RX MX R M) : ST n bb (c + 1) tl t (edP t tl) (tkP t tl) 0 0 U1 (fun _ => 0) (fun _ => 0) n' N G V R M := by
  obtain ⟨s1, ⟨s2, s3, s4, s5, s6, s7, s8⟩, s9, s10, -⟩ := hUS
  refine ⟨⟨hCV, ⟨hu.1, hu.2, hn⟩, hTV, ⟨⟨hvu.1, hvu.2.1, hvu.2.2.2.1, hvu.2.2.2.2⟩, fun k _ => (hvr k).2, ⟨fun k hk => absurd hk (Nat.not_lt_zero _), fun k _ => (hvr k).1⟩, fun r hr => ⟨fun _ => hno r hr, fun l hl => by cases hl⟩⟩, fun r p hr hp => by rw [hno r hr] at hp; cases hp⟩, ⟨[], hCS, by show 0 ≤ 1600; omega⟩, U1_ok, s1, ⟨⟨⟨hb, s2, s5, s6, s7, s8⟩, ⟨fun k hk => (s9 k hk).1, fun k hk => (s9 k hk).2⟩, fun k hk => absurd hk (Nat.not_lt_zero _), fun r hr => ⟨fun _ => s10 r hr, fun l hl => by cases hl⟩⟩, s3, fun r l _ hl => by cases hl⟩, hb, Nat.le_refl _, fun r p hr hp => by rw [hno r hr] at hp; cases hp⟩
set_option maxHeartbeats 8000000 in
theorem m_union : ∀ (n : Nat) (K N : Nat → Nat) (G : zG) (V R : zI) (L M : zL), JP n K N G V R M → zX (f_X10_union 0 n K N G V L) (f_union R M) (fun r r' => r.1 = r'.1 ∧ JQ r.2 r'.2.1 r'.2.2) := by
  intro n K N G V R L M hJ
  obtain ⟨u, b0, f0, cnt, acts, x, pl, U, A, hi, hJJ⟩ := hJ
  obtain ⟨hJg, ⟨⟨hUC, hSC, hUR, hSR⟩, ⟨hUB, hSB⟩, hpast⟩, hJt, hJf, hJr, hJb, hJi, hJs, hJa⟩ := id hJJ
  obtain ⟨⟨j1, j2, j3, j4, j5, j6, j7⟩, j8, j9, j10, j11, j12, j13⟩ := id hJg
  obtain ⟨tl, htl, ht1, ht2, ht3⟩ := id hJt
  obtain ⟨t, ht⟩ : ∃ t : Nat → Nat, t = fun k => (R 1 k).toNatClampNeg := ⟨_, rfl⟩
  have htr : ∀ k, k < tl → R 1 k = qi (t k) ∧ t k < 256 := fun k hk => by
    obtain ⟨-, y, hy, e⟩ := ht3 k hk
    rw [ht]
    dsimp only
    rw [e, q_nn (by omega)]
    exact ⟨rfl, hy⟩
  have htc : ∀ k, k < tl → V 1 k &&& 255 = qi (t k) := fun k hk => by rw [(ht3 k hk).1]; exact (htr k hk).1
  have hb13 : b0 < 2 ∧ R 0 13 = qi b0 := by
    obtain ⟨tw, ct, way, encl, lost, rul, nam⟩ := U
    exact ⟨hUR.1.1, hUR.1.2.1⟩
  obtain ⟨R1, M1, eR, hUS⟩ := z_start (M := M) hb13.1 hb13.2 htl ht2 htr
  rw [eR]
  unfold f_X10_union g_X10_union f_X10_union_3
  have hG00 : (kU G n zn0) 0 0 = some 1 := by rw [kU_ne (by omega)]; exact j3.1.1
  have hV01 : kU V n (fun _ => (0 : Int32)) 0 1 = qi tl := by rw [kU_ne (by omega)]; exact ht1
  rw [hG00, o_bind, hV01]
  obtain ⟨r, er, c, K', N', G', V', L', cc, qq, rfl, ⟨i1, i2, i3, i4⟩, i5, i6, i7, i8, i9, i10, i11, i12⟩ := k_init (t := t) (L := kU L n (fun _ => 0)) (K := kU K n 4) (N := N) (G := kU G n zn0) (V := kU V n (fun _ => 0)) j1 kU_same htl j3.2.2.2.1 (fun k hk => (htr k hk).2) (fun k hk => by rw [kU_ne (by omega)]; exact htc k hk)
  rw [er, o_bind]
  dsimp only
  unfold f_X10_union_15 f_X5_readUnion g_X5_readUnion
  obtain ⟨V3, hV3⟩ : ∃ V3, V3 = z_uI V' 0 1 0 := ⟨_, rfl⟩
  rw [← hV3]
  have v3x : ∀ x, x ≠ 0 → V3 x = V' x := fun x hx => by rw [hV3, z_neP hx]
  have fK : ∀ x, x < n → K' x = K x := fun x hx => by rw [(i5 x hx).1, kU_ne (by omega)]
  have fN : ∀ x, x < n → N' x = N x := fun x hx => (i5 x hx).2.1
  have fG : ∀ x, x < n → G' x = G x := fun x hx => by rw [(i5 x hx).2.2.1, kU_ne (by omega)]
  have fV : ∀ x, x < n → V' x = V x := fun x hx => by rw [(i5 x hx).2.2.2, kU_ne (by omega)]
  have hst : ST n (1 - b0) (c + 1) tl t (edP t tl) (tkP t tl) 0 0 U1 (fun _ => 0) (fun _ => 0) (n + 10) N' G' V3 R1 M1 := by
    refine u_ST j1 (by omega) i6 i7 ?_ (CS_x i9 (v3x n (by omega)) (v3x _ (by omega))) ?_ (fun k => ?_) i12 hUS
    · obtain ⟨t1, t2⟩ := i8
      refine ⟨?_, ?_⟩
      · rw [v3x _ (by omega)]; exact t1
      · rw [v3x _ (by omega), v3x _ (by omega), v3x _ (by omega)]; exact t2
    · rw [v3x _ (by omega)]; exact i10
    · rw [v3x _ (by omega), v3x _ (by omega)]; exact i11 k
  have hTW := TW_P (t := t) htl (fun k hk => (htr k hk).2) i4
  obtain ⟨n2, c2, q2, K2, N2, G2, V2, L2, s, R2, M2, el, er2, hfr, ⟨hRQ, hn2, hc2, hq2, hG25⟩, hout⟩ := u_loop (n0 := n) (b := 1 - b0) (AH_P (c + 1)) (PLC_P (c + 1)) hTW (c + 1) 0 0 0 U1 (fun _ => 0) (fun _ => 0) (n + 10) 0 0 K' N' G' V3 L' R1 M1 FU FU (by omega) (FU_big (by omega)) (FU_big (by omega)) (by omega) (fun _ => by omega) (Nat.le_refl _) (by rw [v3x _ (by omega)]; exact i10.2.2.1) (Nat.zero_le _) (Nat.zero_le _) hst
  have el' : zfix b_X5_readUnion_2 FU (n, 0, n + 10, 0, 0, K', N', G', V3, L') = some (n2, c2, q2, K2, N2, G2, V2, L2) := el
  have er' : zfix b_union_109 FU (0, R1, M1) = f_union_138 (qi s) R2 M2 := er2
  rw [el', o_bind, er']
  dsimp only
  obtain ⟨s1, ⟨s2, s3, s4, s5, s6, s7, s8⟩, s9, s10, ⟨o1, o2, o3, o4, o5, o6⟩, o7, o8⟩ := id hUS
  obtain ⟨p1, p2, p3, p4, p5, p6, ⟨p7, p8, p9⟩, p10, p11, p12⟩ := id hRQ
  have gK : K2 0 = 8 := by rw [(hfr 0 (by omega)).1, fK 0 (by omega)]; exact j2
  have gN : ∀ x, x < n → N2 x = N x := fun x hx => by rw [(hfr x hx).2.1, fN x hx]
  have gG : ∀ x, x < n → G2 x = G x := fun x hx => by rw [(hfr x hx).2.2.1, fG x hx]
  have gV : ∀ x, x < n → V2 x = z_uI V 0 1 (qi 0) x := fun x hx => by
    rw [(hfr x hx).2.2.2, hV3]
    by_cases e : x = 0
    · subst e
      unfold z_uI
      rw [if_pos rfl, if_pos rfl, fV 0 (by omega)]
      rfl
    · rw [z_neP e, z_neP e, fV x hx]
  have gV' : ∀ x, x < n → x ≠ 0 → V2 x = V x := fun x hx h0 => by rw [gV x hx, z_neP h0]
  have r20 : ∀ j, j ≠ 1 → j ≠ 2 → j ≠ 3 → j ≠ 4 → j ≠ 5 → j ≠ 6 → j ≠ 8 → j ≠ 9 → j ≠ 12 → j ≠ 25 → j ≠ 26 → j ≠ 27 → j ≠ 33 → j ≠ 34 → j ≠ 36 → j ≠ 37 → R2 0 j = R 0 j := fun j h1 h2 h3 h4 h5 h6 h8 h9 h12 h25 h26 h27 h33 h34 h36 h37 => by rw [p1 j h3 h4 h5 h6 h8 h9 h12 h25 h27 h33 h34 h36 h37]; exact o1 j h1 h2 h3 h4 h5 h6 h8 h9 h12 h25 h26
  have r21 : R2 0 1 = qi 0 := by rw [p1 1 (by omega) (by omega) (by omega) (by omega) (by omega) (by omega) (by omega) (by omega) (by omega) (by omega) (by omega) (by omega) (by omega)]; exact s4
  have r2w : ∀ w, 19 ≤ w → R2 w = R w := fun w hw => by rw [p9 w hw]; exact o6 w (by omega) (by omega) (by omega) (by omega) (by omega) (by omega) (by omega)
  have m249 : M2 0 49 = M 0 49 := by rw [p10 49 (by omega)]; exact o7 49 (by omega)
  have v201 : V2 0 1 = qi 0 := by rw [gV 0 (by omega), z_same]
  have v20j : ∀ j, j ≠ 1 → V2 0 j = V 0 j := fun j hj => by rw [gV 0 (by omega), z_neK hj]
  rcases hout with ⟨k, cd, U', w, st, hst2, hend, hVs, hs80⟩ | hfl
  · obtain ⟨⟨e1, ⟨e2, e3, -⟩, e4, e5, e6⟩, ⟨C, e7, -⟩, ⟨e8, e9⟩, ⟨-, ⟨e10, e11⟩, -⟩, ⟨e12, -⟩, -, -, e13⟩ := hst2
    have g3 : ∀ x j, x ≠ 0 ∨ j ≠ 2 → gS G2 0 2 (some (n + 1)) x j = G2 x j := fun x j h => by
      by_cases e : x = 0
      · subst e
        exact gS_neK (by omega)
      · rw [gS_neP e]
    have g3x : ∀ x, x ≠ 0 → gS G2 0 2 (some (n + 1)) x = G2 x := fun x h => gS_neP h
    have hstS : ∀ y, y ≠ 0 → y + 7 ≤ n → stS N G y → stS N2 (gS G2 0 2 (some (n + 1))) y := fun y h0 hy hh => by
      unfold stS at hh ⊢
      rw [g3x y h0, gG y (by omega), gN _ (by omega), gN _ (by omega), gN _ (by omega), gN _ (by omega), gN _ (by omega), gN _ (by omega)]
      exact hh
    have hfx : fxS N2 (gS G2 0 2 (some (n + 1))) := by
      obtain ⟨⟨x1, x2, x3, x4, x5, x6, x7, x8, x9, x10, x11⟩, y1, y2, y3⟩ := j3
      refine ⟨⟨?_, ?_, ?_, ?_, ?_, ?_, ?_, ?_, ?_, ?_, ?_⟩, hstS 6 (by omega) (by omega) y1, hstS 13 (by omega) (by omega) y2, ?_⟩
      · rw [g3 0 0 (by omega), gG 0 (by omega)]; exact x1
      · rw [g3 0 5 (by omega), gG 0 (by omega)]; exact x2
      · rw [g3 0 6 (by omega), gG 0 (by omega)]; exact x3
      · rw [g3 0 7 (by omega), gG 0 (by omega)]; exact x4
      · rw [g3 0 8 (by omega), gG 0 (by omega)]; exact x5
      · rw [g3 0 9 (by omega), gG 0 (by omega)]; exact x6
      · rw [g3 0 11 (by omega), gG 0 (by omega)]; exact x7
      · rw [g3 0 12 (by omega), gG 0 (by omega)]; exact x8
      · rw [g3 0 14 (by omega), gG 0 (by omega)]; exact x9
      · rw [g3 0 16 (by omega), gG 0 (by omega)]; exact x10
      · rw [g3 20 0 (by omega), gG 20 (by omega)]; exact x11
      · rw [gN 1 (by omega), gN 21 (by omega), gN 23 (by omega), gN 24 (by omega), gN 25 (by omega), gN 26 (by omega), gN 27 (by omega)]; exact y3
    have hun2 : unS N2 (gS G2 0 2 (some (n + 1))) (n + 1) := by
      unfold unS at e2 ⊢
      rw [g3x (n + 1) (by omega)]
      exact e2
    have hJg2 : Jg n2 K2 N2 (gS G2 0 2 (some (n + 1))) (n + 1) cnt pl := by
      refine ⟨⟨by omega, gK, hfx, gS_same, hun2, by omega, j7⟩, fun i hi => ?_, fun i h1 h2 => ?_, j10, fun i hi => ?_, fun i r p hi hr hp => ?_, fun r p hr hp => ?_⟩
      · obtain ⟨y1, y2, y3, y4⟩ := j8 i hi
        exact ⟨by rw [g3x 23 (by omega), gG 23 (by omega)]; exact y1, hstS _ (by omega) (by omega) y2, y3, by omega⟩
      · rw [g3x 23 (by omega), gG 23 (by omega)]; exact j9 i h1 h2
      · have := (j8 i hi).2.2.2; omega
      · rw [g3x (n + 1) (by omega)] at hp
        have h1 := e6 r p hr hp
        have h2 := (j8 i hi).2.2.2
        omega
      · rw [g3x (n + 1) (by omega)] at hp
        exact e13 r p hr hp
    have hucP : ucP N2 (gS G2 0 2 (some (n + 1))) V2 (n + 1) U' w st := by
      obtain ⟨tw, ct, way, encl, lost, rul, nam⟩ := U'
      unfold ucP at e5 ⊢
      rw [g3x (n + 1) (by omega)]
      exact e5
    refine un_end (f0 := f0) (xs := x) hJg2 hG25 j1 (by omega) e7.2.2.2.1.2.2.1 e10 (by rw [e11]; exact e7.2.2.2.1.2.2.2.symm) hVs hucP e12 e8 e9 (fun r p hr hp => ?_) v201 r21 ?_ ?_ ?_ ⟨hJa.2.1, ?_⟩ (by omega) (by omega)
    · rw [g3x (n + 1) (by omega)] at hp
      have := e6 r p hr hp
      omega
    · rw [gV' 27 (by omega) (by omega), r2w 19 (by omega)]; exact hJr
    · rw [v20j 15 (by omega), gV' 26 (by omega) (by omega), r20 64 (by omega) (by omega) (by omega) (by omega) (by omega) (by omega) (by omega) (by omega) (by omega) (by omega) (by omega) (by omega) (by omega) (by omega) (by omega) (by omega), r2w 35 (by omega)]; exact hJi
    · rw [gV' 22 (by omega) (by omega), m249]; exact hJs
    · rw [r20 47 (by omega) (by omega) (by omega) (by omega) (by omega) (by omega) (by omega) (by omega) (by omega) (by omega) (by omega) (by omega) (by omega) (by omega) (by omega) (by omega)]; exact hJa.2.2.2.2
  · obtain ⟨fk, fpl, fkk, fc, h1, h2, h3⟩ := hfl
    have hUR2 : UR R2 M2 b0 U := by
      obtain ⟨tw, ct, way, encl, lost, rul, nam⟩ := U
      obtain ⟨⟨a0, a1, a2, a3, a4, a5⟩, a6, a7, a8⟩ := hUR
      have htw : tw ≤ 6 := hUB.1.1
      refine ⟨⟨a0, ?_, ?_, ?_, ?_, ?_⟩, ?_, fun k hk => ?_, fun r hr => ⟨fun hl => ?_, fun l hl => ?_⟩⟩
      · rw [r20 13 (by omega) (by omega) (by omega) (by omega) (by omega) (by omega) (by omega) (by omega) (by omega) (by omega) (by omega) (by omega) (by omega) (by omega) (by omega) (by omega)]; exact a1
      · rw [(p2 b0 (by omega)).1, (o2 b0 (by omega)).1]; exact a2
      · rw [(p2 b0 (by omega)).2, (o2 b0 (by omega)).2]; exact a3
      · rw [p4 (2 * b0) (by omega), o3 (2 * b0) (by omega)]; exact a4
      · rw [p4 (2 * b0 + 1) (by omega), o3 (2 * b0 + 1) (by omega)]; exact a5
      · rw [p8, o6 5 (by omega) (by omega) (by omega) (by omega) (by omega) (by omega) (by omega)]; exact a6
      · rw [p11 (6 * b0 + k) (by omega), o8 12 (by omega)]; exact a7 k hk
      · rw [(p5 (3 * b0 + r) (by omega)).1, o5 (3 * b0 + r) (by omega)]; exact (a8 r hr).1 hl
      · obtain ⟨fr, y1, y2, y3, y4⟩ := (a8 r hr).2 l hl
        refine ⟨fr, ?_, ?_, y3, fun j hj => ?_⟩
        · rw [(p5 (3 * b0 + r) (by omega)).1, o5 (3 * b0 + r) (by omega)]; exact y1
        · rw [(p5 (3 * b0 + r) (by omega)).2, o6 9 (by omega) (by omega) (by omega) (by omega) (by omega) (by omega) (by omega)]; exact y2
        · rw [(p6 (1600 * b0 + fr + j) (by omega)).1, (p6 (1600 * b0 + fr + j) (by omega)).2, o6 10 (by omega) (by omega) (by omega) (by omega) (by omega) (by omega) (by omega), o6 11 (by omega) (by omega) (by omega) (by omega) (by omega) (by omega) (by omega)]
          exact y4 j hj
    have hA := JJ_tp0 hJJ
    have hB := JJ_R (R' := R2) (M' := M2) hA hUR2 (fun w hw => by rw [r2w w hw, z_neP (by omega)]) (by rw [p7, o6 1 (by omega) (by omega) (by omega) (by omega) (by omega) (by omega) (by omega), z_neP (by omega)]) (fun j hj => by
      by_cases e : j = 1
      · subst e; rw [r21, z_same]
      · rw [z_neK e]
        exact r20 j e (by omega) (by omega) (by omega) (by omega) (by omega) (by omega) (by omega) (by omega) (by omega) (by omega) (by omega) (by omega) (by omega) (by omega) (by omega)) m249
    have hD := JJ_gr (n' := n2) (K' := K2) (N' := N2) (G' := G2) (V' := V2) hB (by omega) gK gN gG (fun w _ hw => gV w hw)
    exact un_bad hD (by omega) h1.2.2.1.1 h2 h1.2.2.2 (by rw [h3]; exact h1.2.2.1.2.1.symm) (by omega) (by omega)
end
