section
variable {n n' : Nat} {K K' N N' : Nat → Nat} {G G' : zG} {V V' R R' : zI} {L M M' : zL} {u b f0 f0' cnt cnt' acts acts' x x' t : Nat} {pl pl' : Nat → Nat} {U : aU} {A A' : aS} {hi hi' : Nat → aS}
theorem stS_g3 {s : Nat} (h : stS N G s) (hs : s + 7 ≤ n) (h3 : s ≠ 23) (hN : ∀ w, w < n → N' w = N w) (hG : ∀ w, w < n → w ≠ 23 → G' w = G w) : stS N' G' s := by
  unfold stS at h ⊢
  rw [hG s (by omega) h3, hN (s + 1) (by omega), hN (s + 2) (by omega), hN (s + 3) (by omega), hN (s + 4) (by omega), hN (s + 5) (by omega), hN (s + 6) (by omega)]
  exact h
theorem fxS_g3 (h : fxS N G) (hn : 28 ≤ n) (hN : ∀ w, w < n → N' w = N w) (hG : ∀ w, w < n → w ≠ 23 → G' w = G w) : fxS N' G' := by
  obtain ⟨h1, h2, h3, h4⟩ := h
  refine ⟨?_, stS_g3 h2 (by omega) (by omega) hN hG, stS_g3 h3 (by omega) (by omega) hN hG, ?_⟩
  · rw [hG 0 (by omega) (by omega), hG 20 (by omega) (by omega)]; exact h1
  · rw [hN 1 (by omega), hN 21 (by omega), hN 23 (by omega), hN 24 (by omega), hN 25 (by omega), hN 26 (by omega), hN 27 (by omega)]; exact h4
theorem unS_g3 {s : Nat} (h : unS N G s) (hs : s + 4 ≤ n) (hN : ∀ w, w < n → N' w = N w) (hG : ∀ w, w < n → w ≠ 23 → G' w = G w) : unS N' G' s := by
  have h1 := h.1
  unfold unS at h ⊢
  rw [hG s (by omega) (by omega), hN (s + 1) (by omega), hN (s + 2) (by omega), hN (s + 3) (by omega)]
  exact h
theorem UC_g3 (h : UC N G V u U) (hu : u < n) (hu3 : u ≠ 23) (hp : ∀ r p, r < 3 → G u (8 + r) = some p → p < n) (hN : ∀ w, w < n → N' w = N w) (hG : ∀ w, w < n → w ≠ 23 → G' w = G w) : UC N' G' V u U := by
  obtain ⟨tw, ct, way, encl, lost, rul, nam⟩ := U
  obtain ⟨h0, h1, h2, h3⟩ := h
  refine ⟨h0, h1, h2, fun r hr => ?_⟩
  rw [hG u hu hu3]
  refine ⟨(h3 r hr).1, fun l hl => ?_⟩
  obtain ⟨p, q1, q2, q3, q4⟩ := (h3 r hr).2 l hl
  exact ⟨p, q1, q2, by rw [hN p (hp r p hr q1)]; exact q3, q4⟩
theorem JJ_past (h : JJ n K N G V R M u b f0 cnt acts x pl U A hi) (hn : n ≤ n') (hK : K' 0 = 8) (hN : ∀ w, w < n → N' w = N w) (hG : ∀ w, w < n → w ≠ 23 → G' w = G w) (hc : cnt' ≤ 20) (hac : acts' ≤ cnt') (hf : f0' < 20) (hp1 : ∀ i, i < cnt' → G' 23 i = some (pl' i) ∧ ((pl' i = n ∧ n + 7 ≤ n' ∧ stS N' G' n) ∨ ∃ j, j < cnt ∧ pl' i = pl j)) (hp2 : ∀ i, cnt' ≤ i → i < 20 → G' 23 i = none) (hp3 : ∀ i j, i < cnt' → j < cnt' → i ≠ j → pl' i ≠ pl' j) (ht : t = n ∨ ∃ j, j < cnt ∧ t = pl j) (hv : ∀ w, w ≠ 0 → (w < t ∨ t + 7 ≤ w) → w < n → V' w = V w) (hv0 : ∀ j, j ≠ 10 → V' 0 j = V 0 j) (h10 : V' 0 10 = qi acts') (ht2 : SC V' t A) (hh : ∀ i, i < acts' → SB U (hi' i) ∧ ((pl' i = t ∧ hi' i = A) ∨ ∃ j, j < acts ∧ pl' i = pl j ∧ pl j ≠ t ∧ hi' i = hi j)) (hr : ∀ w, w ≠ 0 → (w < 20 ∨ 28 ≤ w) → R' w = R w) (hr0 : ∀ j, j ≠ 47 → j ≠ 48 → R' 0 j = R 0 j) (h47 : R' 0 47 = qi f0') (h48 : R' 0 48 = qi acts') (hS0 : SR R' 0 A) (hsl : ∀ i, i < acts' → SR R' (2 + (f0' + i) % 20) (hi' i)) : JJ n' K' N' G' V' R' M u b f0' cnt' acts' x pl' U A hi' := by
  obtain ⟨h1, h2, h3, h4, h5, h6, h7, h8, h9⟩ := h
  obtain ⟨⟨a1, a2, a3, a4, a5, a6, a7⟩, b1, b2, b3, b4, b5, b6⟩ := h1
  obtain ⟨⟨g1, g2, g3, g4⟩, g5, g6⟩ := h2
  have hac0 : acts ≤ cnt := h9.1
  have hu1 := a5.1
  have t28 : 28 ≤ t := by
    rcases ht with rfl | ⟨j, hj, rfl⟩
    · exact a1
    · exact (b1 j hj).2.2.1
  have hlow : ∀ w, w ≠ 0 → w < 28 → V' w = V w := fun w w0 w28 => hv w w0 (Or.inl (by omega)) (by omega)
  refine ⟨⟨⟨by omega, hK, fxS_g3 a3 a1 hN hG, by rw [hG 0 (by omega) (by omega)]; exact a4, unS_g3 a5 a6 hN hG, by omega, hc⟩, ?_, hp2, ?_, ?_, ?_, ?_⟩, ⟨⟨?_, ?_, ?_, hS0⟩, g5, ?_⟩, ?_, ?_, ?_, ?_, ?_, ?_, hac, hf, h10, h48, h47⟩
  · intro i hi
    obtain ⟨e1, e2⟩ := hp1 i hi
    rcases e2 with ⟨e3, e4, e5⟩ | ⟨j, hj, e3⟩
    · rw [e3] at e1 ⊢
      exact ⟨e1, e5, a1, e4⟩
    · rw [e3] at e1 ⊢
      obtain ⟨k1, k2, k3, k4⟩ := b1 j hj
      exact ⟨e1, stS_g3 k2 k4 (by omega) hN hG, k3, by omega⟩
  · intro i j hi hj hij
    have hne := hp3 i j hi hj hij
    rcases (hp1 i hi).2 with ⟨e3, e4, e5⟩ | ⟨i', hi', e3⟩
    · rcases (hp1 j hj).2 with ⟨c3, -, -⟩ | ⟨j', hj', c3⟩
      · omega
      · have := (b1 j' hj').2.2; omega
    · rcases (hp1 j hj).2 with ⟨c3, -, -⟩ | ⟨j', hj', c3⟩
      · have := (b1 i' hi').2.2; omega
      · have := b3 i' j' hi' hj' (fun e => hne (by rw [e3, c3, e]))
        omega
  · intro i hi
    rcases (hp1 i hi).2 with ⟨e3, e4, e5⟩ | ⟨i', hi', e3⟩
    · omega
    · have := b4 i' hi'; omega
  · intro i r p hi hr hp
    rw [hG u (by omega) (by omega)] at hp
    rcases (hp1 i hi).2 with ⟨e3, e4, e5⟩ | ⟨i', hi', e3⟩
    · have := b6 r p hr hp; omega
    · have := b5 i' r p hi' hr hp; omega
  · intro r p hr hp
    rw [hG u (by omega) (by omega)] at hp
    have := b6 r p hr hp
    omega
  · refine UC_g3 (UC_fr g1 (fun w hw' => ?_)) (by omega) (by omega) b6 hN hG
    have hout : ∀ w, u ≤ w → w < u + 4 → V' w = V w := by
      intro w w1 w2
      refine hv w (by omega) ?_ (by omega)
      rcases ht with rfl | ⟨j, hj, rfl⟩
      · omega
      · have := b4 j hj; omega
    rcases hw' with rfl | rfl | rfl | rfl | ⟨r, hr', hg⟩
    · exact hout _ (by omega) (by omega)
    · exact hout _ (by omega) (by omega)
    · exact hout _ (by omega) (by omega)
    · exact hout _ (by omega) (by omega)
    · have hlt := b6 r w hr' hg
      have h28 : 28 ≤ w := by
        have h3' := g1.2.2.2 r hr'
        cases hl : U.2.2.2.2.2.1 r with
        | none => rw [h3'.1 hl] at hg; cases hg
        | some l =>
          obtain ⟨p, q1, q2, -⟩ := h3'.2 l hl
          rw [q1] at hg
          cases hg
          exact q2
      refine hv w (by omega) ?_ hlt
      rcases ht with rfl | ⟨j, hj, rfl⟩
      · omega
      · exact b5 j r w hj hr' hg
  · exact SC_fr g2 (fun w w1 w2 => hlow w (by omega) (by omega))
  · exact UR_fr g3 (hr0 13 (by omega) (by omega)) (fun w w1 w2 w3 w4 => hr w (by omega) (by omega)) rfl
  · intro i hi
    obtain ⟨k1, k2⟩ := hh i hi
    refine ⟨?_, hsl i hi, k1⟩
    rcases k2 with ⟨e1, e2⟩ | ⟨j, hj, e1, e2, e3⟩
    · rw [e1, e2]; exact ht2
    · rw [e1, e3]
      have hpj := (b1 j (by omega)).2.2
      refine SC_fr (g6 j hj).1 (fun w w1 w2 => hv w (by omega) ?_ (by omega))
      rcases ht with rfl | ⟨k, hk, rfl⟩
      · omega
      · have := b3 j k (by omega) hk (fun e => e2 (by rw [e])); omega
  · rw [hv0 1 (by omega), hlow 1 (by omega) (by omega), hr0 1 (by omega) (by omega), hr 1 (by omega) (by omega)]; exact h3
  · rw [hv0 3 (by omega), hv0 4 (by omega), hr0 10 (by omega) (by omega), hr0 11 (by omega) (by omega)]; exact h4
  · rw [hlow 27 (by omega) (by omega), hr 19 (by omega) (by omega)]; exact h5
  · rw [hv0 13 (by omega), hlow 24 (by omega) (by omega), hlow 25 (by omega) (by omega), hr0 60 (by omega) (by omega), hr 33 (by omega) (by omega), hr 34 (by omega) (by omega)]; exact h6
  · rw [hv0 15 (by omega), hlow 26 (by omega) (by omega), hr0 64 (by omega) (by omega), hr 35 (by omega) (by omega)]; exact h7
  · rw [hlow 22 (by omega) (by omega)]; exact h8
/-- the state alone has changed -/
theorem JJ_state (h : JJ n K N G V R M u b f0 cnt acts x pl U A hi) (hS : SC V' 6 A') (hT : SR R' 0 A') (hB : SB U A') (hv : ∀ w, (w < 6 ∨ 23 ≤ w) → V' w = V w) (hr : RFr 0 R R') (hm : M' 12 = M 12) (hx : Js x' (V' 22 0) (M' 0 49)) : JJ n K N G V' R' M' u b f0 cnt acts x' pl U A' hi := by
  obtain ⟨h1, h2, h3, h4, h5, h6, h7, h8, h9⟩ := h
  have hj := hr.2.1
  have hw := hr.1
  refine ⟨h1, ?_, ?_, ?_, ?_, ?_, ?_, hx, ?_⟩
  · obtain ⟨⟨-, -, -, -, hu, -⟩, hp, -⟩ := h1
    obtain ⟨⟨g1, g2, g3, g4⟩, g5, g6⟩ := h2
    refine ⟨⟨UC_fr2 hu g1 (fun w hw' => hv w (by omega)), hS, RFr_UR hr hm g3, hT⟩, ⟨g5.1, hB⟩, fun i hi' => ?_⟩
    obtain ⟨k1, k2, k3⟩ := g6 i hi'
    have hpi := (hp i (Nat.lt_of_lt_of_le hi' h9.1)).2.2
    exact ⟨SC_fr k1 (fun w w1 w2 => hv w (by omega)), RFr_SR hr (by omega) (SB_k k3).1 (SB_k k3).2 k2, k3⟩
  · rw [hv 0 (by omega), hv 1 (by omega), hj 1 (by omega) (by omega), hw 1 (by omega) (by omega)]; exact h3
  · rw [hv 0 (by omega), hj 10 (by omega) (by omega), hj 11 (by omega) (by omega)]; exact h4
  · rw [hv 27 (by omega), hw 19 (by omega) (by omega)]; exact h5
  · rw [hv 0 (by omega), hv 24 (by omega), hv 25 (by omega), hj 60 (by omega) (by omega), hw 33 (by omega) (by omega), hw 34 (by omega) (by omega)]; exact h6
  · rw [hv 0 (by omega), hv 26 (by omega), hj 64 (by omega) (by omega), hw 35 (by omega) (by omega)]; exact h7
  · rw [hv 0 (by omega), hj 48 (by omega) (by omega), hj 47 (by omega) (by omega)]; exact h9
theorem zi_c {c : Int32} {m : Nat} (hc : c.toNatClampNeg = m) (h0 : ¬ c < 0) (hm : m ≤ 100000) : ¬ c < 0 ∧ c.toNatClampNeg ≤ 100000 := ⟨h0, by omega⟩
set_option maxHeartbeats 4000000 in
theorem cs_newS {s : Nat} (hsn : n = s + 1) : zW (f_X7_init s n K N G V L) (fun r => r.1 = s + 7 ∧ r.2.1 = 6 ∧ r.2.2.1 = 278 ∧ (∀ w, w < s → r.2.2.2.1 w = K w ∧ r.2.2.2.2.1 w = N w ∧ r.2.2.2.2.2.1 w = G w ∧ r.2.2.2.2.2.2.1 w = V w) ∧ stS r.2.2.2.2.1 r.2.2.2.2.2.1 s) := by
  subst hsn
  have t36 : (36 : Int32).toNatClampNeg = 36 := rfl
  have t60 : (60 : Int32).toNatClampNeg = 60 := rfl
  have t50 : (50 : Int32).toNatClampNeg = 50 := rfl
  unfold f_X7_init g_X7_init
  refine zW_if1 (zi_c (m := 36) rfl (by decide) (by omega)) ?_
  unfold f_X7_init_14
  refine zW_if1 (zi_c (m := 36) rfl (by decide) (by omega)) ?_
  unfold f_X7_init_22
  refine zW_if1 (zi_c (m := 36) rfl (by decide) (by omega)) ?_
  unfold f_X7_init_30
  refine zW_if1 (zi_c (m := 60) rfl (by decide) (by omega)) ?_
  unfold f_X7_init_43
  refine zW_if1 (zi_c (m := 60) rfl (by decide) (by omega)) ?_
  unfold f_X7_init_51
  refine zW_if1 (zi_c (m := 50) rfl (by decide) (by omega)) ?_
  unfold f_X7_init_64
  refine zW_some ?_
  dsimp only
  refine ⟨by omega, by omega, by rw [t36, t60, t50], fun w hw => ⟨?_, ?_, ?_, ?_⟩, ⟨?_, ?_, ?_, ?_, ?_, ?_⟩, ?_, ?_, ?_, ?_, ?_, ?_⟩
  · simp (disch := omega) only [kU_ne]
  · simp (disch := omega) only [kU_ne]
  · simp (disch := omega) only [kU_ne, gS_neP]
  · simp (disch := omega) only [kU_ne, z_neP]
  · simp (disch := omega) only [kU_same, kU_ne, gS_same, gS_neP, gS_neK]
  · simp (disch := omega) only [kU_same, kU_ne, gS_same, gS_neP, gS_neK]
  · simp (disch := omega) only [kU_same, kU_ne, gS_same, gS_neP, gS_neK]
  · simp (disch := omega) only [kU_same, kU_ne, gS_same, gS_neP, gS_neK]
  · simp (disch := omega) only [kU_same, kU_ne, gS_same, gS_neP, gS_neK]
  · simp (disch := omega) only [kU_same, kU_ne, gS_same, gS_neP, gS_neK]
  · simp (disch := omega) only [kU_same, kU_ne, t36]
  · simp (disch := omega) only [kU_same, kU_ne, t36]
  · simp (disch := omega) only [kU_same, kU_ne, t36]
  · simp (disch := omega) only [kU_same, kU_ne, t60]
  · simp (disch := omega) only [kU_same, kU_ne, t60]
  · simp (disch := omega) only [kU_same, kU_ne, t50]
theorem cs_r73 {p c q : Nat} (hp : p < 20) (g5 : G 0 5 = some 6) (g9 : G 0 9 = some 23) (n23 : N 23 = 20) (hst : stS N G t) (hs6 : stS N G 6) (h28 : 28 ≤ t) (hS : SC V 6 A) (hA : SB U A) : zW (f_X10_remember_73 0 t (qi p) n c q K N G V L) (fun r => r.1 = n ∧ r.2.1 = c ∧ r.2.2.1 = q ∧ r.2.2.2.1 = K ∧ r.2.2.2.2.1 = N ∧ r.2.2.2.2.2.1 = gS G 23 p (some t) ∧ SC r.2.2.2.2.2.2.1 t A ∧ r.2.2.2.2.2.2.1 0 10 = qi (p + 1) ∧ (∀ j, j ≠ 10 → r.2.2.2.2.2.2.1 0 j = V 0 j) ∧ ∀ w, w ≠ 0 → (w < t ∨ t + 7 ≤ w) → r.2.2.2.2.2.2.1 w = V w) := by
  unfold f_X10_remember_73
  rw [g5, g9]
  simp only [o_bind]
  refine zW_call (cs_copy (L := L) hst hs6 (by omega) hS (SB_k hA).1 (SB_k hA).2) ?_
  rintro ⟨V1, L1⟩ ⟨p1, p2, p3⟩
  dsimp only at p1 p2 p3 ⊢
  simp (disch := omega) only [n23, ↓reduceIte, o_bind, and_true, true_and, and_false, false_and, or_true, true_or, or_false, false_or, not_true, not_false_eq_true, not_false_iff, ne_eq, Nat.reduceAdd, Nat.reduceMul, Nat.reduceSub, Nat.reduceDiv, Nat.reduceMod, Nat.reduceLT, Nat.reduceLeDiff, Nat.reduceEqDiff, Nat.not_lt, Nat.not_le, q_lit, ↓q_m1, q_om, q_on, q_add, q_mul, q_sub, q_div, q_md, q_ltT, q_ltF, q_leT, q_leF, q_eqT, q_eqF, q_inT, q_inF, q_nn, q_mlt, q_ltm, q_mle, q_lem, q_nem, q_mne]
  refine zW_some ?_
  dsimp only
  refine ⟨rfl, rfl, rfl, rfl, rfl, rfl, SC_fr p1 (fun w w1 w2 => z_neP (by omega)), z_same, fun j hj => ?_, fun w w1 w2 => ?_⟩
  · rw [z_neK hj, p2 0 (by omega)]
  · rw [z_neP w1, p2 w w2]
theorem r_keeps (hS : SR R 0 A) (hA : SB U A) (ha : acts ≤ 20) (hf : f0 < 20) (e48 : R 0 48 = qi acts) (e47 : R 0 47 = qi f0) : zW (f_keeps R M) (fun r => r.1 0 47 = qi (if acts = 20 then (f0 + 1) % 20 else f0) ∧ r.1 0 48 = qi ((if acts = 20 then 19 else acts) + 1) ∧ (∀ j, j ≠ 47 → j ≠ 48 → r.1 0 j = R 0 j) ∧ (∀ w, w ≠ 0 → (w < 20 ∨ 28 ≤ w) → r.1 w = R w) ∧ SR r.1 (2 + ((if acts = 20 then (f0 + 1) % 20 else f0) + (if acts = 20 then 19 else acts)) % 20) A ∧ (∀ v B, v < 22 → v ≠ 2 + ((if acts = 20 then (f0 + 1) % 20 else f0) + (if acts = 20 then 19 else acts)) % 20 → SB U B → SR R v B → SR r.1 v B) ∧ r.2 = M) := by
  have fin : ∀ (R1 : zI) (f1 a1 : Nat), f1 < 20 → a1 < 20 → R1 0 48 = qi a1 → R1 0 47 = qi f1 → (∀ w, w ≠ 0 → R1 w = R w) → (∀ j, j ≠ 47 → j ≠ 48 → R1 0 j = R 0 j) → zW (f_keeps_32 R1 M) (fun r => r.1 0 47 = qi f1 ∧ r.1 0 48 = qi (a1 + 1) ∧ (∀ j, j ≠ 47 → j ≠ 48 → r.1 0 j = R 0 j) ∧ (∀ w, w ≠ 0 → (w < 20 ∨ 28 ≤ w) → r.1 w = R w) ∧ SR r.1 (2 + (f1 + a1) % 20) A ∧ (∀ v B, v < 22 → v ≠ 2 + (f1 + a1) % 20 → SB U B → SR R v B → SR r.1 v B) ∧ r.2 = M) := by
    intro R1 f1 a1 hf1 ha1 d48 d47 hw hj
    have hS1 : SR R1 0 A := SR_fr hS (fun w w1 w2 => hw w (by omega))
    unfold f_keeps_32 f_slot
    simp (disch := omega) only [d48, d47, ↓reduceIte, o_bind, and_true, true_and, and_false, false_and, or_true, true_or, or_false, false_or, not_true, not_false_eq_true, not_false_iff, ne_eq, Nat.reduceAdd, Nat.reduceMul, Nat.reduceSub, Nat.reduceDiv, Nat.reduceMod, Nat.reduceLT, Nat.reduceLeDiff, Nat.reduceEqDiff, Nat.not_lt, Nat.not_le, q_lit, ↓q_m1, q_om, q_on, q_add, q_mul, q_sub, q_div, q_md, q_ltT, q_ltF, q_leT, q_leF, q_eqT, q_eqF, q_inT, q_inF, q_nn, q_mlt, q_ltm, q_mle, q_lem, q_nem, q_mne]
    refine zW_call (r_copies (a := 2 + (f1 + a1) % 20) (b := 0) (by omega) (by omega) (by omega) hS1 (SB_k hA).1 (SB_k hA).2) ?_
    rintro ⟨R2, M2⟩ ⟨p1, p2, p3, p4⟩
    dsimp only at p1 p2 p3 p4 ⊢
    have c48 : R2 0 48 = qi a1 := by rw [p3 0 (by omega)]; exact d48
    rw [c48]
    refine zW_some ?_
    dsimp only
    refine ⟨?_, ?_, fun j j1 j2 => ?_, fun w w1 w2 => ?_, SR_fr p1 (fun w w1 w2 => z_neP (by omega)), fun v B hv hne hB hSB => ?_, p4⟩
    · rw [z_neK (by omega), p3 0 (by omega)]; exact d47
    · rw [z_same]; exact q_add a1 1
    · rw [z_neK j2, p3 0 (by omega)]; exact hj j j1 j2
    · rw [z_neP w1, p3 w w2]; exact hw w w1
    · exact SR_fr (RFr_SR p2 hne (SB_k hB).1 (SB_k hB).2 (SR_fr hSB (fun w w1 w2 => hw w (by omega)))) (fun w w1 w2 => z_neP (by omega))
  unfold f_keeps
  by_cases h20 : acts = 20
  · have hfin := fin (z_uI (z_uI R 0 47 (qi ((f0 + 1) % 20))) 0 48 (qi 19)) ((f0 + 1) % 20) 19 (by omega) (by omega) z_same (by rw [z_neK (by omega), z_same]) (fun w w0 => by rw [z_neP w0, z_neP w0]) (fun j j1 j2 => by rw [z_neK j2, z_neK j1])
    subst h20
    simp (disch := omega) only [e48, e47, ↓reduceIte, o_bind, and_true, true_and, and_false, false_and, or_true, true_or, or_false, false_or, not_true, not_false_eq_true, not_false_iff, ne_eq, Nat.reduceAdd, Nat.reduceMul, Nat.reduceSub, Nat.reduceDiv, Nat.reduceMod, Nat.reduceLT, Nat.reduceLeDiff, Nat.reduceEqDiff, Nat.not_lt, Nat.not_le, q_lit, ↓q_m1, q_om, q_on, q_add, q_mul, q_sub, q_div, q_md, q_ltT, q_ltF, q_leT, q_leF, q_eqT, q_eqF, q_inT, q_inF, q_nn, q_mlt, q_ltm, q_mle, q_lem, q_nem, q_mne, z_same, z_neP, z_neK, zL_same, zL_neP, zL_neK, zr_same, zr_ne]
    exact hfin
  · have hfin := fin R f0 acts hf (by omega) e48 e47 (fun _ _ => rfl) (fun _ _ _ => rfl)
    simp (disch := omega) only [e48, h20, ↓reduceIte, o_bind, and_true, true_and, and_false, false_and, or_true, true_or, or_false, false_or, not_true, not_false_eq_true, not_false_iff, ne_eq, Nat.reduceAdd, Nat.reduceMul, Nat.reduceSub, Nat.reduceDiv, Nat.reduceMod, Nat.reduceLT, Nat.reduceLeDiff, Nat.reduceEqDiff, Nat.not_lt, Nat.not_le, q_lit, ↓q_m1, q_om, q_on, q_add, q_mul, q_sub, q_div, q_md, q_ltT, q_ltF, q_leT, q_leF, q_eqT, q_eqF, q_inT, q_inF, q_nn, q_mlt, q_ltm, q_mle, q_lem, q_nem, q_mne, z_same, z_neP, z_neK, zL_same, zL_neP, zL_neK, zr_same, zr_ne]
    exact hfin
set_option maxHeartbeats 4000000 in
theorem x_remember (h : JJ n K N G V R M u b f0 cnt acts x pl U A hi) : zX (f_X10_remember 0 n K N G V L) (f_keeps R M) (fun r r' => (r.2.1 ≤ 7 ∧ r.2.2.1 ≤ 300) ∧ ∃ f0' cnt' acts' pl' hi', JJ r.1 r.2.2.2.1 r.2.2.2.2.1 r.2.2.2.2.2.1 r.2.2.2.2.2.2.1 r'.1 r'.2 u b f0' cnt' acts' x pl' U A hi') := by
  obtain ⟨⟨a1, a2, a3, a4, a5, a6, a7⟩, b1, b2, b3, b4, b5, b6⟩ := id h.1
  obtain ⟨⟨g1, g2, g3, g4⟩, ⟨hU, hA⟩, g6⟩ := id h.2.1
  obtain ⟨c1, c2, c3, c4, c5⟩ := id h.2.2.2.2.2.2.2.2
  have G5 : G 0 5 = some 6 := a3.1.2.1
  have G9 : G 0 9 = some 23 := a3.1.2.2.2.2.2.1
  have N23 : N 23 = 20 := a3.2.2.2.2.2.1
  have hu1 := a5.1
  refine zX_W ?_
  have hrk := r_keeps (M := M) g4 hA (by omega) c2 c4 c5
  unfold f_X10_remember g_X10_remember
  rw [G9]
  simp only [o_bind]
  by_cases h20 : acts = 20
  · have hc20 : cnt = 20 := by omega
    subst h20 hc20
    have e0 := (b1 0 (by omega)).1
    have e19 := (b1 19 (by omega)).1
    simp (disch := omega) only [c3, N23, e19, e0, zopt_s, ↓reduceIte, o_bind, and_true, true_and, and_false, false_and, or_true, true_or, or_false, false_or, not_true, not_false_eq_true, not_false_iff, ne_eq, Nat.reduceAdd, Nat.reduceMul, Nat.reduceSub, Nat.reduceDiv, Nat.reduceMod, Nat.reduceLT, Nat.reduceLeDiff, Nat.reduceEqDiff, Nat.not_lt, Nat.not_le, q_lit, ↓q_m1, q_om, q_on, q_add, q_mul, q_sub, q_div, q_md, q_ltT, q_ltF, q_leT, q_leF, q_eqT, q_eqF, q_inT, q_inF, q_nn, q_mlt, q_ltm, q_mle, q_lem, q_nem, q_mne]
    refine zW_mono (P := fun r => r.1 = n ∧ r.2.1 = 0 ∧ r.2.2.1 = 0 ∧ r.2.2.2.1 = K ∧ r.2.2.2.2.1 = N ∧ (∀ w, w ≠ 23 → r.2.2.2.2.2.1 w = G w) ∧ (∀ i, i < 19 → r.2.2.2.2.2.1 23 i = some (pl (i + 1))) ∧ r.2.2.2.2.2.1 23 19 = some (pl 0) ∧ SC r.2.2.2.2.2.2.1 (pl 0) A ∧ r.2.2.2.2.2.2.1 0 10 = qi 20 ∧ (∀ j, j ≠ 10 → r.2.2.2.2.2.2.1 0 j = V 0 j) ∧ ∀ w, w ≠ 0 → (w < pl 0 ∨ pl 0 + 7 ≤ w) → r.2.2.2.2.2.2.1 w = V w) ?_ ?_
    · refine zW_lp (I := fun r s => ∃ (i : Nat) (G1 : zG), 1 ≤ i ∧ i ≤ 20 ∧ r = 20 - i ∧ s = (0, pl 0, qi 19, qi i, n, 0, 0, K, N, G1, V, L) ∧ (∀ w, w ≠ 23 → G1 w = G w) ∧ (∀ j, j < i - 1 → G1 23 j = some (pl (j + 1))) ∧ (∀ j, i - 1 ≤ j → j < 20 → G1 23 j = some (pl j))) ?_ FU 19 _ ⟨1, G, by omega, by omega, by omega, rfl, fun _ _ => rfl, fun j hj => absurd hj (by omega), fun j _ hj => (b1 j hj).1⟩ (FU_big (by omega))
      rintro k r s ⟨i, G1, i1, i2, rfl, rfl, hw, hlo, hhi⟩ ih
      have G19 : G1 0 9 = some 23 := by rw [hw 0 (by omega)]; exact G9
      by_cases hend : i = 20
      · subst hend
        simp (disch := omega) only [b_X10_remember_35, f_X10_remember_61, ↓reduceIte, o_bind, and_true, true_and, and_false, false_and, or_true, true_or, or_false, false_or, not_true, not_false_eq_true, not_false_iff, ne_eq, Nat.reduceAdd, Nat.reduceMul, Nat.reduceSub, Nat.reduceDiv, Nat.reduceMod, Nat.reduceLT, Nat.reduceLeDiff, Nat.reduceEqDiff, Nat.not_lt, Nat.not_le, q_lit, ↓q_m1, q_om, q_on, q_add, q_mul, q_sub, q_div, q_md, q_ltT, q_ltF, q_leT, q_leF, q_eqT, q_eqF, q_inT, q_inF, q_nn, q_mlt, q_ltm, q_mle, q_lem, q_nem, q_mne]
        obtain ⟨-, k2, k3, k4⟩ := b1 0 (by omega)
        refine zW_mono (cs_r73 (U := U) (p := 19) (by omega) (by rw [hw 0 (by omega)]; exact G5) G19 N23 (stS_g3 (n := pl 0 + 7) k2 (Nat.le_refl _) (by omega) (fun _ _ => rfl) (fun w _ h3 => hw w h3)) (stS_g3 (n := 28) a3.2.1 (by omega) (by omega) (fun _ _ => rfl) (fun w _ h3 => hw w h3)) k3 g2 hA) ?_
        rintro r ⟨q1, q2, q3, q4, q5, q6, q7, q8, q9, q10⟩
        refine ⟨q1, q2, q3, q4, q5, fun w hw3 => ?_, fun j hj => ?_, ?_, q7, q8, q9, q10⟩
        · rw [q6, gS_neP hw3]; exact hw w hw3
        · rw [q6, gS_neK (by omega)]; exact hlo j (by omega)
        · rw [q6, gS_same]
      · have ei := hhi i (by omega) (by omega)
        simp (disch := omega) only [b_X10_remember_35, G19, N23, ei, zopt_s, ↓reduceIte, o_bind, and_true, true_and, and_false, false_and, or_true, true_or, or_false, false_or, not_true, not_false_eq_true, not_false_iff, ne_eq, Nat.reduceAdd, Nat.reduceMul, Nat.reduceSub, Nat.reduceDiv, Nat.reduceMod, Nat.reduceLT, Nat.reduceLeDiff, Nat.reduceEqDiff, Nat.not_lt, Nat.not_le, q_lit, ↓q_m1, q_om, q_on, q_add, q_mul, q_sub, q_div, q_md, q_ltT, q_ltF, q_leT, q_leF, q_eqT, q_eqF, q_inT, q_inF, q_nn, q_mlt, q_ltm, q_mle, q_lem, q_nem, q_mne]
        refine ih (20 - (i + 1)) _ (by omega) ⟨i + 1, _, by omega, by omega, rfl, rfl, fun w hw3 => by rw [gS_neP hw3]; exact hw w hw3, fun j hj => ?_, fun j j1 j2 => ?_⟩
        · by_cases hji : j = i - 1
          · subst hji
            rw [gS_same]
            congr 2
            omega
          · rw [gS_neK hji]; exact hlo j (by omega)
        · rw [gS_neK (by omega)]; exact hhi j (by omega) j2
    · rintro ⟨n1, cc, qq, K1, N1, G1, V1, L1⟩ ⟨q1, q2, q3, q4, q5, q6, q7, q8, q9, q10, q11, q12⟩
      dsimp only at q1 q2 q3 q4 q5 q6 q7 q8 q9 q10 q11 q12 ⊢
      subst q1 q2 q3 q4 q5
      refine zW_mono hrk ?_
      rintro ⟨R1, M1⟩ ⟨p1, p2, p3, p4, p5, p6, p7⟩
      simp only [↓reduceIte] at p1 p2 p3 p4 p5 p6 p7 ⊢
      subst p7
      refine ⟨⟨by omega, by omega⟩, (f0 + 1) % 20, 20, 20, fun i => if i = 19 then pl 0 else pl (i + 1), fun i => if i = 19 then A else hi (i + 1), ?_⟩
      refine JJ_past (t := pl 0) h (Nat.le_refl _) a2 (fun _ _ => rfl) (fun w _ h3 => q6 w h3) (by omega) (by omega) (by omega) ?_ ?_ ?_ (Or.inr ⟨0, by omega, rfl⟩) (fun w w1 w2 _ => q12 w w1 w2) q11 q10 q9 ?_ p4 p3 p1 p2 (p6 0 A (by omega) (by omega) hA g4) ?_
      · intro i hi'
        by_cases h19 : i = 19
        · rw [if_pos h19, h19]; exact ⟨q8, Or.inr ⟨0, by omega, rfl⟩⟩
        · rw [if_neg h19]; exact ⟨q7 i (by omega), Or.inr ⟨i + 1, by omega, rfl⟩⟩
      · intro i i1 i2; omega
      · intro i j i1 j1 hij
        have hd : ∀ a c, a < 20 → c < 20 → a ≠ c → pl a ≠ pl c := fun a c ha hc hac e => by have := b3 a c ha hc hac; omega
        by_cases h19 : i = 19
        · rw [if_pos h19, if_neg (by omega)]; exact hd 0 (j + 1) (by omega) (by omega) (by omega)
        · rw [if_neg h19]
          by_cases j19 : j = 19
          · rw [if_pos j19]; exact hd (i + 1) 0 (by omega) (by omega) (by omega)
          · rw [if_neg j19]; exact hd (i + 1) (j + 1) (by omega) (by omega) (by omega)
      · intro i hi'
        by_cases h19 : i = 19
        · rw [if_pos h19, if_pos h19]; exact ⟨hA, Or.inl ⟨rfl, rfl⟩⟩
        · rw [if_neg h19, if_neg h19]
          refine ⟨(g6 (i + 1) (by omega)).2.2, Or.inr ⟨i + 1, by omega, rfl, fun e => ?_, rfl⟩⟩
          have := b3 (i + 1) 0 (by omega) (by omega) (by omega)
          omega
      · intro i hi'
        by_cases h19 : i = 19
        · rw [if_pos h19, h19]; exact p5
        · rw [if_neg h19]
          have hs := (g6 (i + 1) (by omega)).2
          have es : 2 + ((f0 + 1) % 20 + i) % 20 = 2 + (f0 + (i + 1)) % 20 := by omega
          rw [es]
          exact p6 _ _ (by omega) (by omega) hs.2 hs.1
  · have hlt : acts < 20 := by omega
    simp only [h20, ↓reduceIte] at hrk
    by_cases hcc : acts < cnt
    · obtain ⟨e0, k2, k3, k4⟩ := b1 acts hcc
      simp (disch := omega) only [c3, N23, e0, zopt_s, f_X10_remember_61, ↓reduceIte, o_bind, and_true, true_and, and_false, false_and, or_true, true_or, or_false, false_or, not_true, not_false_eq_true, not_false_iff, ne_eq, Nat.reduceAdd, Nat.reduceMul, Nat.reduceSub, Nat.reduceDiv, Nat.reduceMod, Nat.reduceLT, Nat.reduceLeDiff, Nat.reduceEqDiff, Nat.not_lt, Nat.not_le, q_lit, ↓q_m1, q_om, q_on, q_add, q_mul, q_sub, q_div, q_md, q_ltT, q_ltF, q_leT, q_leF, q_eqT, q_eqF, q_inT, q_inF, q_nn, q_mlt, q_ltm, q_mle, q_lem, q_nem, q_mne]
      refine zW_mono (cs_r73 (U := U) (p := acts) hlt G5 G9 N23 k2 a3.2.1 k3 g2 hA) ?_
      rintro ⟨n1, cc, qq, K1, N1, G1, V1, L1⟩ ⟨q1, q2, q3, q4, q5, q6, q7, q8, q9, q10⟩
      dsimp only at q1 q2 q3 q4 q5 q6 q7 q8 q9 q10 ⊢
      subst q1 q2 q3 q4 q5
      have eG : ∀ w, G1 w = G w := by
        intro w
        rw [q6]
        by_cases hw : w = 23
        · subst hw
          funext j
          by_cases hj : j = acts
          · subst hj; rw [gS_same, e0]
          · rw [gS_neK hj]
        · rw [gS_neP hw]
      refine zW_mono hrk ?_
      rintro ⟨R1, M1⟩ ⟨p1, p2, p3, p4, p5, p6, p7⟩
      dsimp only at p1 p2 p3 p4 p5 p6 p7 ⊢
      subst p7
      refine ⟨⟨by omega, by omega⟩, f0, cnt, acts + 1, pl, fun i => if i = acts then A else hi i, ?_⟩
      refine JJ_past (t := pl acts) h (Nat.le_refl _) a2 (fun _ _ => rfl) (fun w _ _ => eG w) a7 (by omega) c2 ?_ ?_ ?_ (Or.inr ⟨acts, hcc, rfl⟩) (fun w w1 w2 _ => q10 w w1 w2) q9 q8 q7 ?_ p4 p3 p1 p2 (p6 0 A (by omega) (by omega) hA g4) ?_
      · intro i hi'
        rw [eG]
        exact ⟨(b1 i hi').1, Or.inr ⟨i, hi', rfl⟩⟩
      · intro i i1 i2; rw [eG]; exact b2 i i1 i2
      · intro i j i1 j1 hij e
        have := b3 i j i1 j1 hij
        omega
      · intro i hi'
        by_cases hia : i = acts
        · rw [if_pos hia, hia]; exact ⟨hA, Or.inl ⟨rfl, rfl⟩⟩
        · rw [if_neg hia]
          refine ⟨(g6 i (by omega)).2.2, Or.inr ⟨i, by omega, rfl, fun e => ?_, rfl⟩⟩
          have := b3 i acts (by omega) hcc hia
          omega
      · intro i hi'
        by_cases hia : i = acts
        · rw [if_pos hia, hia]; exact p5
        · rw [if_neg hia]
          have hs := (g6 i (by omega)).2
          exact p6 _ _ (by omega) (by omega) hs.2 hs.1
    · have hce : cnt = acts := by omega
      subst hce
      have e0 := b2 cnt (Nat.le_refl _) hlt
      simp (disch := omega) only [c3, N23, e0, zopt_n, f_X10_remember_400061, f_X10_remember_68, f_X10_remember_72, ↓reduceIte, o_bind, and_true, true_and, and_false, false_and, or_true, true_or, or_false, false_or, not_true, not_false_eq_true, not_false_iff, ne_eq, Nat.reduceAdd, Nat.reduceMul, Nat.reduceSub, Nat.reduceDiv, Nat.reduceMod, Nat.reduceLT, Nat.reduceLeDiff, Nat.reduceEqDiff, Nat.not_lt, Nat.not_le, q_lit, ↓q_m1, q_om, q_on, q_add, q_mul, q_sub, q_div, q_md, q_ltT, q_ltF, q_leT, q_leF, q_eqT, q_eqF, q_inT, q_inF, q_nn, q_mlt, q_ltm, q_mle, q_lem, q_nem, q_mne]
      refine zW_call (cs_newS (s := n) rfl) ?_
      rintro ⟨n1, cc, qq, K1, N1, G1, V1, L1⟩ ⟨s1, s2, s3, s4, s5⟩
      dsimp only at s1 s2 s3 s4 s5 ⊢
      subst s1 s2 s3
      have sK : ∀ w, w < n → K1 w = K w := fun w hw => by rw [(s4 w hw).1, kU_ne (by omega)]
      have sN : ∀ w, w < n → N1 w = N w := fun w hw => (s4 w hw).2.1
      have sG : ∀ w, w < n → G1 w = G w := fun w hw => by rw [(s4 w hw).2.2.1, kU_ne (by omega)]
      have sV : ∀ w, w < n → V1 w = V w := fun w hw => by rw [(s4 w hw).2.2.2, kU_ne (by omega)]
      refine zW_mono (cs_r73 (U := U) (p := cnt) hlt (by rw [sG 0 (by omega)]; exact G5) (by rw [sG 0 (by omega)]; exact G9) (by rw [sN 23 (by omega)]; exact N23) s5 (stS_g3 a3.2.1 (by omega) (by omega) sN (fun w hw _ => sG w hw)) a1 (SC_fr g2 (fun w w1 w2 => sV w (by omega))) hA) ?_
      rintro ⟨n2, cc, qq, K2, N2, G2, V2, L2⟩ ⟨q1, q2, q3, q4, q5, q6, q7, q8, q9, q10⟩
      dsimp only at q1 q2 q3 q4 q5 q6 q7 q8 q9 q10 ⊢
      subst q1 q2 q3 q4 q5 q6
      refine zW_mono hrk ?_
      rintro ⟨R1, M1⟩ ⟨p1, p2, p3, p4, p5, p6, p7⟩
      dsimp only at p1 p2 p3 p4 p5 p6 p7 ⊢
      subst p7
      refine ⟨⟨by omega, by omega⟩, f0, cnt + 1, cnt + 1, fun i => if i = cnt then n else pl i, fun i => if i = cnt then A else hi i, ?_⟩
      refine JJ_past (t := n) h (by omega) (by rw [sK 0 (by omega)]; exact a2) sN (fun w hw h3 => by rw [gS_neP h3]; exact sG w hw) (by omega) (by omega) c2 ?_ ?_ ?_ (Or.inl rfl) (fun w w1 w2 w3 => by rw [q10 w w1 w2]; exact sV w w3) (fun j hj => by rw [q9 j hj, sV 0 (by omega)]) q8 q7 ?_ p4 p3 p1 p2 (p6 0 A (by omega) (by omega) hA g4) ?_
      · intro i hi'
        by_cases hia : i = cnt
        · rw [if_pos hia, hia, gS_same]
          exact ⟨rfl, Or.inl ⟨rfl, Nat.le_refl _, stS_g3 (n := n + 7) s5 (Nat.le_refl _) (by omega) (fun _ _ => rfl) (fun w _ h3 => gS_neP h3)⟩⟩
        · rw [if_neg hia, gS_neK hia, sG 23 (by omega)]
          exact ⟨(b1 i (by omega)).1, Or.inr ⟨i, by omega, rfl⟩⟩
      · intro i i1 i2
        rw [gS_neK (by omega), sG 23 (by omega)]
        exact b2 i (by omega) i2
      · intro i j i1 j1 hij
        by_cases hia : i = cnt
        · rw [if_pos hia, if_neg (by omega)]
          have := (b1 j (by omega)).2.2
          omega
        · rw [if_neg hia]
          by_cases hja : j = cnt
          · rw [if_pos hja]
            have := (b1 i (by omega)).2.2
            omega
          · rw [if_neg hja]
            have := b3 i j (by omega) (by omega) hij
            omega
      · intro i hi'
        by_cases hia : i = cnt
        · rw [if_pos hia, if_pos hia]; exact ⟨hA, Or.inl ⟨rfl, rfl⟩⟩
        · rw [if_neg hia, if_neg hia]
          refine ⟨(g6 i (by omega)).2.2, Or.inr ⟨i, by omega, rfl, ?_, rfl⟩⟩
          have := (b1 i (by omega)).2.2
          omega
      · intro i hi'
        by_cases hia : i = cnt
        · rw [if_pos hia, hia]; exact p5
        · rw [if_neg hia]
          have hs := (g6 i (by omega)).2
          exact p6 _ _ (by omega) (by omega) hs.2 hs.1
end
