section
variable {n : Nat} {K N : Nat → Nat} {G : zG} {V R : zI} {L M : zL} {u b f0 cnt acts x : Nat} {pl : Nat → Nat} {U : aU} {A : aS} {hi : Nat → aS} {o q tw : Nat} {md : Option (Nat × Nat)} {can met : Nat → Bool}
theorem q_inP {a n : Nat} (h : a < n) (ha : a < 2147483648) : inB (qi a) n := of_eq_true (q_inT h ha)
theorem d10 (r : Nat) : dgD 1 r 0 = r % 36 := by unfold dgD; rw [show (36 : Nat) ^ (1 - 1 - 0) = 1 from rfl, Nat.div_one]
theorem d20 (r : Nat) : dgD 2 r 0 = r / 36 % 36 := rfl
theorem d21 (r : Nat) : dgD 2 r 1 = r % 36 := by unfold dgD; rw [show (36 : Nat) ^ (2 - 1 - 1) = 1 from rfl, Nat.div_one]
theorem d30 (r : Nat) : dgD 3 r 0 = r / 1296 % 36 := rfl
theorem d31 (r : Nat) : dgD 3 r 1 = r / 36 % 36 := rfl
theorem d32 (r : Nat) : dgD 3 r 2 = r % 36 := by unfold dgD; rw [show (36 : Nat) ^ (3 - 1 - 2) = 1 from rfl, Nat.div_one]
theorem g0 (r : Nat) : dgL 0 r = [] := rfl
theorem g1 (r : Nat) : dgL 1 r = [r % 36] := by rw [← d10]; rfl
theorem g2 (r : Nat) : dgL 2 r = [r / 36 % 36, r % 36] := by rw [← d20, ← d21]; rfl
theorem g3 (r : Nat) : dgL 3 r = [r / 1296 % 36, r / 36 % 36, r % 36] := by rw [← d30, ← d31, ← d32]; rfl
theorem m_cases {m : Nat} (h : m ≤ 3) : m = 0 ∨ m = 1 ∨ m = 2 ∨ m = 3 := by omega
theorem dg_ok {m r : Nat} (hm : m ≤ 3) : (dgG can m r 0) ↔ (incL 0 (dgL m r) ∧ ∀ p ∈ dgL m r, p < 36 ∧ can p = true) := by
  have m36 : ∀ z, z % 36 < 36 := fun z => Nat.mod_lt _ (by omega)
  rcases m_cases hm with rfl | rfl | rfl | rfl
  · rw [g0]
    exact ⟨fun _ => ⟨trivial, fun p hp => (by cases hp)⟩, fun _ j h1 h2 => absurd h2 (by omega)⟩
  · rw [g1]
    constructor
    · intro h
      have h0 := h 0 (by omega) (by omega)
      rw [d10] at h0
      refine ⟨⟨Nat.zero_le _, trivial⟩, fun p hp => ?_⟩
      simp only [List.mem_cons, List.not_mem_nil, or_false] at hp
      rw [hp]
      exact ⟨m36 _, h0.1⟩
    · rintro ⟨-, h⟩ j h1 h2
      obtain rfl : j = 0 := by omega
      rw [d10]
      exact ⟨(h _ (by simp)).2, fun h => absurd h (by omega)⟩
  · rw [g2]
    constructor
    · intro h
      have h0 := h 0 (by omega) (by omega)
      have h1 := h 1 (by omega) (by omega)
      rw [d20, d21] at h0
      rw [d21] at h1
      refine ⟨⟨Nat.zero_le _, h0.2 (by omega), trivial⟩, fun p hp => ?_⟩
      simp only [List.mem_cons, List.not_mem_nil, or_false] at hp
      rcases hp with rfl | rfl
      · exact ⟨m36 _, h0.1⟩
      · exact ⟨m36 _, h1.1⟩
    · rintro ⟨⟨-, h0, -⟩, h⟩ j h1 h2
      rcases (by omega : j = 0 ∨ j = 1) with rfl | rfl
      · rw [d20, d21]
        exact ⟨(h _ (by simp)).2, fun _ => h0⟩
      · rw [d21]
        exact ⟨(h _ (by simp)).2, fun h => absurd h (by omega)⟩
  · rw [g3]
    constructor
    · intro h
      have h0 := h 0 (by omega) (by omega)
      have h1 := h 1 (by omega) (by omega)
      have h2 := h 2 (by omega) (by omega)
      rw [d30, d31] at h0
      rw [d31, d32] at h1
      rw [d32] at h2
      refine ⟨⟨Nat.zero_le _, h0.2 (by omega), h1.2 (by omega), trivial⟩, fun p hp => ?_⟩
      simp only [List.mem_cons, List.not_mem_nil, or_false] at hp
      rcases hp with rfl | rfl | rfl
      · exact ⟨m36 _, h0.1⟩
      · exact ⟨m36 _, h1.1⟩
      · exact ⟨m36 _, h2.1⟩
    · rintro ⟨⟨-, h0, h0', -⟩, h⟩ j h1 h2
      rcases (by omega : j = 0 ∨ j = 1 ∨ j = 2) with rfl | rfl | rfl
      · rw [d30, d31]
        exact ⟨(h _ (by simp)).2, fun _ => h0⟩
      · rw [d31, d32]
        exact ⟨(h _ (by simp)).2, fun _ => h0'⟩
      · rw [d32]
        exact ⟨(h _ (by simp)).2, fun h => absurd h (by omega)⟩
theorem dg_all {m : Nat} {l : List Nat} (hm : m ≤ 3) (hl : l.length = m) (h : ∀ p ∈ l, p < 36) : ∃ r, r < 36 ^ m ∧ l = dgL m r := by
  rcases m_cases hm with rfl | rfl | rfl | rfl
  · exact ⟨0, by decide, List.eq_nil_of_length_eq_zero hl⟩
  · match l, hl with
    | [a], _ =>
      have ha := h a (by simp)
      exact ⟨a, by omega, by rw [g1, Nat.mod_eq_of_lt ha]⟩
  · match l, hl with
    | [a, c], _ =>
      have ha := h a (by simp)
      have hc := h c (by simp)
      refine ⟨36 * a + c, by omega, ?_⟩
      rw [g2, show (36 * a + c) / 36 % 36 = a by omega, show (36 * a + c) % 36 = c by omega]
  · match l, hl with
    | [a, c, d], _ =>
      have ha := h a (by simp)
      have hc := h c (by simp)
      have hd := h d (by simp)
      refine ⟨1296 * a + 36 * c + d, by omega, ?_⟩
      rw [g3, show (1296 * a + 36 * c + d) / 1296 % 36 = a by omega, show (1296 * a + 36 * c + d) / 36 % 36 = c by omega, show (1296 * a + 36 * c + d) % 36 = d by omega]
theorem dg_lx {m r r' : Nat} (hm : m ≤ 3) (hr : r < 36 ^ m) (hr' : r' < 36 ^ m) (h : lxL (dgL m r') (dgL m r)) : r' < r := by
  rcases m_cases hm with rfl | rfl | rfl | rfl
  · rw [g0] at h; exact absurd h (fun h => h)
  · rw [g1, g1] at h
    rcases h with h | ⟨_, h⟩
    · omega
    · exact absurd h (fun h => h)
  · rw [g2, g2] at h
    have e2 : (36 : Nat) ^ 2 = 1296 := rfl
    rcases h with h | ⟨h1, h | ⟨_, h⟩⟩
    · omega
    · omega
    · exact absurd h (fun h => h)
  · rw [g3, g3] at h
    have e3 : (36 : Nat) ^ 3 = 46656 := rfl
    rcases h with h | ⟨h1, h | ⟨h2, h | ⟨_, h⟩⟩⟩
    · omega
    · omega
    · omega
    · exact absurd h (fun h => h)
theorem p36_b {m : Nat} (hm : m ≤ 3) : 36 ^ m ≤ 46656 := Nat.pow_le_pow_right (n := 36) (by decide) hm
set_option maxHeartbeats 4000000 in
theorem r_isByL {m : Nat} (hm3 : m ≤ 3) (hR : UR R M b U) (hS : SR R 0 A) (hU : UB U) (hA : SB U A) (hm : mdR R md) (hg : gR R (opO U A)) : zW (zfix b_isBy_35 FU (qi m, qi (36 ^ m), qi 0, R, M)) (fun r => ((r.1 = qi 1 ∧ ∃ l, okP (canB md U.2.2.1 (opO U A)) (metB U.1 md) m (opO U A) 0 l ∧ (∀ l', okP (canB md U.2.2.1 (opO U A)) (metB U.1 md) m (opO U A) 0 l' → ¬ lxL l' l) ∧ l.length = m ∧ ∀ k, k < m → r.2.1 31 k = qi (l.getD k 0)) ∨ (r.1 = qi 0 ∧ ∀ l, ¬ okP (canB md U.2.2.1 (opO U A)) (metB U.1 md) m (opO U A) 0 l)) ∧ gR r.2.1 (opO U A) ∧ rB R r.2.1 ∧ r.2.2 = M) := by
  have hpb := p36_b hm3
  refine zW_lp (I := fun rr s => ∃ (r : Nat) (R1 : zI), r ≤ 36 ^ m ∧ rr = 36 ^ m - r ∧ s = (qi m, qi (36 ^ m), qi r, R1, M) ∧ (∀ r', r' < r → ¬ okP (canB md U.2.2.1 (opO U A)) (metB U.1 md) m (opO U A) 0 (dgL m r')) ∧ gR R1 (opO U A) ∧ rB R R1) ?_ FU (36 ^ m) _ ⟨0, R, Nat.zero_le _, (Nat.sub_zero _).symm, rfl, fun r' h => absurd h (by omega), hg, fun _ _ _ => rfl⟩ (FU_big (by omega))
  rintro k rr s ⟨r, R1, hr, rfl, rfl, hno, hg1, hw⟩ ih
  by_cases hend : r = 36 ^ m
  · simp (disch := omega) only [b_isBy_35, hend, Nat.le_refl, ↓reduceIte, o_bind, and_true, true_and, and_false, false_and, or_true, true_or, or_false, false_or, not_true, not_false_eq_true, not_false_iff, ne_eq, Nat.reduceAdd, Nat.reduceMul, Nat.reduceSub, Nat.reduceDiv, Nat.reduceMod, Nat.reduceLT, Nat.reduceLeDiff, Nat.reduceEqDiff, Nat.not_lt, Nat.not_le, q_lit, q_leT]
    refine zW_some ⟨Or.inr ⟨rfl, fun l hl => ?_⟩, hg1, hw, rfl⟩
    obtain ⟨h1, -, h3, -⟩ := (okP_iff l _ _ _).mp hl
    obtain ⟨r', hr', e⟩ := dg_all hm3 h1 (fun p hp => (h3 p hp).1)
    rw [e] at hl
    exact hno r' (by omega) hl
  · have hgo : ¬ okP (canB md U.2.2.1 (opO U A)) (metB U.1 md) m (opO U A) 0 (dgL m r) → ∀ R2, gR R2 (opO U A) → rB R R2 → zW (k (qi m, qi (36 ^ m), qi (r + 1), R2, M)) (fun r => ((r.1 = qi 1 ∧ ∃ l, okP (canB md U.2.2.1 (opO U A)) (metB U.1 md) m (opO U A) 0 l ∧ (∀ l', okP (canB md U.2.2.1 (opO U A)) (metB U.1 md) m (opO U A) 0 l' → ¬ lxL l' l) ∧ l.length = m ∧ ∀ k, k < m → r.2.1 31 k = qi (l.getD k 0)) ∨ (r.1 = qi 0 ∧ ∀ l, ¬ okP (canB md U.2.2.1 (opO U A)) (metB U.1 md) m (opO U A) 0 l)) ∧ gR r.2.1 (opO U A) ∧ rB R r.2.1 ∧ r.2.2 = M) := by
      intro hn R2 g2 w2
      refine ih (36 ^ m - (r + 1)) _ (by omega) ⟨r + 1, R2, by omega, rfl, rfl, fun r' hr' => ?_, g2, w2⟩
      by_cases e : r' = r
      · subst e; exact hn
      · exact hno r' (by omega)
    have hR1 := rB_UR hw hR
    have hm1 := rB_md hw hm
    simp (disch := omega) only [b_isBy_35, ↓reduceIte, o_bind, and_true, true_and, and_false, false_and, or_true, true_or, or_false, false_or, not_true, not_false_eq_true, not_false_iff, ne_eq, Nat.reduceAdd, Nat.reduceMul, Nat.reduceSub, Nat.reduceDiv, Nat.reduceMod, Nat.reduceLT, Nat.reduceLeDiff, Nat.reduceEqDiff, Nat.not_lt, Nat.not_le, q_lit, q_leF]
    refine r_51 (md := md) hm3 (by omega) hR1 (rB_SR hw hS) hU hA hm1 (fun hd R2 w2 => ?_) (fun hd R2 w2 hj => ?_)
    · refine hgo (fun hok => hd ?_) R2 (fun k hk => by rw [w2 30 (by omega)]; exact hg1 k hk) (rB_tr hw (fun w _ w31 => w2 w w31))
      obtain ⟨-, h2, h3, -⟩ := (okP_iff _ _ _ _).mp hok
      exact (dg_ok hm3).mpr ⟨h2, h3⟩
    · obtain ⟨hinc, hcan⟩ := (dg_ok hm3).mp hd
      have hw2 : rB R1 R2 := fun w _ w31 => w2 w w31
      have hlen : (dgL m r).length = m := dgL_len
      have hcore := r_145 (R := R2) (M := M) (o := opO U A) (way := U.2.2.1) (l := dgL m r) (ra := qi (36 ^ m)) (r := qi r) (k35 := k) (P := fun r => ((r.1 = qi 1 ∧ ∃ l, okP (canB md U.2.2.1 (opO U A)) (metB U.1 md) m (opO U A) 0 l ∧ (∀ l', okP (canB md U.2.2.1 (opO U A)) (metB U.1 md) m (opO U A) 0 l' → ¬ lxL l' l) ∧ l.length = m ∧ ∀ k, k < m → r.2.1 31 k = qi (l.getD k 0)) ∨ (r.1 = qi 0 ∧ ∀ l, ¬ okP (canB md U.2.2.1 (opO U A)) (metB U.1 md) m (opO U A) 0 l)) ∧ gR r.2.1 (opO U A) ∧ rB R r.2.1 ∧ r.2.2 = M) (rB_UR hw2 hR1) hU (rB_md hw2 hm1) (by rw [hlen]; exact hm3) hinc hcan (fun k hk => by rw [hlen] at hk; rw [dgL_get hk]; exact hj k hk) (fun k hk => by rw [w2 30 (by omega)]; exact hg1 k hk) ?_
      · rw [hlen] at hcore
        exact hcore
      · intro R3 g3 w3
        have hw3 : rB R R3 := rB_tr hw (rB_tr hw2 (fun w w30 _ => w3 w w30))
        cases hmt : metB U.1 md (flp (opO U A) (dgL m r)) with
        | false =>
          rw [if_pos (show qi false.toNat = qi 0 from rfl), hlen]
          have e : qi r + qi 1 = qi (r + 1) := q_add r 1
          rw [e]
          refine hgo (fun hok => ?_) R3 g3 hw3
          have := ((okP_iff _ _ _ _).mp hok).2.2.2
          rw [hmt] at this
          cases this
        | true =>
          rw [if_neg (show ¬ qi true.toNat = qi 0 from fun h => by have := (q_eq (a := 1) (b := 0) (by omega) (by omega)).mp h; omega)]
          refine zW_some ⟨Or.inl ⟨rfl, dgL m r, (okP_iff _ _ _ _).mpr ⟨hlen, hinc, hcan, hmt⟩, fun l' hl' hlx => ?_, hlen, fun k hk => ?_⟩, g3, hw3, rfl⟩
          · obtain ⟨h1, -, h3, -⟩ := (okP_iff l' _ _ _).mp hl'
            obtain ⟨r', hr', e⟩ := dg_all hm3 h1 (fun p hp => (h3 p hp).1)
            rw [e] at hl' hlx
            exact hno r' (dg_lx hm3 (by omega) hr' hlx) hl'
          · rw [dgL_get hk]
            show R3 31 k = _
            rw [w3 31 (by omega)]
            exact hj k hk
theorem r_isBy {m : Nat} (hm3 : m ≤ 3) (hR : UR R M b U) (hS : SR R 0 A) (hU : UB U) (hA : SB U A) (hm : mdR R md) (hg : gR R (opO U A)) : zW (f_isBy (qi m) R M) (fun r => ((r.1 = qi 1 ∧ ∃ l, okP (canB md U.2.2.1 (opO U A)) (metB U.1 md) m (opO U A) 0 l ∧ (∀ l', okP (canB md U.2.2.1 (opO U A)) (metB U.1 md) m (opO U A) 0 l' → ¬ lxL l' l) ∧ l.length = m ∧ ∀ k, k < m → r.2.1 31 k = qi (l.getD k 0)) ∨ (r.1 = qi 0 ∧ ∀ l, ¬ okP (canB md U.2.2.1 (opO U A)) (metB U.1 md) m (opO U A) 0 l)) ∧ gR r.2.1 (opO U A) ∧ rB R r.2.1 ∧ r.2.2 = M) := by
  have h := r_isByL (m := m) hm3 hR hS hU hA hm hg
  unfold f_isBy f_isBy_32
  rcases m_cases hm3 with rfl | rfl | rfl | rfl
  · simp (disch := omega) only [↓reduceIte, o_bind, and_true, true_and, and_false, false_and, or_true, true_or, or_false, false_or, not_true, not_false_eq_true, not_false_iff, ne_eq, Nat.reduceAdd, Nat.reduceMul, Nat.reduceSub, Nat.reduceDiv, Nat.reduceMod, Nat.reduceLT, Nat.reduceLeDiff, Nat.reduceEqDiff, Nat.not_lt, Nat.not_le, q_lit, q_eqT, q_eqF]
    exact h
  · simp (disch := omega) only [↓reduceIte, o_bind, and_true, true_and, and_false, false_and, or_true, true_or, or_false, false_or, not_true, not_false_eq_true, not_false_iff, ne_eq, Nat.reduceAdd, Nat.reduceMul, Nat.reduceSub, Nat.reduceDiv, Nat.reduceMod, Nat.reduceLT, Nat.reduceLeDiff, Nat.reduceEqDiff, Nat.not_lt, Nat.not_le, q_lit, q_eqT, q_eqF]
    exact h
  · simp (disch := omega) only [↓reduceIte, o_bind, and_true, true_and, and_false, false_and, or_true, true_or, or_false, false_or, not_true, not_false_eq_true, not_false_iff, ne_eq, Nat.reduceAdd, Nat.reduceMul, Nat.reduceSub, Nat.reduceDiv, Nat.reduceMod, Nat.reduceLT, Nat.reduceLeDiff, Nat.reduceEqDiff, Nat.not_lt, Nat.not_le, q_lit, q_eqT, q_eqF]
    exact h
  · simp (disch := omega) only [↓reduceIte, o_bind, and_true, true_and, and_false, false_and, or_true, true_or, or_false, false_or, not_true, not_false_eq_true, not_false_iff, ne_eq, Nat.reduceAdd, Nat.reduceMul, Nat.reduceSub, Nat.reduceDiv, Nat.reduceMod, Nat.reduceLT, Nat.reduceLeDiff, Nat.reduceEqDiff, Nat.not_lt, Nat.not_le, q_lit, q_eqT, q_eqF]
    exact h
set_option maxHeartbeats 4000000 in
theorem r_fewest {k : Int32} (hR : UR R M b U) (hS : SR R 0 A) (hU : UB U) (hA : SB U A) (hm : mdR R md) : zW (f_fewest k R M) (fun r => (∃ ans, fwT (canB md U.2.2.1 (opO U A)) (metB U.1 md) (opO U A) ans ∧ r.1 = tlA k ans) ∧ rB R r.2.1 ∧ r.2.2 = M) := by
  unfold f_fewest
  refine zW_call (r_asHeld hR hS hU hA) ?_
  rintro ⟨R0, M0⟩ ⟨a1, a2, a3⟩
  dsimp only at a1 a2 a3 ⊢
  subst a3
  have hw0 : rB R R0 := fun w w30 _ => a2 w w30
  refine zW_lp (I := fun rr s => ∃ (j : Nat) (R1 : zI), j ≤ 4 ∧ rr = 4 - j ∧ s = (k, qi j, R1, M0) ∧ (∀ i, i < j → ∀ l, ¬ okP (canB md U.2.2.1 (opO U A)) (metB U.1 md) i (opO U A) 0 l) ∧ gR R1 (opO U A) ∧ rB R R1) ?_ FU 4 _ ⟨0, R0, by omega, by omega, rfl, fun i hi => absurd hi (by omega), a1, hw0⟩ (FU_big (by omega))
  rintro kk rr s ⟨j, R1, hj, rfl, rfl, hno, hg, hw⟩ ih
  by_cases hend : j = 4
  · subst hend
    simp (disch := omega) only [b_fewest_6, ↓reduceIte, o_bind, and_true, true_and, and_false, false_and, or_true, true_or, or_false, false_or, not_true, not_false_eq_true, not_false_iff, ne_eq, Nat.reduceAdd, Nat.reduceMul, Nat.reduceSub, Nat.reduceDiv, Nat.reduceMod, Nat.reduceLT, Nat.reduceLeDiff, Nat.reduceEqDiff, Nat.not_lt, Nat.not_le, q_lit, ↓q_m1, q_om, q_on, q_add, q_mul, q_sub, q_div, q_md, q_ltT, q_ltF, q_leT, q_leF, q_eqT, q_eqF, q_inT, q_inF, q_nn, q_mlt, q_ltm, q_mle, q_lem, q_nem, q_mne]
    exact zW_some ⟨⟨none, fun i hi l => hno i (by omega) l, rfl⟩, hw, rfl⟩
  · simp (disch := omega) only [b_fewest_6, ↓reduceIte, o_bind, and_true, true_and, and_false, false_and, or_true, true_or, or_false, false_or, not_true, not_false_eq_true, not_false_iff, ne_eq, Nat.reduceAdd, Nat.reduceMul, Nat.reduceSub, Nat.reduceDiv, Nat.reduceMod, Nat.reduceLT, Nat.reduceLeDiff, Nat.reduceEqDiff, Nat.not_lt, Nat.not_le, q_lit, ↓q_m1, q_om, q_on, q_add, q_mul, q_sub, q_div, q_md, q_ltT, q_ltF, q_leT, q_leF, q_eqT, q_eqF, q_inT, q_inF, q_nn, q_mlt, q_ltm, q_mle, q_lem, q_nem, q_mne]
    refine zW_call (r_isBy (m := j) (by omega) (rB_UR hw hR) (rB_SR hw hS) hU hA (rB_md hw hm) hg) ?_
    rintro ⟨y, R2, M2⟩ ⟨p1, p2, p3, p4⟩
    dsimp only at p1 p2 p3 p4 ⊢
    subst p4
    have hw2 := rB_tr hw p3
    rcases p1 with ⟨hy, l, q1, q2, q3, q4⟩ | ⟨hy, q1⟩
    · have hT : fwT (canB md U.2.2.1 (opO U A)) (metB U.1 md) (opO U A) (some l) := by
        subst q3
        exact ⟨by omega, q1, q2, hno⟩
      refine zW_if0 (show ¬ y = qi 0 from fun h => by rw [hy] at h; have := (q_eq (a := 1) (b := 0) (by omega) (by omega)).mp h; omega) ?_
      subst q3
      rcases q_cases k with hk | ⟨i, hi, rfl⟩
      · by_cases hkm : k = qm
        · refine zW_if1 hkm ?_
          exact zW_some ⟨⟨some l, hT, by unfold tlA; dsimp only; rw [if_pos hkm]⟩, hw2, rfl⟩
        · refine zW_if0 hkm ?_
          have e : f_is k (qi 0) (qi l.length - qi 1) = some (qi 0) := by
            unfold f_is
            rw [if_pos hk]; rfl
          refine zW_is e ?_
          refine zW_if1 rfl ?_
          exact zW_some ⟨⟨some l, hT, by unfold tlA; dsimp only; rw [if_neg hkm, if_pos hk]⟩, hw2, rfl⟩
      · have hkm : ¬ qi i = qm := q_nem (by omega)
        have hk0 : ¬ qi i < qi 0 := fun h => by have := (q_lt (by omega) (by omega)).mp h; omega
        refine zW_if0 hkm ?_
        by_cases hil : i < l.length
        · have e := q4 i hil
          have ef : f_is (qi i) (qi 0) (qi l.length - qi 1) = some (qi 1) := by
            unfold f_is
            rw [if_neg hk0, q_sub (by omega), if_neg (fun h => by have := (q_lt (by omega) (by omega)).mp h; omega)]; rfl
          refine zW_is ef ?_
          refine zW_if0 (show ¬ qi 1 = qi 0 from fun h => by have := (q_eq (a := 1) (b := 0) (by omega) (by omega)).mp h; omega) ?_
          refine zW_if1 (q_inP (by omega) (by omega)) ?_
          refine zW_some ⟨⟨some l, hT, ?_⟩, hw2, rfl⟩
          unfold tlA
          dsimp only
          rw [if_neg hkm, if_neg hk0, if_neg (fun h => by have := (q_le (by omega) (by omega)).mp h; omega), q_nn (by omega)]
          exact e
        · have hfin : zW (some (qm, R2, M2)) (fun r => (∃ ans, fwT (canB md U.2.2.1 (opO U A)) (metB U.1 md) (opO U A) ans ∧ r.1 = tlA (qi i) ans) ∧ rB R r.2.1 ∧ r.2.2 = M2) := by
            refine zW_some ⟨⟨some l, hT, ?_⟩, hw2, rfl⟩
            unfold tlA
            dsimp only
            rw [if_neg hkm, if_neg hk0, if_pos ((q_le (by omega) (by omega)).mpr (by omega))]
          have e : f_is (qi i) (qi 0) (qi l.length - qi 1) = some (qi 0) := by
            unfold f_is
            rw [if_neg hk0]
            by_cases hl0 : l.length = 0
            · rw [hl0, show qi 0 - qi 1 = qm from rfl, if_pos (q_mlt (by omega))]; rfl
            · rw [q_sub (by omega), if_pos ((q_lt (by omega) (by omega)).mpr (by omega))]; rfl
          refine zW_is e ?_
          exact zW_if1 rfl hfin
    · refine zW_if1 hy ?_
      refine ih (4 - (j + 1)) _ (by omega) ⟨j + 1, R2, by omega, rfl, rfl, fun i hi l => ?_, p2, hw2⟩
      by_cases hij : i = j
      · subst hij; exact q1 l
      · exact hno i (by omega) l
theorem cR_few {R' : zI} (h : ∀ w, w ≠ 0 → w ≠ 30 → w ≠ 31 → R' w = R w) (h0 : ∀ j, j ≠ 57 → j ≠ 58 → R' 0 j = R 0 j) : cR R R' := ⟨fun j a => h0 j (by omega) (by omega), fun w a => h w (by omega) (by omega) (by omega), fun v A a1 a2 a3 a4 a5 => SR_fr a5 (fun w b1 b2 => h w (by omega) (by omega) (by omega))⟩
theorem fw_len {ans : Option (List Nat)} (h : fwT can met o ans) : ∀ l, ans = some l → l.length ≤ 3 := by
  intro l e
  rw [e] at h
  exact h.1
theorem cs_tell2 {k : Int32} {ans : Option (List Nat)} (hf : fwS N G q) (hl : ∀ l, ans = some l → l.length ≤ 3) (h : ansC V q ans) : f_X2_tell N G q k V L = some (tlA k ans) := by
  match ans, hl, h with
  | none, hl, h => exact cs_tell (ans := none) hf hl h
  | some l, hl, h => exact cs_tell (ans := some l) hf hl h
theorem m_wide {a1 : Int32} (h : JP n K N G V R M) : zX (f_X10_wide 0 a1 n K N G V L) (f_wide a1 R M) (fun r r' => r.1 = r'.1 ∧ JQ r.2 r'.2.1 r'.2.2) := by
  obtain ⟨u, b, f0, cnt, acts, x, pl, U, A, hi, h⟩ := h
  obtain ⟨⟨hn, hK, hx, g2', hu, hun, -⟩, -, -, -, -, -, b6⟩ := id h.1
  obtain ⟨⟨g1, gs, gr, gt⟩, ⟨hU, hA⟩, -⟩ := id h.2.1
  have hu1 := hu.1
  unfold f_X10_wide g_X10_wide f_X10_wide_3 f_wide
  refine zX_callL (cs_newF (s := n) rfl) ?_
  rintro ⟨n1, cc, qq, K1, N1, G1, V1, L1⟩ ⟨s1, s2, s3, s4, s5, s6, s7, s8⟩
  dsimp only at s1 s2 s3 s4 s5 s6 s7 s8 ⊢
  subst s1 s2 s3
  have sK : ∀ w, w < n → K1 w = K w := fun w hw => by rw [(s4 w hw).1, kU_ne (by omega)]
  have sN : ∀ w, w < n → N1 w = N w := fun w hw => (s4 w hw).2.1
  have sG : ∀ w, w < n → G1 w = G w := fun w hw => by rw [(s4 w hw).2.2.1, kU_ne (by omega)]
  have sV : ∀ w, w < n → V1 w = V w := fun w hw => by rw [(s4 w hw).2.2.2, kU_ne (by omega)]
  have h1 := JJ_gr (n' := n + 3) (K' := K1) (N' := N1) (G' := G1) (V' := V1) h (by omega) (by rw [sK 0 (by omega)]; exact hK) sN sG (fun w _ hw => sV w hw)
  obtain ⟨⟨-, -, hx1, g21, hu2, -⟩, -⟩ := id h1.1
  obtain ⟨⟨k1, k2, -, -⟩, -⟩ := id h1.2.1
  have e5 : G1 0 5 = some 6 := hx1.1.2.1
  unfold f_X10_wide_7
  rw [g21, e5]
  simp only [o_bind]
  rw [cs_open (L := L1) hx1 hu2 k1 k2 hU hA, o_bind]
  refine zX_callL (cs_seekW (L := L1) s5 (by omega) hu2 k1 hU opO_b s6 s7) ?_
  rintro ⟨V2, L2⟩ ⟨⟨ans, t1, t2⟩, t3⟩
  dsimp only at t1 t2 t3 ⊢
  rw [cs_tell2 (L := L2) s5 (fw_len t1) t2, o_bind]
  have hR0 : UR (z_uI R 0 57 (-1)) M b U := UR_fr gr (z_neK (by omega)) (fun w w1 w2 w3 w4 => z_neP (by omega)) rfl
  have hS0 : SR (z_uI R 0 57 (-1)) 0 A := SR_fr gt (fun w w1 w2 => z_neP (by omega))
  refine zX_callR (r_fewest (md := none) (k := a1) hR0 hS0 hU hA z_same) ?_
  rintro ⟨y, R1, M1⟩ ⟨⟨ans', p1, p2⟩, p3, p4⟩
  dsimp only at p1 p2 p3 p4 ⊢
  have ea := fwT_one t1 p1
  refine zX_some ?_
  dsimp only
  refine ⟨by rw [p2, ea], JQ_mk (by omega) (by omega) ⟨u, b, f0, cnt, acts, x, pl, U, A, hi, ?_⟩⟩
  rw [p4]
  have h2 := JJ_gr (n' := n + 3) (K' := K1) (N' := N1) (G' := G1) (V' := V2) h (by omega) (by rw [sK 0 (by omega)]; exact hK) sN sG (fun w _ hw => by rw [t3 w (by omega) (by omega) (by omega)]; exact sV w hw)
  exact JJ_core h2 (fun _ _ _ => rfl) (cR_few (fun w w0 w1 w2 => by rw [p3 w w1 w2, z_neP w0]) (fun j j1 j2 => by rw [p3 0 (by omega) (by omega), z_neK j1])) ⟨rfl, rfl⟩
theorem m_cut {a1 a2 a3 : Int32} (h : JP n K N G V R M) : zX (f_X10_cut 0 a1 a2 a3 n K N G V L) (f_cut a1 a2 a3 R M) (fun r r' => r.1 = r'.1 ∧ JQ r.2 r'.2.1 r'.2.2) := by
  obtain ⟨u, b, f0, cnt, acts, x, pl, U, A, hi, h⟩ := h
  obtain ⟨⟨hn, hK, hx, g2', hu, hun, -⟩, -, -, -, -, -, b6⟩ := id h.1
  obtain ⟨⟨g1, gs, gr, gt⟩, ⟨hU, hA⟩, -⟩ := id h.2.1
  have hu1 := hu.1
  have htw := UB_tw hU
  unfold f_X10_cut g_X10_cut f_cut
  rw [g2', o_bind]
  rcases x_isPair (L := L) g1 gr hU a1 a2 with ⟨e1, e2⟩ | ⟨a, c, rfl, rfl, ha, hc, hac, e1, e2⟩
  · rw [e1, e2]
    simp (disch := omega) only [↓reduceIte, o_bind, and_true, true_and, and_false, false_and, or_true, true_or, or_false, false_or, not_true, not_false_eq_true, not_false_iff, ne_eq, Nat.reduceAdd, Nat.reduceMul, Nat.reduceSub, Nat.reduceDiv, Nat.reduceMod, Nat.reduceLT, Nat.reduceLeDiff, Nat.reduceEqDiff, Nat.not_lt, Nat.not_le, Nat.add_zero, Nat.zero_add, Nat.mul_zero, Nat.zero_mul, q_lit, ↓q_m1, q_om, q_on, q_add, q_mul, q_sub, q_div, q_md, q_ltT, q_ltF, q_leT, q_leF, q_eqT, q_eqF, q_inT, q_inF, q_nn, q_mlt, q_ltm, q_mle, q_lem, q_nem, q_mne]
    refine zX_some ?_
    dsimp only
    exact ⟨rfl, JQ_mk (by omega) (by omega) ⟨u, b, f0, cnt, acts, x, pl, U, A, hi, h⟩⟩
  rw [e1, e2, o_bind, o_bind, if_neg (show ¬ qi 1 = 0 from fun h => by have := (q_eq (a := 1) (b := 0) (by omega) (by omega)).mp h; omega), if_neg (show ¬ qi 1 = 0 from fun h => by have := (q_eq (a := 1) (b := 0) (by omega) (by omega)).mp h; omega)]
  unfold f_X10_cut_17
  refine zX_callL (cs_newF (s := n) rfl) ?_
  rintro ⟨n1, cc, qq, K1, N1, G1, V1, L1⟩ ⟨s1, s2, s3, s4, s5, s6, s7, s8⟩
  dsimp only at s1 s2 s3 s4 s5 s6 s7 s8 ⊢
  subst s1 s2 s3
  have sK : ∀ w, w < n → K1 w = K w := fun w hw => by rw [(s4 w hw).1, kU_ne (by omega)]
  have sN : ∀ w, w < n → N1 w = N w := fun w hw => (s4 w hw).2.1
  have sG : ∀ w, w < n → G1 w = G w := fun w hw => by rw [(s4 w hw).2.2.1, kU_ne (by omega)]
  have sV : ∀ w, w < n → V1 w = V w := fun w hw => by rw [(s4 w hw).2.2.2, kU_ne (by omega)]
  have h1 := JJ_gr (n' := n + 3) (K' := K1) (N' := N1) (G' := G1) (V' := V1) h (by omega) (by rw [sK 0 (by omega)]; exact hK) sN sG (fun w _ hw => sV w hw)
  obtain ⟨⟨-, -, hx1, g21, hu2, -⟩, -⟩ := id h1.1
  obtain ⟨⟨k1, k2, -, -⟩, -⟩ := id h1.2.1
  have e5 : G1 0 5 = some 6 := hx1.1.2.1
  unfold f_X10_cut_21
  rw [g21, e5]
  simp only [o_bind]
  rw [cs_open (L := L1) hx1 hu2 k1 k2 hU hA, o_bind]
  refine zX_callL (cs_seekC (L := L1) (way := U.2.2.1) (tw := U.1) (f := a) (g := c) s5 opO_b s6 s7 s8 (by omega)) ?_
  rintro ⟨V2, L2⟩ ⟨⟨ans, t1, t2⟩, t3⟩
  dsimp only at t1 t2 t3 ⊢
  rw [cs_tell2 (L := L2) s5 (fw_len t1) t2, o_bind]
  have hR0 : UR (z_uI (z_uI R 0 57 (qi a)) 0 58 (qi c)) M b U := UR_fr gr (by rw [z_neK (by omega), z_neK (by omega)]) (fun w w1 w2 w3 w4 => by rw [z_neP (by omega), z_neP (by omega)]) rfl
  have hS0 : SR (z_uI (z_uI R 0 57 (qi a)) 0 58 (qi c)) 0 A := SR_fr gt (fun w w1 w2 => by rw [z_neP (by omega), z_neP (by omega)])
  have hmd : mdR (z_uI (z_uI R 0 57 (qi a)) 0 58 (qi c)) (some (a, c)) := ⟨by rw [z_neK (by omega), z_same], z_same, by omega, by omega⟩
  refine zX_callR (r_fewest (md := some (a, c)) (k := a3) hR0 hS0 hU hA hmd) ?_
  rintro ⟨y, R1, M1⟩ ⟨⟨ans', p1, p2⟩, p3, p4⟩
  dsimp only at p1 p2 p3 p4 ⊢
  have ea := fwT_one t1 p1
  refine zX_some ?_
  dsimp only
  refine ⟨by rw [p2, ea], JQ_mk (by omega) (by omega) ⟨u, b, f0, cnt, acts, x, pl, U, A, hi, ?_⟩⟩
  rw [p4]
  have h2 := JJ_gr (n' := n + 3) (K' := K1) (N' := N1) (G' := G1) (V' := V2) h (by omega) (by rw [sK 0 (by omega)]; exact hK) sN sG (fun w _ hw => by rw [t3 w (by omega) (by omega) (by omega)]; exact sV w hw)
  exact JJ_core h2 (fun _ _ _ => rfl) (cR_few (fun w w0 w1 w2 => by rw [z_neP w0, p3 w w1 w2, z_neP w0, z_neP w0]) (fun j j1 j2 => by rw [z_neK j1, p3 0 (by omega) (by omega), z_neK j2, z_neK j1])) ⟨rfl, rfl⟩
end
