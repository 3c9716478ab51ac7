section
variable {n : Nat} {K N : Nat → Nat} {G : zG} {V R : zI} {L M : zL} {u b f0 cnt acts x : Nat} {pl : Nat → Nat} {U : aU} {A : aS} {hi : Nat → aS} {o c t q : Nat} {s : Nat → Nat}
set_option maxHeartbeats 8000000 in
theorem cs_sring (ho : o < 68719476736) (hc : c < 6) (hq : q < n) (hN : N q = 6) : zW (f_X6_shortestRing q (qI o) (qi c) n K N G V L) (fun r => ∃ (s : Nat → Nat) (m : Nat), stP o c 5 0 s ∧ nrP o c s m ∧ ((6 ≤ m ∧ r.1 = qi 0) ∨ (m < 6 ∧ r.1 = qi (1 + m) ∧ ∃ row, grP o c s (1 + m) row (1 + m) ∧ ∀ i, i < 1 + m → r.2.2.2.2.2.2.2.1 q i = qi (row i))) ∧ r.2.1 = n + 1 ∧ r.2.2.1 = 1 ∧ r.2.2.2.1 = 6 ∧ r.2.2.2.2.1 = kU K n 100 ∧ r.2.2.2.2.2.1 = kU N n 6 ∧ r.2.2.2.2.2.2.1 = kU G n zn0 ∧ ∀ w, w < n → w ≠ q → r.2.2.2.2.2.2.2.1 w = V w) := by
  unfold f_X6_shortestRing g_X6_shortestRing
  refine zW_call (cs_steps (K := K) (N := N) (G := G) (V := V) (L := L) ho hc) ?_
  rintro ⟨y, n1, cc, qq, K1, N1, G1, V1, L1⟩ ⟨p1, ⟨s, p2, p3⟩, p4, p5, p6, p7, p8, p9, p10⟩
  dsimp only at p1 p2 p3 p4 p5 p6 p7 p8 p9 p10 ⊢
  subst p1 p4 p5 p6 p7 p8 p9
  have hN1 : kU N y 6 y = 6 := kU_same
  have hN2 : kU N y 6 q = 6 := by rw [kU_ne (by omega)]; exact hN
  unfold f_X6_shortestRing_5
  refine zW_call (cs_near (N := kU N y 6) (G := kU G y zn0) (L := L1) hN1 p2 ho hc) ?_
  rintro z ⟨m, rfl, hm⟩
  have hmb := hm.1
  by_cases h6 : 6 ≤ m
  · simp (disch := omega) only [↓reduceIte, o_bind, and_true, true_and, and_false, false_and, or_true, true_or, or_false, false_or, not_true, not_false_eq_true, not_false_iff, ne_eq, Nat.reduceAdd, Nat.reduceMul, Nat.reduceSub, Nat.reduceDiv, Nat.reduceMod, Nat.reduceLT, Nat.reduceLeDiff, Nat.reduceEqDiff, Nat.not_lt, Nat.not_le, q_lit, q_add, q_ltT]
    exact zW_some ⟨s, m, p3, hm, Or.inl ⟨h6, rfl⟩, rfl, rfl, rfl, rfl, rfl, rfl, fun w hw _ => p10 w hw⟩
  · simp (disch := omega) only [hN2, ↓reduceIte, o_bind, and_true, true_and, and_false, false_and, or_true, true_or, or_false, false_or, not_true, not_false_eq_true, not_false_iff, ne_eq, Nat.reduceAdd, Nat.reduceMul, Nat.reduceSub, Nat.reduceDiv, Nat.reduceMod, Nat.reduceLT, Nat.reduceLeDiff, Nat.reduceEqDiff, Nat.not_lt, Nat.not_le, q_lit, q_on, q_add, q_ltF, q_leT]
    refine zW_lp (I := fun r z => ∃ (i : Nat) (row : Nat → Nat) (V2 : zI), i ≤ 1 + m ∧ r = 1 + m - i ∧ z = (q, y, qI o, qi (1 + m), qi (row i), qi i, y + 1, 0 + 1, 0 + 6, kU K y 100, kU N y 6, kU G y zn0, V2, L1) ∧ grP o c s (1 + m) row i ∧ (∀ j, j < i → V2 q j = qi (row j)) ∧ spC V2 y s ∧ ∀ w, w < y → w ≠ q → V2 w = V w) ?_ FU (1 + m) _ ⟨0, fun _ => c, V1, by omega, by omega, rfl, ⟨rfl, fun j hj => absurd hj (by omega)⟩, fun j hj => absurd hj (by omega), p2, fun w hw _ => p10 w hw⟩ (FU_big (by omega))
    rintro kk r z ⟨i, row, V2, hi, rfl, rfl, h1, h2, h3, h4⟩ ih
    by_cases hend : i = 1 + m
    · subst hend
      simp (disch := omega) only [b_X6_shortestRing_40, ↓reduceIte, o_bind, and_true, true_and, and_false, false_and, or_true, true_or, or_false, false_or, not_true, not_false_eq_true, not_false_iff, ne_eq, Nat.reduceAdd, Nat.reduceMul, Nat.reduceSub, Nat.reduceDiv, Nat.reduceMod, Nat.reduceLT, Nat.reduceLeDiff, Nat.reduceEqDiff, Nat.not_lt, Nat.not_le, q_lit, q_leT]
      exact zW_some ⟨s, m, p3, hm, Or.inr ⟨by omega, rfl, row, h1, h2⟩, rfl, rfl, rfl, rfl, rfl, rfl, h4⟩
    · have hr6 := gr_6 h1 hc i (Nat.le_refl _)
      have hsp : spC (z_uI V2 q i (qi (row i))) y s := fun w hw => by rw [z_neP (by omega)]; exact h3 w hw
      have hnm : ¬ qi (row i) = -1 := q_nem (by omega)
      have e1 : qi (1 + m) - qi 1 - qi i = qi (1 + m - 1 - i) := by rw [q_sub (a := 1 + m) (b := 1) (by omega), q_sub (by omega)]
      have e2 : (qi i).toNatClampNeg = i := q_nn (by omega)
      have e3 : ¬ qi (1 + m) ≤ qi i := fun h => by have := (q_le (by omega) (by omega)).mp h; omega
      have hin : inB (qi i) 6 := q_inP (by omega) (by omega)
      unfold b_X6_shortestRing_40
      dsimp only
      rw [if_neg e3, if_neg hnm, hN2, if_pos hin, e2]
      have e4 : qi (1 + m) - 1 - qi i = qi (1 + m - 1 - i) := e1
      rw [e4]
      refine zW_call (cs_fstW (N := kU N y 6) (G := kU G y zn0) (L := L1) hN1 hsp ho hr6 (d := 1 + m - 1 - i) (by omega)) ?_
      rintro z (⟨-, hno⟩ | ⟨w, rfl, w1, w2, w3, w4⟩)
      · obtain ⟨w, w1, w2, w3⟩ := gr_ex h1 p3 hm rfl (by omega) (by omega)
        exact absurd w3 (hno w w1 w2)
      · have hgo := ih (1 + m - (i + 1)) (q, y, qI o, qi (1 + m), qi (nu row (i + 1) w (i + 1)), qi (i + 1), y + 1, 0 + 1, 0 + 6, kU K y 100, kU N y 6, kU G y zn0, z_uI V2 q i (qi (row i)), L1) (by omega) ⟨i + 1, nu row (i + 1) w, _, by omega, rfl, rfl, gr_up h1 w1 w2 w3 w4, fun j hj => ?_, hsp, fun w hw hwq => by rw [z_neP hwq]; exact h4 w hw hwq⟩
        · have e5 : nu row (i + 1) w (i + 1) = w := if_pos rfl
          rw [e5] at hgo
          rw [show qi i + 1 = qi (i + 1) from q_add i 1]
          exact hgo
        · have e6 : nu row (i + 1) w j = row j := if_neg (by omega)
          rw [e6]
          by_cases e : j = i
          · rw [e, z_same]
          · rw [z_neK e]; exact h2 j (by omega)
theorem zX_R {α β : Type} {o : Option α} {o' : Option β} {P : β → Prop} {Q : α → β → Prop} (h : zW o' P) (k : ∀ r, P r → zX o (some r) Q) : zX o o' Q := by
  obtain ⟨r, rfl, h⟩ := h
  exact k r h
/-! rings -/
def nxI (m i : Nat) : Nat := if m ≤ i + 1 then 0 else i + 1
def ringP (o m : Nat) (rv : Nat → Nat) : Prop := ∀ i, i < m → o.testBit (6 * rv i + rv (nxI m i)) = true ∧ ∀ j, j < i → rv j ≠ rv i
def dg6 (c m r j : Nat) : Nat := if j = 0 then c else r / 6 ^ (m - 1 - j) % 6
theorem dg6_b {m r j : Nat} (hc : c < 6) : dg6 c m r j < 6 := by
  unfold dg6
  split
  · exact hc
  · exact Nat.mod_lt _ (by omega)
theorem rg_wk {m : Nat} {rv : Nat → Nat} (h : ringP o m rv) (h0 : rv 0 = c) (hc : c < 6) (h6 : ∀ j, rv j < 6) : ∀ j, 1 ≤ j → j ≤ m - 1 → wk o c j (rv (m - j)) := by
  intro j
  induction j with
  | zero => intro h; omega
  | succ j ih =>
    intro _ hj
    by_cases hj0 : j = 0
    · subst hj0
      have h1 := (h (m - 1) (by omega)).1
      have e : nxI m (m - 1) = 0 := if_pos (by omega)
      rw [e, h0] at h1
      exact ⟨c, hc, h1, rfl⟩
    · have h1 := (h (m - (j + 1)) (by omega)).1
      have e : nxI m (m - (j + 1)) = m - j := by
        unfold nxI
        rw [if_neg (by omega)]
        omega
      rw [e] at h1
      exact ⟨rv (m - j), h6 _, h1, ih (by omega) (by omega)⟩
theorem rg_pre {m i e : Nat} {rv : Nat → Nat} (h : ringP o m rv) (h6 : ∀ j, rv j < 6) (hi : i + 1 < m) (hw : wk o c e (rv (i + 1))) : ∀ t, t ≤ i → wk o c (e + t) (rv (i + 1 - t)) := by
  intro t
  induction t with
  | zero => intro _; exact hw
  | succ t ih =>
    intro ht
    have h1 := (h (i + 1 - (t + 1)) (by omega)).1
    have e' : nxI m (i + 1 - (t + 1)) = i + 1 - t := by
      unfold nxI
      rw [if_neg (by omega)]
      omega
    rw [e'] at h1
    exact ⟨_, h6 _, h1, ih (by omega)⟩
theorem rg_len {m m' : Nat} {rv : Nat → Nat} (hs : stP o c 5 0 s) (hm : nrP o c s m) (h : ringP o m' rv) (h2 : 2 ≤ m') (h6' : m' ≤ 6) (h0 : rv 0 = c) (hc : c < 6) (h6 : ∀ j, rv j < 6) : 1 + m ≤ m' := by
  have h1 := (h 0 (by omega)).1
  have e : nxI m' 0 = 1 := if_neg (by omega)
  rw [e, h0] at h1
  have hw := rg_wk h h0 hc h6 (m' - 1) (by omega) (by omega)
  rw [show m' - (m' - 1) = 1 by omega] at hw
  have a1 := (hs _ (h6 1)).2.2 _ (Or.inl (by omega)) hw
  have a2 := hm.2.1 _ (h6 1) h1
  omega
theorem rg_dist {m i : Nat} {rv : Nat → Nat} (hs : stP o c 5 0 s) (hm : nrP o c s m) (h : ringP o (1 + m) rv) (h6' : 1 + m ≤ 6) (h0 : rv 0 = c) (hc : c < 6) (h6 : ∀ j, rv j < 6) (hi : i + 1 < 1 + m) : s (rv (i + 1)) = 1 + m - 1 - i := by
  have hw := rg_wk h h0 hc h6 (m - i) (by omega) (by omega)
  rw [show 1 + m - (m - i) = i + 1 by omega] at hw
  have a1 := (hs _ (h6 (i + 1))).2.2 _ (Or.inl (by omega)) hw
  by_cases hlt : s (rv (i + 1)) < m - i
  · have a2 := (hs _ (h6 (i + 1))).2.1 (by omega)
    have a3 := rg_pre h h6 hi a2 i (Nat.le_refl _)
    rw [show i + 1 - i = 1 by omega] at a3
    have a4 := (hs _ (h6 1)).2.2 _ (Or.inl (by omega)) a3
    have h1 := (h 0 (by omega)).1
    have e : nxI (1 + m) 0 = 1 := if_neg (by omega)
    rw [e, h0] at h1
    have a5 := hm.2.1 _ (h6 1) h1
    omega
  · omega
theorem gr_ring {m : Nat} {row : Nat → Nat} (hs : stP o c 5 0 s) (h6 : m < 6) (hc : c < 6) (h : grP o c s (1 + m) row (1 + m)) : ringP o (1 + m) row := by
  have hr := gr_6 h hc
  intro i hi
  obtain ⟨r1, r2, r3, -⟩ := h.2 i hi
  refine ⟨?_, fun j hj e => ?_⟩
  · by_cases hl : i = m
    · have e : nxI (1 + m) i = 0 := if_pos (by omega)
      rw [e, h.1]
      have hz := (hs _ r1).2.1 (by omega)
      rw [r3, show 1 + m - 1 - i = 0 by omega] at hz
      have hz : row (i + 1) = c := hz
      rw [hz] at r2
      exact r2
    · have e : nxI (1 + m) i = i + 1 := if_neg (by omega)
      rw [e]
      exact r2
  · match i, hj, e with
    | i + 1, hj, e =>
      have e1 := (h.2 i (by omega)).2.2.1
      rw [← e] at e1
      match j with
      | 0 =>
        rw [h.1] at e1
        have := (hs c hc).2.2 0 (Or.inl (by omega)) rfl
        omega
      | j + 1 =>
        have e2 := (h.2 j (by omega)).2.2.1
        omega
def nm6 (row : Nat → Nat) : Nat → Nat
  | 0 => 0
  | j + 1 => 6 * nm6 row j + row (j + 1)
theorem nm_b {row : Nat → Nat} {l : Nat} (h : ∀ j, j ≤ l → row j < 6) : ∀ j, j ≤ l → nm6 row j < 6 ^ j := by
  intro j
  induction j with
  | zero => intro _; exact Nat.one_pos
  | succ j ih =>
    intro hj
    have h1 := ih (by omega)
    have h2 := h (j + 1) hj
    show 6 * nm6 row j + row (j + 1) < 6 ^ (j + 1)
    rw [Nat.pow_succ]
    omega
theorem nm_dv {row : Nat → Nat} {l : Nat} (h : ∀ j, j ≤ l → row j < 6) (j : Nat) : ∀ k, j + k ≤ l → nm6 row (j + k) / 6 ^ k = nm6 row j := by
  intro k
  induction k with
  | zero => intro _; rw [Nat.pow_zero, Nat.div_one]; rfl
  | succ k ih =>
    intro hk
    have h1 := h (j + k + 1) (by omega)
    have e : nm6 row (j + (k + 1)) = 6 * nm6 row (j + k) + row (j + k + 1) := rfl
    rw [e, Nat.pow_succ, Nat.mul_comm (6 ^ k) 6, ← Nat.div_div_eq_div_mul, show (6 * nm6 row (j + k) + row (j + k + 1)) / 6 = nm6 row (j + k) by omega]
    exact ih (by omega)
theorem nm_dg {row : Nat → Nat} {m : Nat} (h : ∀ j, j ≤ m → row j < 6) (h0 : row 0 = c) : ∀ j, j ≤ m → dg6 c (1 + m) (nm6 row m) j = row j := by
  intro j hj
  unfold dg6
  match j with
  | 0 => rw [if_pos rfl, h0]
  | j + 1 =>
    rw [if_neg (by omega)]
    have e := nm_dv h (j + 1) (m - (j + 1)) (by omega)
    rw [show j + 1 + (m - (j + 1)) = m by omega] at e
    rw [show 1 + m - 1 - (j + 1) = m - (j + 1) by omega, e]
    have h1 := h (j + 1) hj
    show (6 * nm6 row j + row (j + 1)) % 6 = _
    omega
theorem rg_cg {m : Nat} {r1 r2 : Nat → Nat} (h : ringP o m r1) (e : ∀ j, j < m → r1 j = r2 j) : ringP o m r2 := by
  intro i hi
  have hn : nxI m i < m := by
    unfold nxI
    split <;> omega
  rw [← e i hi, ← e _ hn]
  exact ⟨(h i hi).1, fun j hj => by rw [← e j (by omega)]; exact (h i hi).2 j hj⟩
theorem rg_one {m r : Nat} {row : Nat → Nat} (hs : stP o c 5 0 s) (hm : nrP o c s m) (h6 : m < 6) (hc : c < 6) (h : grP o c s (1 + m) row (1 + m)) (hr : r ≤ nm6 row m) (hg : ringP o (1 + m) (dg6 c (1 + m) r)) : ∀ j, j ≤ m → dg6 c (1 + m) r j = row j := by
  have hr6 : ∀ j, j ≤ m → row j < 6 := fun j hj => gr_6 h hc j (by omega)
  have hd6 : ∀ j, dg6 c (1 + m) r j < 6 := fun j => dg6_b hc
  have hd0 : dg6 c (1 + m) r 0 = c := if_pos rfl
  have key : ∀ j, j ≤ m → r / 6 ^ (m - j) = nm6 row j ∧ dg6 c (1 + m) r j = row j := by
    intro j
    induction j with
    | zero =>
      intro _
      refine ⟨?_, by rw [hd0, h.1]⟩
      have := nm_b hr6 m (Nat.le_refl _)
      exact Nat.div_eq_of_lt (by show r < 6 ^ m; omega)
    | succ j ih =>
      intro hj
      obtain ⟨i1, i2⟩ := ih (by omega)
      have hdist := rg_dist (i := j) hs hm hg (by omega) hd0 hc hd6 (by omega)
      have hadj := (hg j (by omega)).1
      have e : nxI (1 + m) j = j + 1 := if_neg (by omega)
      rw [e, i2] at hadj
      obtain ⟨g1, g2, g3, g4⟩ := h.2 j (by omega)
      have hge : ¬ dg6 c (1 + m) r (j + 1) < row (j + 1) := fun hlt => g4 _ hlt hadj hdist
      have hed : dg6 c (1 + m) r (j + 1) = r / 6 ^ (m - (j + 1)) % 6 := by
        unfold dg6
        rw [if_neg (by omega), show 1 + m - 1 - (j + 1) = m - (j + 1) by omega]
      have hdv : r / 6 ^ (m - (j + 1)) / 6 = nm6 row j := by
        rw [Nat.div_div_eq_div_mul, ← Nat.pow_succ, show (m - (j + 1)).succ = m - j by omega]
        exact i1
      have hle : r / 6 ^ (m - (j + 1)) ≤ nm6 row m / 6 ^ (m - (j + 1)) := Nat.div_le_div_right hr
      have e2 := nm_dv hr6 (j + 1) (m - (j + 1)) (by omega)
      rw [show j + 1 + (m - (j + 1)) = m by omega] at e2
      rw [e2] at hle
      have e3 : nm6 row (j + 1) = 6 * nm6 row j + row (j + 1) := rfl
      have hb := hr6 (j + 1) hj
      constructor <;> omega
  exact fun j hj => (key j hj).2
/-! the reference's ring -/
def rgT (o c : Nat) (ans : Option (Nat × Nat)) : Prop := match ans with
  | none => ∀ m r, 2 ≤ m → m ≤ 6 → r < 6 ^ (m - 1) → ¬ ringP o m (dg6 c m r)
  | some (m, r) => 2 ≤ m ∧ m ≤ 6 ∧ r < 6 ^ (m - 1) ∧ ringP o m (dg6 c m r) ∧ (∀ r', r' < r → ¬ ringP o m (dg6 c m r')) ∧ ∀ m' r', 2 ≤ m' → m' < m → r' < 6 ^ (m' - 1) → ¬ ringP o m' (dg6 c m' r')
theorem rgT_n {m : Nat} {ans : Option (Nat × Nat)} (hs : stP o c 5 0 s) (hm : nrP o c s m) (h6 : 6 ≤ m) (hc : c < 6) (h : rgT o c ans) : ans = none := by
  match ans, h with
  | none, _ => rfl
  | some (m', r), h =>
    obtain ⟨h1, h2, h3, h4, -⟩ := h
    have := rg_len hs hm h4 h1 h2 (if_pos rfl) hc (fun j => dg6_b hc)
    omega
theorem rgT_s {m : Nat} {row : Nat → Nat} {ans : Option (Nat × Nat)} (hs : stP o c 5 0 s) (hm : nrP o c s m) (h6 : m < 6) (hc : c < 6) (hn : o.testBit (6 * c + c) = false) (hg : grP o c s (1 + m) row (1 + m)) (h : rgT o c ans) : ∃ r, ans = some (1 + m, r) ∧ ∀ j, j ≤ m → dg6 c (1 + m) r j = row j := by
  have hr6 : ∀ j, j ≤ m → row j < 6 := fun j hj => gr_6 hg hc j (by omega)
  have hm1 : 1 ≤ m := by
    by_cases h0 : m = 0
    · subst h0
      obtain ⟨w, w1, w2, w3⟩ := hm.2.2 (by omega)
      have := (hs w w1).2.1 (by omega)
      rw [w3] at this
      have hwc : w = c := this
      rw [hwc, hn] at w2
      cases w2
    · omega
  have hrg := gr_ring hs h6 hc hg
  have hstar : ringP o (1 + m) (dg6 c (1 + m) (nm6 row m)) := rg_cg hrg (fun j hj => (nm_dg hr6 hg.1 j (by omega)).symm)
  have hnb := nm_b hr6 m (Nat.le_refl _)
  have e1 : 1 + m - 1 = m := by omega
  match ans, h with
  | none, h => exact absurd hstar (h (1 + m) _ (by omega) (by omega) (by rw [e1]; exact hnb))
  | some (m', r), h =>
    obtain ⟨h1, h2, h3, h4, h5, h7⟩ := h
    have hl := rg_len hs hm h4 h1 h2 (if_pos rfl) hc (fun j => dg6_b hc)
    have hmm : m' = 1 + m := by
      by_cases hlt : 1 + m < m'
      · exact absurd hstar (h7 (1 + m) _ (by omega) hlt (by rw [e1]; exact hnb))
      · omega
    subst hmm
    refine ⟨r, rfl, rg_one hs hm h6 hc hg ?_ h4⟩
    by_cases hlt : nm6 row m < r
    · exact absurd hstar (h5 _ hlt)
    · omega
set_option maxHeartbeats 4000000 in
theorem r_isRing {m : Nat} {rv : Nat → Nat} (hm : 2 ≤ m ∧ m ≤ 6) (hg : gR R o) (h6 : ∀ j, rv j < 6) (h32 : ∀ j, j < m → R 32 j = qi (rv j)) : zW (f_isRing (qi m) R M) (fun r => ((r.1 = qi 1 ∧ ringP o m rv) ∨ (r.1 = qi 0 ∧ ¬ ringP o m rv)) ∧ r.2 = (R, M)) := by
  unfold f_isRing
  refine zW_lp (I := fun r z => ∃ i : Nat, i ≤ m ∧ r = m - i ∧ z = (qi m, qi i, R, M) ∧ ∀ i', i' < i → o.testBit (6 * rv i' + rv (nxI m i')) = true ∧ ∀ j, j < i' → rv j ≠ rv i') ?_ FU m _ ⟨0, by omega, by omega, rfl, fun i hi => absurd hi (by omega)⟩ (FU_big (by omega))
  rintro kk r z ⟨i, hi, rfl, rfl, h1⟩ ih
  by_cases hend : i = m
  · subst hend
    simp (disch := omega) only [b_isRing_2, Nat.le_refl, ↓reduceIte, o_bind, and_true, true_and, and_false, false_and, or_true, true_or, or_false, false_or, not_true, not_false_eq_true, not_false_iff, ne_eq, Nat.reduceAdd, Nat.reduceMul, Nat.reduceSub, Nat.reduceDiv, Nat.reduceMod, Nat.reduceLT, Nat.reduceLeDiff, Nat.reduceEqDiff, Nat.not_lt, Nat.not_le, q_lit, q_leT]
    exact zW_some ⟨Or.inl ⟨rfl, h1⟩, rfl⟩
  · have e1 := h32 i (by omega)
    have hn : nxI m i < m := by
      unfold nxI
      split <;> omega
    have e2 := h32 (nxI m i) hn
    have b1 := h6 i
    have b2 := h6 (nxI m i)
    have e3 := hg (6 * rv i + rv (nxI m i)) (by omega)
    have hsel : b_isRing_2 kk (qi m, qi i, R, M) = f_isRing_38 kk (qi m) (qi i) (qi (6 * rv i)) (qi (nxI m i)) R M := by
      unfold nxI
      by_cases hc : m ≤ i + 1
      · rw [if_pos hc]
        simp (disch := omega) only [b_isRing_2, e1, ↓reduceIte, o_bind, and_true, true_and, and_false, false_and, or_true, true_or, or_false, false_or, not_true, not_false_eq_true, not_false_iff, ne_eq, Nat.reduceAdd, Nat.reduceMul, Nat.reduceSub, Nat.reduceDiv, Nat.reduceMod, Nat.reduceLT, Nat.reduceLeDiff, Nat.reduceEqDiff, Nat.not_lt, Nat.not_le, q_lit, ↓q_m1, q_om, q_on, q_add, q_mul, q_sub, q_div, q_md, q_ltT, q_ltF, q_leT, q_leF, q_eqT, q_eqF, q_inT, q_inF, q_nn, q_mlt, q_ltm, q_mle, q_lem, q_nem, q_mne]
      · rw [if_neg hc]
        simp (disch := omega) only [b_isRing_2, e1, ↓reduceIte, o_bind, and_true, true_and, and_false, false_and, or_true, true_or, or_false, false_or, not_true, not_false_eq_true, not_false_iff, ne_eq, Nat.reduceAdd, Nat.reduceMul, Nat.reduceSub, Nat.reduceDiv, Nat.reduceMod, Nat.reduceLT, Nat.reduceLeDiff, Nat.reduceEqDiff, Nat.not_lt, Nat.not_le, q_lit, ↓q_m1, q_om, q_on, q_add, q_mul, q_sub, q_div, q_md, q_ltT, q_ltF, q_leT, q_leF, q_eqT, q_eqF, q_inT, q_inF, q_nn, q_mlt, q_ltm, q_mle, q_lem, q_nem, q_mne]
    rw [hsel]
    have hbb := bitN_b o (6 * rv i + rv (nxI m i))
    cases hbt : o.testBit (6 * rv i + rv (nxI m i)) with
    | false =>
      have hb0 := bitN_0.mpr hbt
      rw [hb0] at e3
      simp (disch := omega) only [f_isRing_38, e2, e3, ↓reduceIte, o_bind, and_true, true_and, and_false, false_and, or_true, true_or, or_false, false_or, not_true, not_false_eq_true, not_false_iff, ne_eq, Nat.reduceAdd, Nat.reduceMul, Nat.reduceSub, Nat.reduceDiv, Nat.reduceMod, Nat.reduceLT, Nat.reduceLeDiff, Nat.reduceEqDiff, Nat.not_lt, Nat.not_le, q_lit, ↓q_m1, q_om, q_on, q_add, q_mul, q_sub, q_div, q_md, q_ltT, q_ltF, q_leT, q_leF, q_eqT, q_eqF, q_inT, q_inF, q_nn, q_mlt, q_ltm, q_mle, q_lem, q_nem, q_mne]
      exact zW_some ⟨Or.inr ⟨rfl, fun h => by have := (h i (by omega)).1; rw [hbt] at this; cases this⟩, rfl⟩
    | true =>
      have hb1 := bitN_1.mpr hbt
      rw [hb1] at e3
      simp (disch := omega) only [f_isRing_38, e2, e3, ↓reduceIte, o_bind, and_true, true_and, and_false, false_and, or_true, true_or, or_false, false_or, not_true, not_false_eq_true, not_false_iff, ne_eq, Nat.reduceAdd, Nat.reduceMul, Nat.reduceSub, Nat.reduceDiv, Nat.reduceMod, Nat.reduceLT, Nat.reduceLeDiff, Nat.reduceEqDiff, Nat.not_lt, Nat.not_le, q_lit, ↓q_m1, q_om, q_on, q_add, q_mul, q_sub, q_div, q_md, q_ltT, q_ltF, q_leT, q_leF, q_eqT, q_eqF, q_inT, q_inF, q_nn, q_mlt, q_ltm, q_mle, q_lem, q_nem, q_mne]
      refine zW_lp (I := fun r z => ∃ j : Nat, j ≤ i ∧ r = i - j ∧ z = (qi m, qi i, qi j, R, M) ∧ ∀ j', j' < j → rv j' ≠ rv i) ?_ FU i _ ⟨0, by omega, by omega, rfl, fun j hj => absurd hj (by omega)⟩ (FU_big (by omega))
      rintro k2 r z ⟨j, hj, rfl, rfl, h2⟩ ih2
      by_cases hend2 : j = i
      · subst hend2
        simp (disch := omega) only [b_isRing_48, Nat.le_refl, ↓reduceIte, o_bind, and_true, true_and, and_false, false_and, or_true, true_or, or_false, false_or, not_true, not_false_eq_true, not_false_iff, ne_eq, Nat.reduceAdd, Nat.reduceMul, Nat.reduceSub, Nat.reduceDiv, Nat.reduceMod, Nat.reduceLT, Nat.reduceLeDiff, Nat.reduceEqDiff, Nat.not_lt, Nat.not_le, q_lit, q_leT, q_add]
        refine ih (m - (j + 1)) _ (by omega) ⟨j + 1, by omega, rfl, rfl, fun i' hi' => ?_⟩
        by_cases e : i' = j
        · subst e; exact ⟨hbt, h2⟩
        · exact h1 i' (by omega)
      · have e4 := h32 j (by omega)
        have b3 := h6 j
        by_cases he : rv j = rv i
        · simp (disch := omega) only [b_isRing_48, e1, e4, he, ↓reduceIte, o_bind, and_true, true_and, and_false, false_and, or_true, true_or, or_false, false_or, not_true, not_false_eq_true, not_false_iff, ne_eq, Nat.reduceAdd, Nat.reduceMul, Nat.reduceSub, Nat.reduceDiv, Nat.reduceMod, Nat.reduceLT, Nat.reduceLeDiff, Nat.reduceEqDiff, Nat.not_lt, Nat.not_le, q_lit, ↓q_m1, q_om, q_on, q_add, q_mul, q_sub, q_div, q_md, q_ltT, q_ltF, q_leT, q_leF, q_eqT, q_eqF, q_inT, q_inF, q_nn, q_mlt, q_ltm, q_mle, q_lem, q_nem, q_mne]
          exact zW_some ⟨Or.inr ⟨rfl, fun h => (h i (by omega)).2 j (by omega) he⟩, rfl⟩
        · simp (disch := omega) only [b_isRing_48, e1, e4, ↓reduceIte, o_bind, and_true, true_and, and_false, false_and, or_true, true_or, or_false, false_or, not_true, not_false_eq_true, not_false_iff, ne_eq, Nat.reduceAdd, Nat.reduceMul, Nat.reduceSub, Nat.reduceDiv, Nat.reduceMod, Nat.reduceLT, Nat.reduceLeDiff, Nat.reduceEqDiff, Nat.not_lt, Nat.not_le, q_lit, ↓q_m1, q_om, q_on, q_add, q_mul, q_sub, q_div, q_md, q_ltT, q_ltF, q_leT, q_leF, q_eqT, q_eqF, q_inT, q_inF, q_nn, q_mlt, q_ltm, q_mle, q_lem, q_nem, q_mne]
          refine ih2 (i - (j + 1)) _ (by omega) ⟨j + 1, by omega, rfl, rfl, fun j' hj' => ?_⟩
          by_cases e : j' = j
          · subst e; exact he
          · exact h2 j' (by omega)
def rgA (c : Nat) (k : Int32) (ans : Option (Nat × Nat)) : Int32 := match ans with
  | none => qm
  | some (m, r) => if k = qm then qi m else if k < qi 0 then qm else if qi m ≤ k then qm else qi (dg6 c m r k.toNatClampNeg)
set_option maxHeartbeats 4000000 in
theorem r_57 {k : Int32} {m r p : Nat} {k26 : Int32 × Int32 × Int32 × zI × zL → Option (Int32 × zI × zL)} {k41 : Int32 × Int32 × Int32 × Int32 × zI × zL → Option (Int32 × zI × zL)} {P : Int32 × zI × zL → Prop} (hc : c < 6) (hm : 2 ≤ m ∧ m ≤ 6) (hr : r < 7776) (hg : gR R o) (h0 : R 32 0 = qi c) (hno : ¬ ringP o m (dg6 c m r) → ∀ R', (∀ w, w ≠ 32 → R' w = R w) → R' 32 0 = qi c → zW (k41 (k, qi p, qi m, qi (r + 1), R', M)) P) (hyes : ringP o m (dg6 c m r) → ∀ R', (∀ w, w ≠ 32 → R' w = R w) → P (rgA c k (some (m, r)), R', M)) : zW (zfix (b_ring_57 k26 k41) FU (k, qi p, qi m, qi r, qi r, qi m - 1, R, M)) P := by
  have e0 : qi m - 1 = qi (m - 1) := q_sub (a := m) (b := 1) (by omega)
  rw [e0]
  refine zW_lp (I := fun rr z => ∃ (i : Nat) (R1 : zI), i ≤ m - 1 ∧ rr = i ∧ z = (k, qi p, qi m, qi r, qi (r / 6 ^ (m - 1 - i)), qi i, R1, M) ∧ (∀ w, w ≠ 32 → R1 w = R w) ∧ R1 32 0 = qi c ∧ ∀ j, i < j → j < m → R1 32 j = qi (dg6 c m r j)) ?_ FU (m - 1) _ ⟨m - 1, R, Nat.le_refl _, rfl, by rw [Nat.sub_self, Nat.pow_zero, Nat.div_one], fun _ _ => rfl, h0, fun j h1 h2 => absurd h2 (by omega)⟩ (FU_big (by omega))
  rintro kk i z ⟨_, R1, hi, rfl, rfl, hw, h1, h2⟩ ih
  have hdb : r / 6 ^ (m - 1 - i) ≤ r := Nat.div_le_self _ _
  match i with
  | 0 =>
    have hg1 : gR R1 o := fun k hk => by rw [hw 30 (by omega)]; exact hg k hk
    have h32 : ∀ j, j < m → R1 32 j = qi (dg6 c m r j) := fun j hj => by
      by_cases e : j = 0
      · rw [e, h1]; rfl
      · exact h2 j (by omega) hj
    unfold b_ring_57
    dsimp only
    rw [if_pos (show qi 0 ≤ 0 from (q_le (a := 0) (b := 0) (by omega) (by omega)).mpr (Nat.le_refl _))]
    refine zW_call (r_isRing (M := M) hm hg1 (fun j => dg6_b hc) h32) ?_
    rintro ⟨y, R2, M2⟩ ⟨q1, q2⟩
    dsimp only at q1 q2 ⊢
    obtain ⟨rfl, rfl⟩ := Prod.mk.inj q2
    rcases q1 with ⟨rfl, q1⟩ | ⟨rfl, q1⟩
    · have hP := hyes q1 R2 hw
      rw [if_neg (show ¬ qi 1 = 0 from fun h => by have := (q_eq (a := 1) (b := 0) (by omega) (by omega)).mp h; omega)]
      rcases q_cases k with hk | ⟨i, hi, rfl⟩
      · by_cases hkm : k = qm
        · have hkm' : k = -1 := hkm
          rw [if_pos hkm']
          unfold rgA at hP
          dsimp only at hP
          rw [if_pos hkm] at hP
          exact zW_some hP
        · have hkm' : ¬ k = -1 := hkm
          rw [if_neg hkm']
          have e : f_is k 0 (qi m - 1) = some (qi 0) := by
            unfold f_is
            rw [if_pos (show k < 0 from hk)]; rfl
          rw [e, o_bind, if_pos (show qi 0 = 0 from rfl)]
          unfold rgA at hP
          dsimp only at hP
          rw [if_neg hkm, if_pos hk] at hP
          exact zW_some hP
      · have hkm' : ¬ qi i = -1 := q_nem (by omega)
        have hkm : ¬ qi i = qm := q_nem (by omega)
        have hk0 : ¬ qi i < qi 0 := fun h => by have := (q_lt (by omega) (by omega)).mp h; omega
        rw [if_neg hkm']
        unfold rgA at hP
        dsimp only at hP
        rw [if_neg hkm, if_neg hk0] at hP
        rw [e0]
        by_cases hil : i < m
        · rw [if_neg (fun h => by have := (q_le (by omega) (by omega)).mp h; omega), q_nn (by omega)] at hP
          have e := h32 i hil
          simp (disch := omega) only [f_is, e, ↓reduceIte, o_bind, and_true, true_and, and_false, false_and, or_true, true_or, or_false, false_or, not_true, not_false_eq_true, not_false_iff, ne_eq, Nat.reduceAdd, Nat.reduceMul, Nat.reduceSub, Nat.reduceDiv, Nat.reduceMod, Nat.reduceLT, Nat.reduceLeDiff, Nat.reduceEqDiff, Nat.not_lt, Nat.not_le, q_lit, ↓q_m1, q_om, q_on, q_add, q_mul, q_sub, q_div, q_md, q_ltT, q_ltF, q_leT, q_leF, q_eqT, q_eqF, q_inT, q_inF, q_nn, q_mlt, q_ltm, q_mle, q_lem, q_nem, q_mne]
          exact zW_some hP
        · rw [if_pos ((q_le (by omega) (by omega)).mpr (by omega))] at hP
          simp (disch := omega) only [f_is, ↓reduceIte, o_bind, and_true, true_and, and_false, false_and, or_true, true_or, or_false, false_or, not_true, not_false_eq_true, not_false_iff, ne_eq, Nat.reduceAdd, Nat.reduceMul, Nat.reduceSub, Nat.reduceDiv, Nat.reduceMod, Nat.reduceLT, Nat.reduceLeDiff, Nat.reduceEqDiff, Nat.not_lt, Nat.not_le, q_lit, ↓q_m1, q_om, q_on, q_add, q_mul, q_sub, q_div, q_md, q_ltT, q_ltF, q_leT, q_leF, q_eqT, q_eqF, q_inT, q_inF, q_nn, q_mlt, q_ltm, q_mle, q_lem, q_nem, q_mne]
          exact zW_some hP
    · rw [if_pos (show qi 0 = 0 from rfl)]
      have e : qi r + 1 = qi (r + 1) := q_add r 1
      rw [e]
      exact hno q1 R2 hw h1
  | i + 1 =>
    have ed : r / 6 ^ (m - 1 - (i + 1)) % 6 = dg6 c m r (i + 1) := by
      unfold dg6
      rw [if_neg (by omega)]
    have edv : r / 6 ^ (m - 1 - (i + 1)) / 6 = r / 6 ^ (m - 1 - i) := by
      rw [Nat.div_div_eq_div_mul, ← Nat.pow_succ, show (m - 1 - (i + 1)).succ = m - 1 - i by omega]
    have er : r / 6 ^ (m - 1 - (i + 1)) - r / 6 ^ (m - 1 - i) * 6 = dg6 c m r (i + 1) := by
      rw [← ed, ← edv]
      omega
    have em : qi (i + 1) + Int32.ofInt (-1) = qi i := q_dn1 (a := i + 1) (by omega)
    have hgo := ih i (k, qi p, qi m, qi r, qi (r / 6 ^ (m - 1 - i)), qi i, z_uI R1 32 (i + 1) (qi (dg6 c m r (i + 1))), M) (by omega) ⟨i, _, by omega, rfl, rfl, fun w hw' => by rw [z_neP hw']; exact hw w hw', by rw [z_neK (by omega)]; exact h1, fun j j1 j2 => by
      by_cases e : j = i + 1
      · rw [e, z_same]
      · rw [z_neK e]; exact h2 j (by omega) j2⟩
    simp (disch := omega) only [b_ring_57, em, er, edv, ↓reduceIte, o_bind, and_true, true_and, and_false, false_and, or_true, true_or, or_false, false_or, not_true, not_false_eq_true, not_false_iff, ne_eq, Nat.reduceAdd, Nat.reduceMul, Nat.reduceSub, Nat.reduceDiv, Nat.reduceMod, Nat.reduceLT, Nat.reduceLeDiff, Nat.reduceEqDiff, Nat.not_lt, Nat.not_le, q_lit, ↓q_m1, q_om, q_on, q_add, q_mul, q_sub, q_div, q_md, q_ltT, q_ltF, q_leT, q_leF, q_eqT, q_eqF, q_inT, q_inF, q_nn, q_mlt, q_ltm, q_mle, q_lem, q_nem, q_mne]
    exact hgo
theorem p6_b {m : Nat} (hm : m ≤ 6) : 6 ^ (m - 1) ≤ 7776 := Nat.pow_le_pow_right (n := 6) (by decide) (show m - 1 ≤ 5 by omega)
set_option maxHeartbeats 4000000 in
theorem r_ringL {k : Int32} (hc : c < 6) (hg : gR R o) (h0 : R 32 0 = qi c) : zW (zfix b_ring_26 FU (k, qi 1, qi 2, R, M)) (fun r => (∃ ans, rgT o c ans ∧ r.1 = rgA c k ans) ∧ (∀ w, w ≠ 32 → r.2.1 w = R w) ∧ r.2.2 = M) := by
  refine zW_lp (I := fun rr z => ∃ (m : Nat) (R1 : zI), 2 ≤ m ∧ m ≤ 7 ∧ rr = 7 - m ∧ z = (k, qi (6 ^ (m - 2)), qi m, R1, M) ∧ (∀ w, w ≠ 32 → R1 w = R w) ∧ R1 32 0 = qi c ∧ ∀ m' r', 2 ≤ m' → m' < m → r' < 6 ^ (m' - 1) → ¬ ringP o m' (dg6 c m' r')) ?_ FU 5 _ ⟨2, R, by omega, by omega, by omega, rfl, fun _ _ => rfl, h0, fun m' r' a1 a2 => absurd a2 (by omega)⟩ (FU_big (by omega))
  rintro kk rr z ⟨m, R1, hm2, hm7, rfl, rfl, hw, h1, hno⟩ ih
  by_cases hend : m = 7
  · subst hend
    simp (disch := omega) only [b_ring_26, ↓reduceIte, o_bind, and_true, true_and, and_false, false_and, or_true, true_or, or_false, false_or, not_true, not_false_eq_true, not_false_iff, ne_eq, Nat.reduceAdd, Nat.reduceMul, Nat.reduceSub, Nat.reduceDiv, Nat.reduceMod, Nat.reduceLT, Nat.reduceLeDiff, Nat.reduceEqDiff, Nat.not_lt, Nat.not_le, q_lit, ↓q_m1, q_om, q_on, q_add, q_mul, q_sub, q_div, q_md, q_ltT, q_ltF, q_leT, q_leF, q_eqT, q_eqF, q_inT, q_inF, q_nn, q_mlt, q_ltm, q_mle, q_lem, q_nem, q_mne]
    exact zW_some ⟨⟨none, fun m r a1 a2 a3 => hno m r a1 (by omega) a3, rfl⟩, hw, rfl⟩
  · have ep : 6 ^ (m - 2) * 6 = 6 ^ (m - 1) := by rw [← Nat.pow_succ, show (m - 2).succ = m - 1 by omega]
    have hpb := p6_b (m := m) (by omega)
    simp (disch := omega) only [b_ring_26, ep, ↓reduceIte, o_bind, and_true, true_and, and_false, false_and, or_true, true_or, or_false, false_or, not_true, not_false_eq_true, not_false_iff, ne_eq, Nat.reduceAdd, Nat.reduceMul, Nat.reduceSub, Nat.reduceDiv, Nat.reduceMod, Nat.reduceLT, Nat.reduceLeDiff, Nat.reduceEqDiff, Nat.not_lt, Nat.not_le, q_lit, q_ltF, q_mul]
    refine zW_lp (I := fun rr z => ∃ (r : Nat) (R2 : zI), r ≤ 6 ^ (m - 1) ∧ rr = 6 ^ (m - 1) - r ∧ z = (k, qi (6 ^ (m - 1)), qi m, qi r, R2, M) ∧ (∀ w, w ≠ 32 → R2 w = R w) ∧ R2 32 0 = qi c ∧ ∀ r', r' < r → ¬ ringP o m (dg6 c m r')) ?_ FU (6 ^ (m - 1)) _ ⟨0, R1, Nat.zero_le _, by omega, rfl, hw, h1, fun r' h => absurd h (by omega)⟩ (FU_big (by omega))
    rintro k2 rr z ⟨r, R2, hr, rfl, rfl, hw2, h2, hno2⟩ ih2
    by_cases hend2 : r = 6 ^ (m - 1)
    · have hgo := ih (7 - (m + 1)) (k, qi (6 ^ (m - 1)), qi (m + 1), R2, M) (by omega) ⟨m + 1, R2, by omega, by omega, rfl, by rw [show m + 1 - 2 = m - 1 by omega], hw2, h2, fun m' r' a1 a2 a3 => by
        by_cases e : m' = m
        · subst e; exact hno2 r' (by omega)
        · exact hno m' r' a1 (by omega) a3⟩
      simp (disch := omega) only [b_ring_41, hend2, Nat.le_refl, ↓reduceIte, o_bind, and_true, true_and, and_false, false_and, or_true, true_or, or_false, false_or, not_true, not_false_eq_true, not_false_iff, ne_eq, Nat.reduceAdd, Nat.reduceMul, Nat.reduceSub, Nat.reduceDiv, Nat.reduceMod, Nat.reduceLT, Nat.reduceLeDiff, Nat.reduceEqDiff, Nat.not_lt, Nat.not_le, q_lit, q_leT, q_add]
      exact hgo
    · have hg2 : gR R2 o := fun k hk => by rw [hw2 30 (by omega)]; exact hg k hk
      unfold b_ring_41
      dsimp only
      rw [if_neg (fun h => by have := (q_le (by omega) (by omega)).mp h; omega)]
      refine r_57 (c := c) (o := o) hc ⟨hm2, by omega⟩ (by omega) hg2 h2 (fun hn R3 w3 a3 => ?_) (fun hy R3 w3 => ?_)
      · refine ih2 (6 ^ (m - 1) - (r + 1)) _ (by omega) ⟨r + 1, R3, by omega, rfl, rfl, fun w hw' => (w3 w hw').trans (hw2 w hw'), a3, fun r' hr' => ?_⟩
        by_cases e : r' = r
        · subst e; exact hn
        · exact hno2 r' (by omega)
      · exact ⟨⟨some (m, r), ⟨hm2, by omega, by omega, hy, hno2, hno⟩, rfl⟩, fun w hw' => (w3 w hw').trans (hw2 w hw'), rfl⟩
theorem opO_irr (hU : UB U) (hc : c < 6) : (opO U A).testBit (6 * c + c) = false := by
  rw [opO_tb (by omega)]
  refine decide_eq_false (fun h => ?_)
  have := (hU.2.1 (6 * c + c) (by omega)).2 h.1
  omega
set_option maxHeartbeats 4000000 in
theorem m_ring {a1 a2 : Int32} (h : JP n K N G V R M) : zX (f_X10_ring 0 a1 a2 n K N G V L) (f_ring a1 a2 R M) (fun r r' => r.1 = r'.1 ∧ JQ r.2 r'.2.1 r'.2.2) := by
  obtain ⟨u, b, f0, cnt, acts, x, pl, U, A, hi, h⟩ := h
  obtain ⟨⟨hn, hK, hx, g2', hu, hun, -⟩, -, -, -, -, -, b6⟩ := id h.1
  obtain ⟨⟨g1, gs, gr, gt⟩, ⟨hU, hA⟩, -⟩ := id h.2.1
  have hu1 := hu.1
  have htw := UB_tw hU
  have t6 : (6 : Int32).toNatClampNeg = 6 := rfl
  have hok : (¬ (6 : Int32) < 0 ∧ (6 : Int32).toNatClampNeg ≤ 100000) := by decide
  unfold f_X10_ring g_X10_ring f_ring
  rw [g2', o_bind]
  rcases x_isTown (L := L) g1 gr hU a1 with ⟨e1, e2⟩ | ⟨a, rfl, ha, e1, e2⟩
  · rw [e1, e2]
    simp (disch := omega) only [↓reduceIte, o_bind, and_true, true_and, and_false, false_and, or_true, true_or, or_false, false_or, not_true, not_false_eq_true, not_false_iff, ne_eq, Nat.reduceAdd, Nat.reduceMul, Nat.reduceSub, Nat.reduceDiv, Nat.reduceMod, Nat.reduceLT, Nat.reduceLeDiff, Nat.reduceEqDiff, Nat.not_lt, Nat.not_le, Nat.add_zero, Nat.zero_add, Nat.mul_zero, Nat.zero_mul, q_lit, ↓q_m1, q_om, q_on, q_add, q_mul, q_sub, q_div, q_md, q_ltT, q_ltF, q_leT, q_leF, q_eqT, q_eqF, q_inT, q_inF, q_nn, q_mlt, q_ltm, q_mle, q_lem, q_nem, q_mne]
    refine zX_some ?_
    dsimp only
    exact ⟨rfl, JQ_mk (by omega) (by omega) ⟨u, b, f0, cnt, acts, x, pl, U, A, hi, h⟩⟩
  rw [e1, e2, o_bind, o_bind, if_neg (show ¬ qi 1 = 0 from fun h => by have := (q_eq (a := 1) (b := 0) (by omega) (by omega)).mp h; omega), if_neg (show ¬ qi 1 = 0 from fun h => by have := (q_eq (a := 1) (b := 0) (by omega) (by omega)).mp h; omega), if_pos hok, t6]
  unfold f_X10_ring_17
  have h1 := JJ_gr (n' := n + 1) (K' := kU K n 100) (N' := kU N n 6) (G' := kU G n zn0) (V' := kU V n (fun _ => 0)) h (by omega) (by rw [kU_ne (by omega)]; exact hK) (fun w hw => kU_ne (by omega)) (fun w hw => kU_ne (by omega)) (fun w _ hw => kU_ne (by omega))
  obtain ⟨⟨-, -, hx1, g21, hu2, -⟩, -⟩ := id h1.1
  obtain ⟨⟨k1, k2, -, -⟩, -⟩ := id h1.2.1
  have e5 : kU G n zn0 0 5 = some 6 := hx1.1.2.1
  have hNn : kU N n 6 n = 6 := kU_same
  rw [g21, e5]
  simp only [o_bind]
  rw [cs_open (L := kU L n (fun _ => 0)) hx1 hu2 k1 k2 hU hA, o_bind]
  refine zX_callL (cs_sring (q := n) (c := a) (K := kU K n 100) (N := kU N n 6) (G := kU G n zn0) (V := kU V n (fun _ => 0)) (L := kU L n (fun _ => 0)) opO_b (by omega) (by omega) hNn) ?_
  rintro ⟨y, n1, cc, qq, K1, N1, G1, V1, L1⟩ ⟨s, m, s1, s2, s3, s4, s5, s6, s7, s8, s9, s10⟩
  dsimp only at s1 s2 s3 s4 s5 s6 s7 s8 s9 s10 ⊢
  subst s4 s5 s6 s7 s8 s9
  have hN2 : kU (kU N n 6) (n + 1) 6 n = 6 := by rw [kU_ne (by omega)]; exact hNn
  refine zX_callR (r_asHeld gr gt hU hA) ?_
  rintro ⟨R0, M0⟩ ⟨p1, p2, p3⟩
  dsimp only at p1 p2 p3 ⊢
  subst p3
  have hg0 : gR (z_uI R0 32 0 (qi a)) (opO U A) := fun k hk => by rw [z_neP (by omega)]; exact p1 k hk
  have hR := r_ringL (k := a2) (M := M0) (c := a) (by omega) hg0 z_same
  have hfin : ∀ (y : Int32) (R2 : zI), (∀ w, w ≠ 32 → R2 w = z_uI R0 32 0 (qi a) w) → JQ (n + 1 + 1, 0 + 1 + 1, 0 + 6 + 6, kU (kU K n 100) (n + 1) 100, kU (kU N n 6) (n + 1) 6, kU (kU G n zn0) (n + 1) zn0, V1, L1) R2 M0 := by
    intro y R2 hw
    refine JQ_mk (by omega) (by omega) ⟨u, b, f0, cnt, acts, x, pl, U, A, hi, ?_⟩
    have h2 := JJ_gr (n' := n + 1 + 1) (K' := kU (kU K n 100) (n + 1) 100) (N' := kU (kU N n 6) (n + 1) 6) (G' := kU (kU G n zn0) (n + 1) zn0) (V' := V1) h (by omega) (by rw [kU_ne (by omega), kU_ne (by omega)]; exact hK) (fun w hw => by rw [kU_ne (by omega), kU_ne (by omega)]) (fun w hw => by rw [kU_ne (by omega), kU_ne (by omega)]) (fun w _ hw => by rw [s10 w (by omega) (by omega), kU_ne (by omega)])
    exact JJ_core h2 (fun _ _ _ => rfl) (cR_pl (fun w hw' => by rw [hw w (by omega), z_neP (by omega)]; exact p2 w (by omega))) ⟨rfl, rfl⟩
  have hR' : zW (zfix b_ring_26 FU (a2, 1, 2, z_uI R0 32 ((0 : Int32)).toNatClampNeg (qi a), M0)) (fun r => (∃ ans, rgT (opO U A) a ans ∧ r.1 = rgA a a2 ans) ∧ (∀ w, w ≠ 32 → r.2.1 w = z_uI R0 32 0 (qi a) w) ∧ r.2.2 = M0) := hR
  refine zX_R hR' ?_
  rintro ⟨y2, R2, M2⟩ ⟨⟨ans, t1, t2⟩, t3, t4⟩
  dsimp only at t1 t2 t3 t4
  subst t2 t4
  unfold f_X10_ring_34
  rcases s3 with ⟨c1, rfl⟩ | ⟨c1, rfl, row, c2, c3⟩
  · have ea := rgT_n s1 s2 c1 (by omega) t1
    rw [ea]
    have hbad : zX (some ((-1 : Int32), n + 1 + 1, 0 + 1 + 1, 0 + 6 + 6, kU (kU K n 100) (n + 1) 100, kU (kU N n 6) (n + 1) 6, kU (kU G n zn0) (n + 1) zn0, V1, L1)) (some (rgA a a2 none, R2, M2)) (fun r r' => r.1 = r'.1 ∧ JQ r.2 r'.2.1 r'.2.2) := by
      refine zX_some ?_
      dsimp only
      exact ⟨rfl, hfin 0 R2 t3⟩
    by_cases hkm : a2 = -1
    · rw [if_pos hkm, if_pos (show qi 0 ≤ 0 from (q_le (a := 0) (b := 0) (by omega) (by omega)).mpr (Nat.le_refl _))]
      exact hbad
    · rw [if_neg hkm]
      rcases q_cases a2 with hk | ⟨i, hi', rfl⟩
      · rw [if_pos (show a2 < 0 from hk)]
        exact hbad
      · have hk0 : ¬ qi i < 0 := fun h => by have := (q_lt (a := i) (b := 0) (by omega) (by omega)).mp h; omega
        rw [if_neg hk0, if_pos ((q_le (by omega) (by omega)).mpr (Nat.zero_le _))]
        exact hbad
  · obtain ⟨r, ea, er⟩ := rgT_s s1 s2 c1 (by omega) (opO_irr hU (by omega)) c2 t1
    rw [ea]
    have hj := hfin 0 R2 t3
    by_cases hkm : a2 = -1
    · have hkm' : a2 = qm := hkm
      rw [if_pos hkm, if_neg (show ¬ qi (1 + m) ≤ 0 from fun h => by have := (q_le (a := 1 + m) (b := 0) (by omega) (by omega)).mp h; omega)]
      refine zX_some ?_
      dsimp only
      refine ⟨?_, hj⟩
      unfold rgA
      dsimp only
      rw [if_pos hkm']
    · have hkm' : ¬ a2 = qm := hkm
      rw [if_neg hkm]
      rcases q_cases a2 with hk | ⟨i, hi', rfl⟩
      · rw [if_pos (show a2 < 0 from hk)]
        refine zX_some ?_
        dsimp only
        refine ⟨?_, hj⟩
        unfold rgA
        dsimp only
        rw [if_neg hkm', if_pos hk]
        rfl
      · have hk0 : ¬ qi i < 0 := fun h => by have := (q_lt (a := i) (b := 0) (by omega) (by omega)).mp h; omega
        have hk0' : ¬ qi i < qi 0 := hk0
        rw [if_neg hk0]
        by_cases hil : 1 + m ≤ i
        · have hle : qi (1 + m) ≤ qi i := (q_le (by omega) (by omega)).mpr hil
          rw [if_pos hle]
          refine zX_some ?_
          dsimp only
          refine ⟨?_, hj⟩
          unfold rgA
          dsimp only
          rw [if_neg hkm', if_neg hk0', if_pos hle]
          rfl
        · have hle : ¬ qi (1 + m) ≤ qi i := fun h => hil ((q_le (by omega) (by omega)).mp h)
          rw [if_neg hle, hN2, if_neg (show ¬ Int32.ofNat 6 ≤ qi i from fun h => by have := (q_le (a := 6) (b := i) (by omega) (by omega)).mp h; omega), if_pos (q_inP (by omega) (by omega))]
          refine zX_some ?_
          dsimp only
          refine ⟨?_, hj⟩
          unfold rgA
          dsimp only
          rw [if_neg hkm', if_neg hk0', if_neg hle, q_nn (by omega), c3 i (by omega), er i (by omega)]
end
