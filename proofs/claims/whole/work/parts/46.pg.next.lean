section
theorem SB_held {U : aU} {A : aS} (h : SB U A) {k : Nat} (hk : k < 36) : A.2.1 k ≤ 99 := (h.2.1 k hk).1
theorem SB_m {U : aU} {A : aS} (h : SB U A) : A.2.2.2.2.1 ≤ 60 := h.1.2.1
theorem SB_day {U : aU} {A : aS} (h : SB U A) : A.1 ≤ 999 := h.1.1
theorem UB_tw {U : aU} (h : UB U) : U.1 ≤ 6 := h.1.1
theorem zopt_n {α : Type} {a : α} {f : Nat → α} : zopt none a f = a := rfl
theorem zopt_s {α : Type} {a : α} {f : Nat → α} {v : Nat} : zopt (some v) a f = f v := rfl
theorem rv_n {U : aU} {A : aS} {r k : Nat} {h : Int} (hl : U.2.2.2.2.2.1 r = none) : rv U A r k h = if r = 1 then 0 else 1 := by
  unfold rv
  rw [hl]
/-- can one write: a way, a stamp, the test -/
theorem c_can {N : Nat → Nat} {G : zG} {V V1 : zI} {L : zL} {u s k : Nat} {U : aU} {A : aS} (hx : fxS N G) (hu : unS N G u) (hs : stS N G s) (hs2 : s + 7 ≤ 21 ∨ 22 ≤ s) (hC : UC N G V u U) (hS : SC V s A) (hU : UB U) (hA : SB U A) (hk : k < 36) (h1 : ∀ w, w ≠ 21 → V1 w = V w) : zW (f_X4_canWrite N G 20 u s (qi k) V1 L) (fun x => x.1 = (if 0 < U.2.2.1 k ∧ 0 < A.2.1 k ∧ rv U A 0 k (A.2.1 k) ≠ 0 then qi 1 else qi 0) ∧ x.2.2 = L ∧ ∀ w, w ≠ 21 → x.2.1 w = V w) := by
  have hrv := rv_b (r := 0) (h := A.2.1 k) (by omega) hU hA hk (by have := SB_held hA hk; omega)
  have hrl := fun p hp => c_rule (L := L) (x3 := qi 1) (r := 0) (p := p) (h := A.2.1 k) hx hu hs hs2 hC hS hU hA hk (by have := SB_held hA hk; omega) (by omega) hp h1
  have hn0 : U.2.2.2.2.2.1 0 = none → rv U A 0 k (A.2.1 k) = 1 := fun h => by rw [rv_n h]; rfl
  obtain ⟨tw, ct, way, encl, lost, rul, nam⟩ := U
  obtain ⟨day, held, sent, got, m, mp, ml, kn, kc⟩ := A
  obtain ⟨-, ⟨-, -, g7⟩, -, -, n3⟩ := id hu
  obtain ⟨⟨g1, -⟩, n1, -⟩ := id hs
  have hwy := (hU.2.1 k hk).1
  have hhl := (hA.2.1 k hk).1
  have e3 : V1 (u + 3) k = qi (way k) := by rw [h1 (u + 3) (by have := hu.1; omega)]; exact hC.2.1 k hk
  have e1 : V1 (s + 1) k = qi (held k) := by rw [h1 (s + 1) (by omega)]; exact hS.2.1 k hk
  unfold f_X4_canWrite g_X4_canWrite
  dsimp only at hrv hrl hn0 ⊢
  by_cases hw0 : way k ≤ 0
  · have hw0' : ¬ 0 < way k := by omega
    simp (disch := omega) only [g7, g1, ↓reduceIte, o_bind, and_true, true_and, and_false, false_and, or_true, true_or, or_false, false_or, not_true, not_false_eq_true, not_false_iff, ne_eq, Nat.reduceAdd, Nat.reduceMul, Nat.reduceSub, Nat.reduceDiv, Nat.reduceMod, Nat.reduceLT, Nat.reduceLeDiff, Nat.reduceEqDiff, Nat.not_lt, Nat.not_le, q_lit, ↓q_m1, q_om, q_on, q_add, q_mul, q_sub, q_div, q_md, q_ltT, q_ltF, q_leT, q_leF, q_eqT, q_eqF, q_inT, q_inF, q_nn, q_mlt, q_ltm, q_mle, q_lem, q_nem, q_mne, z_same, z_neP, z_neK, zL_same, zL_neP, zL_neK, zr_same, zr_ne, n3, n1, e3, e1, hw0']
    exact zW_some ⟨rfl, rfl, h1⟩
  have hw0' : 0 < way k := by omega
  by_cases hh0 : held k ≤ 0
  · have hh0' : ¬ 0 < held k := by omega
    simp (disch := omega) only [g7, g1, ↓reduceIte, o_bind, and_true, true_and, and_false, false_and, or_true, true_or, or_false, false_or, not_true, not_false_eq_true, not_false_iff, ne_eq, Nat.reduceAdd, Nat.reduceMul, Nat.reduceSub, Nat.reduceDiv, Nat.reduceMod, Nat.reduceLT, Nat.reduceLeDiff, Nat.reduceEqDiff, Nat.not_lt, Nat.not_le, q_lit, ↓q_m1, q_om, q_on, q_add, q_mul, q_sub, q_div, q_md, q_ltT, q_ltF, q_leT, q_leF, q_eqT, q_eqF, q_inT, q_inF, q_nn, q_mlt, q_ltm, q_mle, q_lem, q_nem, q_mne, z_same, z_neP, z_neK, zL_same, zL_neP, zL_neK, zr_same, zr_ne, n3, n1, e3, e1, hh0']
    exact zW_some ⟨rfl, rfl, h1⟩
  have hh0' : 0 < held k := by omega
  simp (disch := omega) only [g7, g1, ↓reduceIte, o_bind, and_true, true_and, and_false, false_and, or_true, true_or, or_false, false_or, not_true, not_false_eq_true, not_false_iff, ne_eq, Nat.reduceAdd, Nat.reduceMul, Nat.reduceSub, Nat.reduceDiv, Nat.reduceMod, Nat.reduceLT, Nat.reduceLeDiff, Nat.reduceEqDiff, Nat.not_lt, Nat.not_le, q_lit, ↓q_m1, q_om, q_on, q_add, q_mul, q_sub, q_div, q_md, q_ltT, q_ltF, q_leT, q_leF, q_eqT, q_eqF, q_inT, q_inF, q_nn, q_mlt, q_ltm, q_mle, q_lem, q_nem, q_mne, z_same, z_neP, z_neK, zL_same, zL_neP, zL_neK, zr_same, zr_ne, n3, n1, e3, e1, hw0', hh0']
  cases hl : rul 0 with
  | none =>
    have hr := hn0 hl
    have g8 : G u 8 = none := (hC.2.2.2 0 (by omega)).1 hl
    simp (disch := omega) only [g8, zopt_n, f_X4_reckon_n, g_X4_reckon_n, ↓reduceIte, o_bind, and_true, true_and, and_false, false_and, or_true, true_or, or_false, false_or, not_true, not_false_eq_true, not_false_iff, ne_eq, Nat.reduceAdd, Nat.reduceMul, Nat.reduceSub, Nat.reduceDiv, Nat.reduceMod, Nat.reduceLT, Nat.reduceLeDiff, Nat.reduceEqDiff, Nat.not_lt, Nat.not_le, q_lit, ↓q_m1, q_om, q_on, q_add, q_mul, q_sub, q_div, q_md, q_ltT, q_ltF, q_leT, q_leF, q_eqT, q_eqF, q_inT, q_inF, q_nn, q_mlt, q_ltm, q_mle, q_lem, q_nem, q_mne, z_same, z_neP, z_neK, zL_same, zL_neP, zL_neK, zr_same, zr_ne, hr]
    exact zW_some ⟨by simp, rfl, h1⟩
  | some l =>
    obtain ⟨p, g8, -⟩ := (hC.2.2.2 0 (by omega)).2 l hl
    have g8' : G u 8 = some p := g8
    simp only [g8', zopt_s]
    rw [qi_z (held k)]
    refine zW_call (hrl p g8) ?_
    rintro ⟨y1, y2, y3⟩ ⟨a1, a2, a3⟩
    dsimp only at a1 a2 a3 ⊢
    subst a1
    have e0 : (qz (rv (tw, ct, way, encl, lost, rul, nam) (day, held, sent, got, m, mp, ml, kn, kc) 0 k (held k)) = qi 0) ↔ rv (tw, ct, way, encl, lost, rul, nam) (day, held, sent, got, m, mp, ml, kn, kc) 0 k (held k) = 0 := by rw [qi_z, qz_eq] <;> omega
    generalize rv (tw, ct, way, encl, lost, rul, nam) (day, held, sent, got, m, mp, ml, kn, kc) 0 k (held k) = z at *
    by_cases hz : z = 0
    · simp only [↓reduceIte, o_bind, and_true, true_and, and_false, false_and, or_true, true_or, or_false, false_or, not_true, not_false_eq_true, not_false_iff, ne_eq, Nat.reduceAdd, Nat.reduceMul, Nat.reduceSub, Nat.reduceDiv, Nat.reduceMod, Nat.reduceLT, Nat.reduceLeDiff, Nat.reduceEqDiff, Nat.not_lt, Nat.not_le, q_lit, ↓q_m1, q_om, q_on, q_add, q_mul, q_sub, q_div, q_md, q_ltT, q_ltF, q_leT, q_leF, q_eqT, q_eqF, q_inT, q_inF, q_nn, q_mlt, q_ltm, q_mle, q_lem, q_nem, q_mne, e0, hz]
      exact zW_some ⟨rfl, a2, a3⟩
    · simp only [↓reduceIte, o_bind, and_true, true_and, and_false, false_and, or_true, true_or, or_false, false_or, not_true, not_false_eq_true, not_false_iff, ne_eq, Nat.reduceAdd, Nat.reduceMul, Nat.reduceSub, Nat.reduceDiv, Nat.reduceMod, Nat.reduceLT, Nat.reduceLeDiff, Nat.reduceEqDiff, Nat.not_lt, Nat.not_le, q_lit, ↓q_m1, q_om, q_on, q_add, q_mul, q_sub, q_div, q_md, q_ltT, q_ltF, q_leT, q_leF, q_eqT, q_eqF, q_inT, q_inF, q_nn, q_mlt, q_ltm, q_mle, q_lem, q_nem, q_mne, e0, hz]
      exact zW_some ⟨rfl, a2, a3⟩
/-- to which town one writes -/
def nxS (U : aU) (A : aS) (a i : Nat) (x : Option Nat × Int) : Option Nat × Int := if 0 < U.2.2.1 (6 * a + i) ∧ 0 < A.2.1 (6 * a + i) ∧ rv U A 0 (6 * a + i) (A.2.1 (6 * a + i)) ≠ 0 then (if x.1 = none ∨ x.2 < rv U A 1 (6 * a + i) (A.2.1 (6 * a + i)) then (some i, rv U A 1 (6 * a + i) (A.2.1 (6 * a + i))) else x) else x
def nxF (U : aU) (A : aS) (a : Nat) : Nat → Option Nat × Int
  | 0 => (none, 0)
  | i + 1 => nxS U A a i (nxF U A a i)
def tgt (U : aU) (A : aS) (a : Nat) : Option Nat := if A.2.2.2.2.1 = 60 then none else (nxF U A a U.1).1
def oi (o : Option Nat) : Int32 := match o with
  | none => qm
  | some b => qi b
theorem oi_m {o : Option Nat} (h : ∀ b, o = some b → b < 2147483648) : (oi o = qm) ↔ o = none := by
  cases o with
  | none => simp [oi]
  | some b => simp only [oi, reduceCtorEq, iff_false]; exact q_nem (h b rfl)
theorem nxF_b {U : aU} {A : aS} (hU : UB U) (hA : SB U A) {a : Nat} (ha : a < U.1) : ∀ i, i ≤ U.1 → (-1000000 ≤ (nxF U A a i).2 ∧ (nxF U A a i).2 ≤ 1000000) ∧ ∀ b, (nxF U A a i).1 = some b → b < U.1 ∧ 0 < U.2.2.1 (6 * a + b) ∧ 0 < A.2.1 (6 * a + b) := by
  intro i
  induction i with
  | zero => intro _; exact ⟨by simp only [nxF]; omega, fun b h => by simp [nxF] at h⟩
  | succ i ih =>
    intro hi
    obtain ⟨h1, h2⟩ := ih (by omega)
    have htw := UB_tw hU
    have hk : 6 * a + i < 36 := by omega
    have hr := rv_b (r := 1) (h := A.2.1 (6 * a + i)) (by omega) hU hA hk (by have := SB_held hA hk; omega)
    show (-1000000 ≤ (nxS U A a i (nxF U A a i)).2 ∧ _) ∧ _
    simp only [nxF]
    unfold nxS
    split
    · rename_i hc
      split
      · refine ⟨hr.1, fun b hb => ?_⟩
        cases hb
        exact ⟨by omega, hc.1, hc.2.1⟩
      · exact ⟨h1, h2⟩
    · exact ⟨h1, h2⟩
theorem tgt_b {U : aU} {A : aS} (hU : UB U) (hA : SB U A) {a : Nat} (ha : a < U.1) {b : Nat} (h : tgt U A a = some b) : A.2.2.2.2.1 < 60 ∧ b < U.1 ∧ 0 < U.2.2.1 (6 * a + b) ∧ 0 < A.2.1 (6 * a + b) := by
  unfold tgt at h
  split at h
  · cases h
  · have hm := SB_m hA
    exact ⟨by omega, (nxF_b hU hA ha U.1 (Nat.le_refl _)).2 b h⟩
set_option maxHeartbeats 4000000 in
theorem c_next {N : Nat → Nat} {G : zG} {V V1 : zI} {L : zL} {u s a : Nat} {U : aU} {A : aS} (hx : fxS N G) (hu : unS N G u) (hs : stS N G s) (hs2 : s + 7 ≤ 21 ∨ 22 ≤ s) (hC : UC N G V u U) (hS : SC V s A) (hU : UB U) (hA : SB U A) (ha : a < U.1) (h1 : ∀ w, w ≠ 21 → V1 w = V w) : zW (f_X4_targetOf N G 20 u s (qi a) V1 L) (fun x => x.1 = oi (tgt U A a) ∧ x.2.2 = L ∧ ∀ w, w ≠ 21 → x.2.1 w = V w) := by
  have htw := UB_tw hU
  have hm := SB_m hA
  have e4 : V1 s 4 = qi A.2.2.2.2.1 := by rw [h1 s (by omega)]; exact hS.1.2.1
  have g1 : G s 1 = some (s + 1) := hs.1.1
  have n1 : N (s + 1) = 36 := hs.2.1
  unfold f_X4_targetOf g_X4_targetOf tgt
  by_cases hm0 : A.2.2.2.2.1 = 60
  · simp (disch := omega) only [g1, ↓reduceIte, o_bind, and_true, true_and, and_false, false_and, or_true, true_or, or_false, false_or, not_true, not_false_eq_true, not_false_iff, ne_eq, Nat.reduceAdd, Nat.reduceMul, Nat.reduceSub, Nat.reduceDiv, Nat.reduceMod, Nat.reduceLT, Nat.reduceLeDiff, Nat.reduceEqDiff, Nat.not_lt, Nat.not_le, q_lit, ↓q_m1, q_om, q_on, q_add, q_mul, q_sub, q_div, q_md, q_ltT, q_ltF, q_leT, q_leF, q_eqT, q_eqF, q_inT, q_inF, q_nn, q_mlt, q_ltm, q_mle, q_lem, q_nem, q_mne, z_same, z_neP, z_neK, zL_same, zL_neP, zL_neK, zr_same, zr_ne, e4, hm0]
    exact zW_some ⟨rfl, rfl, h1⟩
  have hm1 : A.2.2.2.2.1 < 60 := by omega
  simp (disch := omega) only [g1, ↓reduceIte, o_bind, and_true, true_and, and_false, false_and, or_true, true_or, or_false, false_or, not_true, not_false_eq_true, not_false_iff, ne_eq, Nat.reduceAdd, Nat.reduceMul, Nat.reduceSub, Nat.reduceDiv, Nat.reduceMod, Nat.reduceLT, Nat.reduceLeDiff, Nat.reduceEqDiff, Nat.not_lt, Nat.not_le, q_lit, ↓q_m1, q_om, q_on, q_add, q_mul, q_sub, q_div, q_md, q_ltT, q_ltF, q_leT, q_leF, q_eqT, q_eqF, q_inT, q_inF, q_nn, q_mlt, q_ltm, q_mle, q_lem, q_nem, q_mne, z_same, z_neP, z_neK, zL_same, zL_neP, zL_neK, zr_same, zr_ne, e4, hm0]
  refine zW_lp (I := fun r st => ∃ (i : Nat) (V2 : zI), i ≤ U.1 ∧ r = U.1 - i ∧ st = (qi a, oi (nxF U A a i).1, qz (nxF U A a i).2, qi i, V2, L) ∧ ∀ w, w ≠ 21 → V2 w = V w) ?_ FU U.1 _ ⟨0, V1, by omega, by omega, rfl, h1⟩ (FU_big (by omega))
  rintro k r st ⟨i, V2, hi, rfl, rfl, h2⟩ ih
  have e0 : V2 u 0 = qi U.1 := by rw [h2 u (by have := hu.1; omega)]; exact hC.1.1
  by_cases hend : i = U.1
  · simp (disch := omega) only [b_X4_targetOf_20, e0, hend, ↓reduceIte, o_bind, and_true, true_and, and_false, false_and, or_true, true_or, or_false, false_or, not_true, not_false_eq_true, not_false_iff, ne_eq, Nat.reduceAdd, Nat.reduceMul, Nat.reduceSub, Nat.reduceDiv, Nat.reduceMod, Nat.reduceLT, Nat.reduceLeDiff, Nat.reduceEqDiff, Nat.not_lt, Nat.not_le, q_lit, ↓q_m1, q_om, q_on, q_add, q_mul, q_sub, q_div, q_md, q_ltT, q_ltF, q_leT, q_leF, q_eqT, q_eqF, q_inT, q_inF, q_nn, q_mlt, q_ltm, q_mle, q_lem, q_nem, q_mne, z_same, z_neP, z_neK, zL_same, zL_neP, zL_neK, zr_same, zr_ne, Nat.le_refl]
    exact zW_some ⟨rfl, rfl, h2⟩
  have hi' : ¬ U.1 ≤ i := by omega
  have hk : 6 * a + i < 36 := by omega
  have hka : a * 6 + i = 6 * a + i := by omega
  have hh := SB_held hA hk
  have hb1 := nxF_b hU hA ha i (by omega)
  have hr1 := rv_b (r := 1) (h := A.2.1 (6 * a + i)) (by omega) hU hA hk (by omega)
  have hgo : ∀ V3 : zI, (∀ w, w ≠ 21 → V3 w = V w) → zW (k (qi a, oi (nxF U A a (i + 1)).1, qz (nxF U A a (i + 1)).2, qi (i + 1), V3, L)) (fun x => x.1 = oi (nxF U A a U.1).1 ∧ x.2.2 = L ∧ ∀ w, w ≠ 21 → x.2.1 w = V w) := fun V3 h3 => ih (U.1 - (i + 1)) _ (by omega) ⟨i + 1, V3, by omega, rfl, rfl, h3⟩
  simp (disch := omega) only [b_X4_targetOf_20, e0, hi', ↓reduceIte, o_bind, and_true, true_and, and_false, false_and, or_true, true_or, or_false, false_or, not_true, not_false_eq_true, not_false_iff, ne_eq, Nat.reduceAdd, Nat.reduceMul, Nat.reduceSub, Nat.reduceDiv, Nat.reduceMod, Nat.reduceLT, Nat.reduceLeDiff, Nat.reduceEqDiff, Nat.not_lt, Nat.not_le, q_lit, ↓q_m1, q_om, q_on, q_add, q_mul, q_sub, q_div, q_md, q_ltT, q_ltF, q_leT, q_leF, q_eqT, q_eqF, q_inT, q_inF, q_nn, q_mlt, q_ltm, q_mle, q_lem, q_nem, q_mne, z_same, z_neP, z_neK, zL_same, zL_neP, zL_neK, zr_same, zr_ne, hka]
  refine zW_call (c_can hx hu hs hs2 hC hS hU hA hk h2) ?_
  rintro ⟨y1, V3, y3⟩ ⟨a1, a2, h3⟩
  dsimp only at a1 a2 h3 ⊢
  subst a1
  replace a2 := a2.symm
  subst a2
  by_cases hcan : 0 < U.2.2.1 (6 * a + i) ∧ 0 < A.2.1 (6 * a + i) ∧ rv U A 0 (6 * a + i) (A.2.1 (6 * a + i)) ≠ 0
  · have en : nxF U A a (i + 1) = if (nxF U A a i).1 = none ∨ (nxF U A a i).2 < rv U A 1 (6 * a + i) (A.2.1 (6 * a + i)) then (some i, rv U A 1 (6 * a + i) (A.2.1 (6 * a + i))) else nxF U A a i := by
      show nxS U A a i (nxF U A a i) = _
      unfold nxS
      rw [if_pos hcan]
    rw [en] at hgo
    have e1 : V3 (s + 1) (6 * a + i) = qi (A.2.1 (6 * a + i)) := by rw [h3 (s + 1) (by omega)]; exact hS.2.1 _ hk
    have em := oi_m (o := (nxF U A a i).1) (fun b hb => by have := (hb1.2 b hb).1; omega)
    simp (disch := omega) only [hcan, and_self, n1, e1, ↓reduceIte, o_bind, and_true, true_and, and_false, false_and, or_true, true_or, or_false, false_or, not_true, not_false_eq_true, not_false_iff, ne_eq, Nat.reduceAdd, Nat.reduceMul, Nat.reduceSub, Nat.reduceDiv, Nat.reduceMod, Nat.reduceLT, Nat.reduceLeDiff, Nat.reduceEqDiff, Nat.not_lt, Nat.not_le, q_lit, ↓q_m1, q_om, q_on, q_add, q_mul, q_sub, q_div, q_md, q_ltT, q_ltF, q_leT, q_leF, q_eqT, q_eqF, q_inT, q_inF, q_nn, q_mlt, q_ltm, q_mle, q_lem, q_nem, q_mne, z_same, z_neP, z_neK, zL_same, zL_neP, zL_neK, zr_same, zr_ne]
    have tail : ∀ V4 : zI, (∀ w, w ≠ 21 → V4 w = V w) → zW (if oi (nxF U A a i).1 = qm then f_X4_targetOf_84 N G 20 u s (s + 1) k (qi a) (qi i) (qz (rv U A 1 (6 * a + i) (A.2.1 (6 * a + i)))) V4 L else if qz (rv U A 1 (6 * a + i) (A.2.1 (6 * a + i))) ≤ qz (nxF U A a i).2 then k (qi a, oi (nxF U A a i).1, qz (nxF U A a i).2, qi (i + 1), V4, L) else f_X4_targetOf_84 N G 20 u s (s + 1) k (qi a) (qi i) (qz (rv U A 1 (6 * a + i) (A.2.1 (6 * a + i)))) V4 L) (fun x => x.1 = oi (nxF U A a U.1).1 ∧ x.2.2 = L ∧ ∀ w, w ≠ 21 → x.2.1 w = V w) := by
      intro V4 h4
      have h5 := hgo V4 h4
      simp (disch := omega) only [em, f_X4_targetOf_84, q_lit, ↓q_m1, q_om, q_on, q_add, q_mul, q_sub, q_div, q_md, q_ltT, q_ltF, q_leT, q_leF, q_eqT, q_eqF, q_inT, q_inF, q_nn, q_mlt, q_ltm, q_mle, q_lem, q_nem, q_mne, qz_le]
      by_cases hnone : (nxF U A a i).1 = none
      · simp only [hnone, true_or, ↓reduceIte] at h5 ⊢
        exact h5
      · by_cases hlt : (nxF U A a i).2 < rv U A 1 (6 * a + i) (A.2.1 (6 * a + i))
        · have hlt' : ¬ rv U A 1 (6 * a + i) (A.2.1 (6 * a + i)) ≤ (nxF U A a i).2 := by omega
          simp only [hnone, hlt, hlt', or_true, ↓reduceIte] at h5 ⊢
          exact h5
        · have hlt' : rv U A 1 (6 * a + i) (A.2.1 (6 * a + i)) ≤ (nxF U A a i).2 := by omega
          simp only [hnone, hlt, hlt', or_false, ↓reduceIte] at h5 ⊢
          exact h5
    cases hl : U.2.2.2.2.2.1 1 with
    | none =>
      have g9 : G u 9 = none := (hC.2.2.2 1 (by omega)).1 hl
      have hz : rv U A 1 (6 * a + i) (A.2.1 (6 * a + i)) = 0 := by rw [rv_n hl]; rfl
      rw [hz] at tail
      have t2 := tail V3 h3
      simp only [g9, zopt_n, f_X4_reckon_n, g_X4_reckon_n, o_bind]
      exact t2
    | some l =>
      obtain ⟨p, g9, -⟩ := (hC.2.2.2 1 (by omega)).2 l hl
      have g9' : G u 9 = some p := g9
      simp only [g9', zopt_s]
      rw [qi_z (A.2.1 (6 * a + i))]
      refine zW_call (c_rule (r := 1) hx hu hs hs2 hC hS hU hA hk (by omega) (by omega) g9 h3) ?_
      rintro ⟨y1, V4, y4⟩ ⟨b1, b2, h4⟩
      dsimp only at b1 b2 h4 ⊢
      subst b1
      replace b2 := b2.symm
      subst b2
      exact tail V4 h4
  · have en : nxF U A a (i + 1) = nxF U A a i := by
      show nxS U A a i (nxF U A a i) = _
      unfold nxS
      rw [if_neg hcan]
    rw [en] at hgo
    simp only [hcan, ↓reduceIte, q_lit, ↓q_m1, q_om, q_on, q_add, q_mul, q_sub, q_div, q_md, q_ltT, q_ltF, q_leT, q_leF, q_eqT, q_eqF, q_inT, q_inF, q_nn, q_mlt, q_ltm, q_mle, q_lem, q_nem, q_mne]
    exact hgo V3 h3
set_option maxHeartbeats 4000000 in
theorem r_next {V V1 : zI} {L L1 : zL} {v b a : Nat} {U : aU} {A : aS} (hv : v < 22) (hR : UR V L b U) (hS : SR V v A) (hU : UB U) (hA : SB U A) (ha : a < U.1) (h1 : ∀ w, w ≠ 29 → V1 w = V w) (l1 : ∀ w, w ≠ 28 → L1 w = L w) : zW (f_nextOf (qi v) (qi a) V1 L1) (fun x => x.1 = oi (tgt U A a) ∧ (∀ w, w ≠ 29 → x.2.1 w = V w) ∧ ∀ w, w ≠ 28 → x.2.2 w = L w) := by
  have htw := UB_tw hU
  have hm := SB_m hA
  have e4 : V1 24 v = qi A.2.2.2.2.1 := by rw [h1 24 (by omega)]; exact hS.1.2.1
  unfold f_nextOf tgt
  by_cases hm0 : A.2.2.2.2.1 = 60
  · simp (disch := omega) only [↓reduceIte, o_bind, and_true, true_and, and_false, false_and, or_true, true_or, or_false, false_or, not_true, not_false_eq_true, not_false_iff, ne_eq, Nat.reduceAdd, Nat.reduceMul, Nat.reduceSub, Nat.reduceDiv, Nat.reduceMod, Nat.reduceLT, Nat.reduceLeDiff, Nat.reduceEqDiff, Nat.not_lt, Nat.not_le, q_lit, ↓q_m1, q_om, q_on, q_add, q_mul, q_sub, q_div, q_md, q_ltT, q_ltF, q_leT, q_leF, q_eqT, q_eqF, q_inT, q_inF, q_nn, q_mlt, q_ltm, q_mle, q_lem, q_nem, q_mne, z_same, z_neP, z_neK, zL_same, zL_neP, zL_neK, zr_same, zr_ne, e4, hm0]
    exact zW_some ⟨rfl, h1, l1⟩
  simp (disch := omega) only [↓reduceIte, o_bind, and_true, true_and, and_false, false_and, or_true, true_or, or_false, false_or, not_true, not_false_eq_true, not_false_iff, ne_eq, Nat.reduceAdd, Nat.reduceMul, Nat.reduceSub, Nat.reduceDiv, Nat.reduceMod, Nat.reduceLT, Nat.reduceLeDiff, Nat.reduceEqDiff, Nat.not_lt, Nat.not_le, q_lit, ↓q_m1, q_om, q_on, q_add, q_mul, q_sub, q_div, q_md, q_ltT, q_ltF, q_leT, q_leF, q_eqT, q_eqF, q_inT, q_inF, q_nn, q_mlt, q_ltm, q_mle, q_lem, q_nem, q_mne, z_same, z_neP, z_neK, zL_same, zL_neP, zL_neK, zr_same, zr_ne, e4, hm0]
  refine zW_lp (I := fun r st => ∃ (i : Nat) (V2 : zI) (L2 : zL), i ≤ U.1 ∧ r = U.1 - i ∧ st = (qi v, qi a, oi (nxF U A a i).1, qZ (nxF U A a i).2, qi i, V2, L2) ∧ (∀ w, w ≠ 29 → V2 w = V w) ∧ ∀ w, w ≠ 28 → L2 w = L w) ?_ FU U.1 _ ⟨0, V1, L1, by omega, by omega, rfl, h1, l1⟩ (FU_big (by omega))
  rintro k r st ⟨i, V2, L2, hi, rfl, rfl, h2, l2⟩ ih
  have hfr : ∀ (V3 : zI) (L3 : zL), (∀ w, w ≠ 29 → V3 w = V w) → (∀ w, w ≠ 28 → L3 w = L w) → UR V3 L3 b U := fun V3 L3 h3 l3 => UR_fr hR (by rw [h3 0 (by omega)]) (fun w a1 a2 a3 a4 => h3 w (by omega)) (l3 12 (by omega))
  have hR2 := hfr V2 L2 h2 l2
  have hb : b < 2 := hR.1.1
  have e13 : V2 0 13 = qi b := hR2.1.2.1
  have e2 : V2 2 b = qi U.1 := hR2.1.2.2.1
  by_cases hend : i = U.1
  · simp (disch := omega) only [b_nextOf_21, e13, e2, hend, ↓reduceIte, o_bind, and_true, true_and, and_false, false_and, or_true, true_or, or_false, false_or, not_true, not_false_eq_true, not_false_iff, ne_eq, Nat.reduceAdd, Nat.reduceMul, Nat.reduceSub, Nat.reduceDiv, Nat.reduceMod, Nat.reduceLT, Nat.reduceLeDiff, Nat.reduceEqDiff, Nat.not_lt, Nat.not_le, q_lit, ↓q_m1, q_om, q_on, q_add, q_mul, q_sub, q_div, q_md, q_ltT, q_ltF, q_leT, q_leF, q_eqT, q_eqF, q_inT, q_inF, q_nn, q_mlt, q_ltm, q_mle, q_lem, q_nem, q_mne, z_same, z_neP, z_neK, zL_same, zL_neP, zL_neK, zr_same, zr_ne, Nat.le_refl]
    exact zW_some ⟨rfl, h2, l2⟩
  have hi' : ¬ U.1 ≤ i := by omega
  have hk : 6 * a + i < 36 := by omega
  have hka : 36 * v + 6 * a + i = 36 * v + (6 * a + i) := by omega
  have hh := SB_held hA hk
  have hb1 := nxF_b hU hA ha i (by omega)
  have hr1 := rv_b (r := 1) (h := A.2.1 (6 * a + i)) (by omega) hU hA hk (by omega)
  have hr0 := rv_b (r := 0) (h := A.2.1 (6 * a + i)) (by omega) hU hA hk (by omega)
  have hgo : ∀ (V3 : zI) (L3 : zL), (∀ w, w ≠ 29 → V3 w = V w) → (∀ w, w ≠ 28 → L3 w = L w) → zW (k (qi v, qi a, oi (nxF U A a (i + 1)).1, qZ (nxF U A a (i + 1)).2, qi (i + 1), V3, L3)) (fun x => x.1 = oi (nxF U A a U.1).1 ∧ (∀ w, w ≠ 29 → x.2.1 w = V w) ∧ ∀ w, w ≠ 28 → x.2.2 w = L w) := fun V3 L3 h3 l3 => ih (U.1 - (i + 1)) _ (by omega) ⟨i + 1, V3, L3, by omega, rfl, rfl, h3, l3⟩
  have hiw := f_isWay_e hR2 hU (x := a) (y := i) (by omega) (by omega) (by omega)
  have e21 : V2 21 (36 * v + (6 * a + i)) = qi (A.2.1 (6 * a + i)) := by rw [h2 21 (by omega)]; exact hS.2.1 _ hk
  have hno : ¬ (0 < U.2.2.1 (6 * a + i) ∧ 0 < A.2.1 (6 * a + i) ∧ rv U A 0 (6 * a + i) (A.2.1 (6 * a + i)) ≠ 0) → nxF U A a (i + 1) = nxF U A a i := by
    intro hcan
    show nxS U A a i (nxF U A a i) = _
    unfold nxS
    rw [if_neg hcan]
  simp (disch := omega) only [b_nextOf_21, e13, e2, hi', ↓reduceIte, o_bind, and_true, true_and, and_false, false_and, or_true, true_or, or_false, false_or, not_true, not_false_eq_true, not_false_iff, ne_eq, Nat.reduceAdd, Nat.reduceMul, Nat.reduceSub, Nat.reduceDiv, Nat.reduceMod, Nat.reduceLT, Nat.reduceLeDiff, Nat.reduceEqDiff, Nat.not_lt, Nat.not_le, q_lit, ↓q_m1, q_om, q_on, q_add, q_mul, q_sub, q_div, q_md, q_ltT, q_ltF, q_leT, q_leF, q_eqT, q_eqF, q_inT, q_inF, q_nn, q_mlt, q_ltm, q_mle, q_lem, q_nem, q_mne, z_same, z_neP, z_neK, zL_same, zL_neP, zL_neK, zr_same, zr_ne, hiw]
  by_cases hw0 : 0 < U.2.2.1 (6 * a + i)
  · simp (disch := omega) only [hw0, ↓reduceIte, o_bind, and_true, true_and, and_false, false_and, or_true, true_or, or_false, false_or, not_true, not_false_eq_true, not_false_iff, ne_eq, Nat.reduceAdd, Nat.reduceMul, Nat.reduceSub, Nat.reduceDiv, Nat.reduceMod, Nat.reduceLT, Nat.reduceLeDiff, Nat.reduceEqDiff, Nat.not_lt, Nat.not_le, q_lit, ↓q_m1, q_om, q_on, q_add, q_mul, q_sub, q_div, q_md, q_ltT, q_ltF, q_leT, q_leF, q_eqT, q_eqF, q_inT, q_inF, q_nn, q_mlt, q_ltm, q_mle, q_lem, q_nem, q_mne, z_same, z_neP, z_neK, zL_same, zL_neP, zL_neK, zr_same, zr_ne, f_at, hka, e21]
    by_cases hh0 : A.2.1 (6 * a + i) = 0
    · rw [hno (by omega)] at hgo
      simp only [hh0, ↓reduceIte]
      exact hgo V2 L2 h2 l2
    simp (disch := omega) only [q_eqF, ↓reduceIte]
    have htl := r_tells (A := A) (h := A.2.1 (6 * a + i)) hR2 hU hv (x := a) (y := i) (by omega) (by omega) (by omega) (by rw [h2 20 (by omega)]; exact hS.1.1) e21 (by rw [h2 22 (by omega)]; exact hS.2.2.1 _ hk) (by rw [h2 23 (by omega)]; exact hS.2.2.2.1 _ hk)
    refine zW_call htl ?_
    rintro ⟨V3, y3⟩ ⟨a1, h3, ask⟩
    dsimp only at a1 h3 ask ⊢
    subst a1
    replace h3 : ∀ w, w ≠ 29 → V3 w = V w := fun w hw => by rw [h3 w hw]; exact h2 w hw
    have hR3 := hfr V3 y3 h3 l2
    have em := oi_m (o := (nxF U A a i).1) (fun b hb => by have := (hb1.2 b hb).1; omega)
    have tail : rv U A 0 (6 * a + i) (A.2.1 (6 * a + i)) ≠ 0 → ∀ (V4 : zI) (L4 : zL), (∀ w, w ≠ 29 → V4 w = V w) → (∀ w, w ≠ 28 → L4 w = L w) → (∀ c, c < 5 → V4 29 (c + 1) = qz (fct U A (6 * a + i) (A.2.1 (6 * a + i)) c)) → zW (f_nextOf_93 k (qi v) (qi a) (oi (nxF U A a i).1) (qZ (nxF U A a i).2) (qi i) V4 L4) (fun x => x.1 = oi (nxF U A a U.1).1 ∧ (∀ w, w ≠ 29 → x.2.1 w = V w) ∧ ∀ w, w ≠ 28 → x.2.2 w = L w) := by
      intro hr0 V4 L4 h4 l4 ask4
      have hcan : 0 < U.2.2.1 (6 * a + i) ∧ 0 < A.2.1 (6 * a + i) ∧ rv U A 0 (6 * a + i) (A.2.1 (6 * a + i)) ≠ 0 := ⟨hw0, by omega, hr0⟩
      have en : nxF U A a (i + 1) = if (nxF U A a i).1 = none ∨ (nxF U A a i).2 < rv U A 1 (6 * a + i) (A.2.1 (6 * a + i)) then (some i, rv U A 1 (6 * a + i) (A.2.1 (6 * a + i))) else nxF U A a i := by
        show nxS U A a i (nxF U A a i) = _
        unfold nxS
        rw [if_pos hcan]
      rw [en] at hgo
      have t2 : ∀ (V5 : zI) (L5 : zL), (∀ w, w ≠ 29 → V5 w = V w) → (∀ w, w ≠ 28 → L5 w = L w) → zW (f_nextOf_110 k (qi v) (qi a) (oi (nxF U A a i).1) (qZ (nxF U A a i).2) (qi i) (qZ (rv U A 1 (6 * a + i) (A.2.1 (6 * a + i)))) V5 L5) (fun x => x.1 = oi (nxF U A a U.1).1 ∧ (∀ w, w ≠ 29 → x.2.1 w = V w) ∧ ∀ w, w ≠ 28 → x.2.2 w = L w) := by
        intro V5 L5 h5 l5
        have g5 := hgo V5 L5 h5 l5
        unfold f_nextOf_110 f_nextOf_128
        simp (disch := omega) only [↓lg_cmp_gt, qZ_lt, q_lit, ↓q_m1, q_om, q_on, q_add, q_mul, q_sub, q_div, q_md, q_ltT, q_ltF, q_leT, q_leF, q_eqT, q_eqF, q_inT, q_inF, q_nn, q_mlt, q_ltm, q_mle, q_lem, q_nem, q_mne, em]
        by_cases hnone : (nxF U A a i).1 = none
        · simp only [hnone, true_or, ↓reduceIte] at g5 ⊢
          exact g5
        · by_cases hlt : (nxF U A a i).2 < rv U A 1 (6 * a + i) (A.2.1 (6 * a + i))
          · simp only [hnone, hlt, or_true, ↓reduceIte] at g5 ⊢
            exact g5
          · simp only [hnone, hlt, or_false, ↓reduceIte] at g5 ⊢
            exact g5
      have hR4 := hfr V4 L4 h4 l4
      unfold f_nextOf_93
      cases hl : U.2.2.2.2.2.1 1 with
      | none =>
        have hz : rv U A 1 (6 * a + i) (A.2.1 (6 * a + i)) = 0 := by rw [rv_n hl]; rfl
        have t3 := t2 V4 L4 h4 l4
        rw [hz] at t3
        simp (disch := omega) only [q_lit, r_told0 hR4 (r := 1) (by omega) hl, ↓reduceIte, o_bind, and_true, true_and, and_false, false_and, or_true, true_or, or_false, false_or, not_true, not_false_eq_true, not_false_iff, ne_eq, Nat.reduceAdd, Nat.reduceMul, Nat.reduceSub, Nat.reduceDiv, Nat.reduceMod, Nat.reduceLT, Nat.reduceLeDiff, Nat.reduceEqDiff, Nat.not_lt, Nat.not_le, q_lit, ↓q_m1, q_om, q_on, q_add, q_mul, q_sub, q_div, q_md, q_ltT, q_ltF, q_leT, q_leF, q_eqT, q_eqF, q_inT, q_inF, q_nn, q_mlt, q_ltm, q_mle, q_lem, q_nem, q_mne, z_same, z_neP, z_neK, zL_same, zL_neP, zL_neK, zr_same, zr_ne]
        exact t3
      | some l =>
        simp (disch := omega) only [q_lit, r_told1 hR4 (r := 1) (by omega) hl, ↓reduceIte, o_bind, and_true, true_and, and_false, false_and, or_true, true_or, or_false, false_or, not_true, not_false_eq_true, not_false_iff, ne_eq, Nat.reduceAdd, Nat.reduceMul, Nat.reduceSub, Nat.reduceDiv, Nat.reduceMod, Nat.reduceLT, Nat.reduceLeDiff, Nat.reduceEqDiff, Nat.not_lt, Nat.not_le, q_lit, ↓q_m1, q_om, q_on, q_add, q_mul, q_sub, q_div, q_md, q_ltT, q_ltF, q_leT, q_leF, q_eqT, q_eqF, q_inT, q_inF, q_nn, q_mlt, q_ltm, q_mle, q_lem, q_nem, q_mne, z_same, z_neP, z_neK, zL_same, zL_neP, zL_neK, zr_same, zr_ne]
        refine zW_call (r_rule (r := 1) hR4 hU hA hk (by omega) (by omega) (by rw [hl]; simp) ask4) ?_
        rintro ⟨y1, V5, L5⟩ ⟨b1, b2, l5⟩
        dsimp only at b1 b2 l5 ⊢
        subst b1 b2
        exact t2 V5 L5 h4 (fun w hw => by rw [l5 w hw]; exact l4 w hw)
    cases hl : U.2.2.2.2.2.1 0 with
    | none =>
      have hz : rv U A 0 (6 * a + i) (A.2.1 (6 * a + i)) = 1 := by rw [rv_n hl]; rfl
      simp (disch := omega) only [r_told0 hR3 (r := 0) (by omega) hl, ↓reduceIte, o_bind, and_true, true_and, and_false, false_and, or_true, true_or, or_false, false_or, not_true, not_false_eq_true, not_false_iff, ne_eq, Nat.reduceAdd, Nat.reduceMul, Nat.reduceSub, Nat.reduceDiv, Nat.reduceMod, Nat.reduceLT, Nat.reduceLeDiff, Nat.reduceEqDiff, Nat.not_lt, Nat.not_le, q_lit, ↓q_m1, q_om, q_on, q_add, q_mul, q_sub, q_div, q_md, q_ltT, q_ltF, q_leT, q_leF, q_eqT, q_eqF, q_inT, q_inF, q_nn, q_mlt, q_ltm, q_mle, q_lem, q_nem, q_mne, z_same, z_neP, z_neK, zL_same, zL_neP, zL_neK, zr_same, zr_ne]
      exact tail (by rw [hz]; decide) V3 y3 h3 l2 ask
    | some l =>
      simp (disch := omega) only [r_told1 hR3 (r := 0) (by omega) hl, ↓reduceIte, o_bind, and_true, true_and, and_false, false_and, or_true, true_or, or_false, false_or, not_true, not_false_eq_true, not_false_iff, ne_eq, Nat.reduceAdd, Nat.reduceMul, Nat.reduceSub, Nat.reduceDiv, Nat.reduceMod, Nat.reduceLT, Nat.reduceLeDiff, Nat.reduceEqDiff, Nat.not_lt, Nat.not_le, q_lit, ↓q_m1, q_om, q_on, q_add, q_mul, q_sub, q_div, q_md, q_ltT, q_ltF, q_leT, q_leF, q_eqT, q_eqF, q_inT, q_inF, q_nn, q_mlt, q_ltm, q_mle, q_lem, q_nem, q_mne, z_same, z_neP, z_neK, zL_same, zL_neP, zL_neK, zr_same, zr_ne]
      refine zW_call (r_rule (r := 0) hR3 hU hA hk (by omega) (by omega) (by rw [hl]; simp) ask) ?_
      rintro ⟨y1, V4, L4⟩ ⟨b1, b2, l4⟩
      dsimp only at b1 b2 l4 ⊢
      subst b1 b2
      have l4' : ∀ w, w ≠ 28 → L4 w = L w := fun w hw => by rw [l4 w hw]; exact l2 w hw
      have e0 : (lg_cmp (qZ (rv U A 0 (6 * a + i) (A.2.1 (6 * a + i)))) 0 = qi 0) ↔ rv U A 0 (6 * a + i) (A.2.1 (6 * a + i)) = 0 := by
        show (lg_cmp _ 0 = 0) ↔ _
        rw [lg_cmp_eq, qZ_lit, qZ_eq] <;> omega
      simp only [e0]
      by_cases hz : rv U A 0 (6 * a + i) (A.2.1 (6 * a + i)) = 0
      · rw [hno (by omega)] at hgo
        simp only [hz, ↓reduceIte]
        exact hgo V4 L4 h3 l4'
      · simp only [hz, ↓reduceIte]
        exact tail hz V4 L4 h3 l4' ask
  · rw [hno (by omega)] at hgo
    simp (disch := omega) only [hw0, ↓reduceIte, o_bind, and_true, true_and, and_false, false_and, or_true, true_or, or_false, false_or, not_true, not_false_eq_true, not_false_iff, ne_eq, Nat.reduceAdd, Nat.reduceMul, Nat.reduceSub, Nat.reduceDiv, Nat.reduceMod, Nat.reduceLT, Nat.reduceLeDiff, Nat.reduceEqDiff, Nat.not_lt, Nat.not_le, q_lit, ↓q_m1, q_om, q_on, q_add, q_mul, q_sub, q_div, q_md, q_ltT, q_ltF, q_leT, q_leF, q_eqT, q_eqF, q_inT, q_inF, q_nn, q_mlt, q_ltm, q_mle, q_lem, q_nem, q_mne, z_same, z_neP, z_neK, zL_same, zL_neP, zL_neK, zr_same, zr_ne]
    exact hgo V2 L2 h2 l2
end
