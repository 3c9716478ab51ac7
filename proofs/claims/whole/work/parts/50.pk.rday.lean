section
/-! The reference's day. -/
def RFr (v : Nat) (V V' : zI) : Prop := (∀ w, (w ≠ 0 ∧ w < 20) ∨ 28 ≤ w → w ≠ 29 → V' w = V w) ∧ (∀ j, j ≠ 52 → j ≠ 53 → V' 0 j = V 0 j) ∧ (∀ k, k ≠ v → V' 20 k = V 20 k ∧ V' 24 k = V 24 k ∧ V' 26 k = V 26 k) ∧ (∀ k, (k < 36 * v ∨ 36 * v + 36 ≤ k) → V' 21 k = V 21 k ∧ V' 22 k = V 22 k ∧ V' 23 k = V 23 k) ∧ (∀ k, (k < 180 * v ∨ 180 * v + 180 ≤ k) → V' 25 k = V 25 k) ∧ ∀ k, (k < 200 * v ∨ 200 * v + 200 ≤ k) → V' 27 k = V 27 k
theorem RFr_rf {v : Nat} {V : zI} : RFr v V V := ⟨fun _ _ _ => rfl, fun _ _ _ => rfl, fun _ _ => ⟨rfl, rfl, rfl⟩, fun _ _ => ⟨rfl, rfl, rfl⟩, fun _ _ => rfl, fun _ _ => rfl⟩
theorem RFr_tr {v : Nat} {V V1 V2 : zI} (h : RFr v V V1) (g : RFr v V1 V2) : RFr v V V2 := by
  obtain ⟨a1, a2, a3, a4, a5, a6⟩ := h
  obtain ⟨b1, b2, b3, b4, b5, b6⟩ := g
  refine ⟨fun w h1 h2 => (b1 w h1 h2).trans (a1 w h1 h2), fun j h1 h2 => (b2 j h1 h2).trans (a2 j h1 h2), fun k hk => ?_, fun k hk => ?_, fun k hk => (b5 k hk).trans (a5 k hk), fun k hk => (b6 k hk).trans (a6 k hk)⟩
  · obtain ⟨x1, x2, x3⟩ := a3 k hk
    obtain ⟨y1, y2, y3⟩ := b3 k hk
    exact ⟨y1.trans x1, y2.trans x2, y3.trans x3⟩
  · obtain ⟨x1, x2, x3⟩ := a4 k hk
    obtain ⟨y1, y2, y3⟩ := b4 k hk
    exact ⟨y1.trans x1, y2.trans x2, y3.trans x3⟩
theorem z_off {V : zI} {w k a b : Nat} {x : Int32} (h : a = w → b ≠ k) : z_uI V w k x a b = V a b := by
  by_cases e : a = w
  · subst e; exact z_neK (h rfl)
  · rw [z_neP e]
theorem RFr_z {v w k : Nat} {V : zI} {x : Int32} (h : (w = 0 ∧ (k = 52 ∨ k = 53)) ∨ ((w = 20 ∨ w = 24 ∨ w = 26) ∧ k = v) ∨ ((w = 21 ∨ w = 22 ∨ w = 23) ∧ 36 * v ≤ k ∧ k < 36 * v + 36) ∨ (w = 25 ∧ 180 * v ≤ k ∧ k < 180 * v + 180) ∨ (w = 27 ∧ 200 * v ≤ k ∧ k < 200 * v + 200) ∨ w = 29) : RFr v V (z_uI V w k x) := by
  refine ⟨fun a h1 h2 => z_neP (by omega), fun j h1 h2 => z_off (by omega), fun j hj => ⟨z_off (by omega), z_off (by omega), z_off (by omega)⟩, fun j hj => ⟨z_off (by omega), z_off (by omega), z_off (by omega)⟩, fun j hj => z_off (by omega), fun j hj => z_off (by omega)⟩
theorem RFr_29 {v : Nat} {V V' : zI} (h : ∀ w, w ≠ 29 → V' w = V w) : RFr v V V' := by
  refine ⟨fun a h1 h2 => h a h2, fun j h1 h2 => by rw [h 0 (by omega)], fun j hj => ⟨by rw [h 20 (by omega)], by rw [h 24 (by omega)], by rw [h 26 (by omega)]⟩, fun j hj => ⟨by rw [h 21 (by omega)], by rw [h 22 (by omega)], by rw [h 23 (by omega)]⟩, fun j hj => by rw [h 25 (by omega)], fun j hj => by rw [h 27 (by omega)]⟩
theorem RFr_UR {v b : Nat} {V V' : zI} {L L' : zL} {U : aU} (h : RFr v V V') (hl : L' 12 = L 12) (hR : UR V L b U) : UR V' L' b U :=
  UR_fr hR (h.2.1 13 (by omega) (by omega)) (fun w h1 h2 h3 h4 => h.1 w (by omega) (by omega)) hl
theorem RFr_SR {v v2 : Nat} {V V' : zI} {A : aS} (h : RFr v V V') (hv : v2 ≠ v) (hm : A.2.2.2.2.1 ≤ 60) (hk : A.2.2.2.2.2.2.2.1 ≤ 50) (hS : SR V v2 A) : SR V' v2 A := by
  obtain ⟨day, held, sent, got, m, mp, ml, kn, kc⟩ := A
  obtain ⟨-, -, f3, f4, f5, f6⟩ := h
  obtain ⟨⟨a0, a4, a7⟩, s1, s2, s3, s4, s5, s6, s7, s8, s9, s10⟩ := hS
  dsimp only at hm hk
  obtain ⟨x1, x2, x3⟩ := f3 v2 hv
  refine ⟨⟨by rw [x1]; exact a0, by rw [x2]; exact a4, by rw [x3]; exact a7⟩, fun k hk => ?_, fun k hk => ?_, fun k hk => ?_, fun k hk => ?_, fun k hk => ?_, fun k hk => ?_, fun k hk => ?_, fun k hk => ?_, fun k hk => ?_, fun k hk => ?_⟩
  · rw [(f4 _ (by omega)).1]; exact s1 k hk
  · rw [(f4 _ (by omega)).2.1]; exact s2 k hk
  · rw [(f4 _ (by omega)).2.2]; exact s3 k hk
  · rw [f5 _ (by omega)]; exact s4 k hk
  · rw [f5 _ (by omega)]; exact s5 k hk
  · rw [f5 _ (by omega)]; exact s6 k hk
  · rw [f6 _ (by omega)]; exact s7 k hk
  · rw [f6 _ (by omega)]; exact s8 k hk
  · rw [f6 _ (by omega)]; exact s9 k hk
  · rw [f6 _ (by omega)]; exact s10 k hk
def SRk (V : zI) (v : Nat) (A : aS) (P : Nat → Prop) : Prop := match A with
  | (day, held, sent, got, m, mp, ml, kn, kc) => (V 20 v = qi day ∧ V 24 v = qi m ∧ V 26 v = qi kn) ∧ (∀ k, k < 36 → V 21 (36 * v + k) = qi (held k)) ∧ (∀ k, k < 36 → V 22 (36 * v + k) = qi (sent k)) ∧ (∀ k, k < 36 → V 23 (36 * v + k) = qi (got k)) ∧ (∀ k, k < m → P k → V 25 (180 * v + 3 * k) = qi (mp k / 6)) ∧ (∀ k, k < m → P k → V 25 (180 * v + 3 * k + 1) = qi (mp k % 6)) ∧ (∀ k, k < m → P k → V 25 (180 * v + 3 * k + 2) = qi (ml k)) ∧ (∀ k, k < kn → V 27 (200 * v + 4 * k) = qi (kc k / 72)) ∧ (∀ k, k < kn → V 27 (200 * v + 4 * k + 1) = qi (kc k / 2 % 36 / 6)) ∧ (∀ k, k < kn → V 27 (200 * v + 4 * k + 2) = qi (kc k / 2 % 36 % 6)) ∧ ∀ k, k < kn → V 27 (200 * v + 4 * k + 3) = qi (kc k % 2)
theorem SRk_of {V : zI} {v : Nat} {A : aS} {P : Nat → Prop} (h : SR V v A) : SRk V v A P := by
  obtain ⟨day, held, sent, got, m, mp, ml, kn, kc⟩ := A
  obtain ⟨a, s1, s2, s3, s4, s5, s6, s7⟩ := h
  exact ⟨a, s1, s2, s3, fun k hk _ => s4 k hk, fun k hk _ => s5 k hk, fun k hk _ => s6 k hk, s7⟩
theorem SRk_all {V : zI} {v : Nat} {A : aS} {P : Nat → Prop} (h : SRk V v A P) (hP : ∀ k, k < A.2.2.2.2.1 → P k) : SR V v A := by
  obtain ⟨day, held, sent, got, m, mp, ml, kn, kc⟩ := A
  obtain ⟨a, s1, s2, s3, s4, s5, s6, s7⟩ := h
  exact ⟨a, s1, s2, s3, fun k hk => s4 k hk (hP k hk), fun k hk => s5 k hk (hP k hk), fun k hk => s6 k hk (hP k hk), s7⟩
theorem SRk_mono {V : zI} {v : Nat} {A : aS} {P Q : Nat → Prop} (h : SRk V v A P) (hP : ∀ k, k < A.2.2.2.2.1 → Q k → P k) : SRk V v A Q := by
  obtain ⟨day, held, sent, got, m, mp, ml, kn, kc⟩ := A
  obtain ⟨a, s1, s2, s3, s4, s5, s6, s7⟩ := h
  exact ⟨a, s1, s2, s3, fun k hk hq => s4 k hk (hP k hk hq), fun k hk hq => s5 k hk (hP k hk hq), fun k hk hq => s6 k hk (hP k hk hq), s7⟩
set_option maxHeartbeats 4000000 in
theorem r_keep {V : zI} {L : zL} {v f t l : Nat} {A : aS} {P : Nat → Prop} (hv : v < 22) (hS : SRk V v A P) (hd : A.1 ≤ 999) (hm : A.2.2.2.2.1 ≤ 60) (hk : A.2.2.2.2.2.2.2.1 ≤ 50) (hf : f < 6) (ht : t < 6) (hl : l < 2) : zW (f_writesDown (qi v) (qi f) (qi t) (qi l) V L) (fun r => r.2 = L ∧ SRk r.1 v (keepS A ((A.1 * 36 + (6 * f + t)) * 2 + l)) P ∧ RFr v V r.1 ∧ (∀ w, w ≠ 26 → w ≠ 27 → r.1 w = V w)) := by
  obtain ⟨day, held, sent, got, m, mp, ml, kn, kc⟩ := A
  obtain ⟨⟨a0, a4, a7⟩, s1, s2, s3, s4, s5, s6, s7, s8, s9, s10⟩ := hS
  dsimp only at hd hm hk
  have c1 : ((day * 36 + (6 * f + t)) * 2 + l) / 72 = day := by omega
  have c2 : ((day * 36 + (6 * f + t)) * 2 + l) / 2 % 36 / 6 = f := by omega
  have c3 : ((day * 36 + (6 * f + t)) * 2 + l) / 2 % 36 % 6 = t := by omega
  have c4 : ((day * 36 + (6 * f + t)) * 2 + l) % 2 = l := by omega
  have fin : ∀ (V1 : zI) (kn1 : Nat) (kc1 : Nat → Nat), kn1 < 50 → V1 26 v = qi kn1 → (∀ k, k < kn1 → V1 27 (200 * v + 4 * k) = qi (kc1 k / 72)) → (∀ k, k < kn1 → V1 27 (200 * v + 4 * k + 1) = qi (kc1 k / 2 % 36 / 6)) → (∀ k, k < kn1 → V1 27 (200 * v + 4 * k + 2) = qi (kc1 k / 2 % 36 % 6)) → (∀ k, k < kn1 → V1 27 (200 * v + 4 * k + 3) = qi (kc1 k % 2)) → (∀ w, w ≠ 26 → w ≠ 27 → V1 w = V w) → RFr v V V1 → zW (f_writesDown_66 (qi v) (qi f) (qi t) (qi l) V1 L) (fun r => r.2 = L ∧ SRk r.1 v (day, held, sent, got, m, mp, ml, kn1 + 1, nu kc1 kn1 ((day * 36 + (6 * f + t)) * 2 + l)) P ∧ RFr v V r.1 ∧ (∀ w, w ≠ 26 → w ≠ 27 → r.1 w = V w)) := by
    intro V1 kn1 kc1 hk1 e26 t1 t2 t3 t4 ew hfr
    have e20 : V1 20 v = qi day := by rw [ew 20 (by omega) (by omega)]; exact a0
    have ei : 4 * (50 * v + kn1) = 200 * v + 4 * kn1 := by omega
    unfold f_writesDown_66
    simp (disch := omega) only [e26, e20, ei, ↓reduceIte, o_bind, and_true, true_and, and_false, false_and, or_true, true_or, or_false, false_or, not_true, not_false_eq_true, not_false_iff, ne_eq, Nat.reduceAdd, Nat.reduceMul, Nat.reduceSub, Nat.reduceDiv, Nat.reduceMod, Nat.reduceLT, Nat.reduceLeDiff, Nat.reduceEqDiff, Nat.not_lt, Nat.not_le, q_lit, ↓q_m1, q_om, q_on, q_add, q_mul, q_sub, q_div, q_md, q_ltT, q_ltF, q_leT, q_leF, q_eqT, q_eqF, q_inT, q_inF, q_nn, q_mlt, q_ltm, q_mle, q_lem, q_nem, q_mne, z_same, z_neP, z_neK, zL_same, zL_neP, zL_neK, zr_same, zr_ne]
    refine zW_some ⟨rfl, ⟨⟨?_, ?_, ?_⟩, ?_, ?_, ?_, ?_, ?_, ?_, ?_, ?_, ?_, ?_⟩, ?_, ?_⟩
    · simp (disch := omega) only [z_same, z_neP, z_neK, zL_same, zL_neP, zL_neK, zr_same, zr_ne, e20]
    · simp (disch := omega) only [z_same, z_neP, z_neK, zL_same, zL_neP, zL_neK, zr_same, zr_ne, ew]; exact a4
    · simp (disch := omega) only [z_same, z_neP, z_neK, zL_same, zL_neP, zL_neK, zr_same, zr_ne]
    · intro k hk; simp (disch := omega) only [z_same, z_neP, z_neK, zL_same, zL_neP, zL_neK, zr_same, zr_ne, ew]; exact s1 k hk
    · intro k hk; simp (disch := omega) only [z_same, z_neP, z_neK, zL_same, zL_neP, zL_neK, zr_same, zr_ne, ew]; exact s2 k hk
    · intro k hk; simp (disch := omega) only [z_same, z_neP, z_neK, zL_same, zL_neP, zL_neK, zr_same, zr_ne, ew]; exact s3 k hk
    · intro k hk hp; simp (disch := omega) only [z_same, z_neP, z_neK, zL_same, zL_neP, zL_neK, zr_same, zr_ne, ew]; exact s4 k hk hp
    · intro k hk hp; simp (disch := omega) only [z_same, z_neP, z_neK, zL_same, zL_neP, zL_neK, zr_same, zr_ne, ew]; exact s5 k hk hp
    · intro k hk hp; simp (disch := omega) only [z_same, z_neP, z_neK, zL_same, zL_neP, zL_neK, zr_same, zr_ne, ew]; exact s6 k hk hp
    · intro k hk
      by_cases hkk : k = kn1
      · subst hkk; simp (disch := omega) only [z_same, z_neP, z_neK, zL_same, zL_neP, zL_neK, zr_same, zr_ne, nu, ↓reduceIte, c1]
      · simp (disch := omega) only [z_same, z_neP, z_neK, zL_same, zL_neP, zL_neK, zr_same, zr_ne, nu, hkk, ↓reduceIte]; exact t1 k (by omega)
    · intro k hk
      by_cases hkk : k = kn1
      · subst hkk; simp (disch := omega) only [z_same, z_neP, z_neK, zL_same, zL_neP, zL_neK, zr_same, zr_ne, nu, ↓reduceIte, c2]
      · simp (disch := omega) only [z_same, z_neP, z_neK, zL_same, zL_neP, zL_neK, zr_same, zr_ne, nu, hkk, ↓reduceIte]; exact t2 k (by omega)
    · intro k hk
      by_cases hkk : k = kn1
      · subst hkk; simp (disch := omega) only [z_same, z_neP, z_neK, zL_same, zL_neP, zL_neK, zr_same, zr_ne, nu, ↓reduceIte, c3]
      · simp (disch := omega) only [z_same, z_neP, z_neK, zL_same, zL_neP, zL_neK, zr_same, zr_ne, nu, hkk, ↓reduceIte]; exact t3 k (by omega)
    · intro k hk
      by_cases hkk : k = kn1
      · subst hkk; simp (disch := omega) only [z_same, z_neP, z_neK, zL_same, zL_neP, zL_neK, zr_same, zr_ne, nu, ↓reduceIte, c4]
      · simp (disch := omega) only [z_same, z_neP, z_neK, zL_same, zL_neP, zL_neK, zr_same, zr_ne, nu, hkk, ↓reduceIte]; exact t4 k (by omega)
    · exact RFr_tr hfr (RFr_tr (RFr_tr (RFr_tr (RFr_tr (RFr_z (by omega)) (RFr_z (by omega))) (RFr_z (by omega))) (RFr_z (by omega))) (RFr_z (by omega)))
    · intro w h1 h2; simp (disch := omega) only [z_same, z_neP, z_neK, zL_same, zL_neP, zL_neK, zr_same, zr_ne, ew]
  unfold f_writesDown
  by_cases h50 : kn = 50
  · simp (disch := omega) only [a7, h50, ↓reduceIte, o_bind, and_true, true_and, and_false, false_and, or_true, true_or, or_false, false_or, not_true, not_false_eq_true, not_false_iff, ne_eq, Nat.reduceAdd, Nat.reduceMul, Nat.reduceSub, Nat.reduceDiv, Nat.reduceMod, Nat.reduceLT, Nat.reduceLeDiff, Nat.reduceEqDiff, Nat.not_lt, Nat.not_le, q_lit, ↓q_m1, q_om, q_on, q_add, q_mul, q_sub, q_div, q_md, q_ltT, q_ltF, q_leT, q_leF, q_eqT, q_eqF, q_inT, q_inF, q_nn, q_mlt, q_ltm, q_mle, q_lem, q_nem, q_mne, z_same, z_neP, z_neK, zL_same, zL_neP, zL_neK, zr_same, zr_ne]
    simp only [keepS, h50, ↓reduceIte]
    refine zW_lp (I := fun r q => ∃ (j : Nat) (V1 : zI), j ≤ 196 ∧ r = 196 - j ∧ q = (qi v, qi f, qi t, qi l, qi (200 * v + j), V1, L) ∧ (∀ i, V1 27 (200 * v + i) = if i < j then V 27 (200 * v + i + 4) else V 27 (200 * v + i)) ∧ (∀ w, w ≠ 27 → V1 w = V w) ∧ RFr v V V1) ?_ FU 196 _ ⟨0, V, by omega, by omega, rfl, fun i => by rw [if_neg (by omega)], fun _ _ => rfl, RFr_rf⟩ (FU_big (by omega))
    rintro k r q ⟨j, V1, hj, rfl, rfl, h27, ew, hfr⟩ ih
    have e26 : V1 26 v = qi 50 := by rw [ew 26 (by omega), a7, h50]
    by_cases hend : j = 196
    · subst hend
      simp (disch := omega) only [b_writesDown_18, e26, ↓reduceIte, o_bind, and_true, true_and, and_false, false_and, or_true, true_or, or_false, false_or, not_true, not_false_eq_true, not_false_iff, ne_eq, Nat.reduceAdd, Nat.reduceMul, Nat.reduceSub, Nat.reduceDiv, Nat.reduceMod, Nat.reduceLT, Nat.reduceLeDiff, Nat.reduceEqDiff, Nat.not_lt, Nat.not_le, q_lit, ↓q_m1, q_om, q_on, q_add, q_mul, q_sub, q_div, q_md, q_ltT, q_ltF, q_leT, q_leF, q_eqT, q_eqF, q_inT, q_inF, q_nn, q_mlt, q_ltm, q_mle, q_lem, q_nem, q_mne, z_same, z_neP, z_neK, zL_same, zL_neP, zL_neK, zr_same, zr_ne]
      refine fin (z_uI V1 26 v (qi 49)) 49 (fun j => kc (j + 1)) (by omega) z_same ?_ ?_ ?_ ?_ ?_ ?_
      · intro k hk
        rw [z_neP (by omega), h27 (4 * k), if_pos (by omega), show 200 * v + 4 * k + 4 = 200 * v + 4 * (k + 1) by omega]
        exact s7 (k + 1) (by omega)
      · intro k hk
        rw [z_neP (by omega), show 200 * v + 4 * k + 1 = 200 * v + (4 * k + 1) by omega, h27 (4 * k + 1), if_pos (by omega), show 200 * v + (4 * k + 1) + 4 = 200 * v + 4 * (k + 1) + 1 by omega]
        exact s8 (k + 1) (by omega)
      · intro k hk
        rw [z_neP (by omega), show 200 * v + 4 * k + 2 = 200 * v + (4 * k + 2) by omega, h27 (4 * k + 2), if_pos (by omega), show 200 * v + (4 * k + 2) + 4 = 200 * v + 4 * (k + 1) + 2 by omega]
        exact s9 (k + 1) (by omega)
      · intro k hk
        rw [z_neP (by omega), show 200 * v + 4 * k + 3 = 200 * v + (4 * k + 3) by omega, h27 (4 * k + 3), if_pos (by omega), show 200 * v + (4 * k + 3) + 4 = 200 * v + 4 * (k + 1) + 3 by omega]
        exact s10 (k + 1) (by omega)
      · intro w h1 h2; rw [z_neP h1]; exact ew w h2
      · exact RFr_tr hfr (RFr_z (by omega))
    · have e4 : V1 27 (200 * v + j + 4) = V 27 (200 * v + j + 4) := by
        have := h27 (j + 4)
        rw [if_neg (by omega), show 200 * v + (j + 4) = 200 * v + j + 4 by omega] at this
        exact this
      simp (disch := omega) only [b_writesDown_18, e4, ↓reduceIte, o_bind, and_true, true_and, and_false, false_and, or_true, true_or, or_false, false_or, not_true, not_false_eq_true, not_false_iff, ne_eq, Nat.reduceAdd, Nat.reduceMul, Nat.reduceSub, Nat.reduceDiv, Nat.reduceMod, Nat.reduceLT, Nat.reduceLeDiff, Nat.reduceEqDiff, Nat.not_lt, Nat.not_le, q_lit, ↓q_m1, q_om, q_on, q_add, q_mul, q_sub, q_div, q_md, q_ltT, q_ltF, q_leT, q_leF, q_eqT, q_eqF, q_inT, q_inF, q_nn, q_mlt, q_ltm, q_mle, q_lem, q_nem, q_mne, z_same, z_neP, z_neK, zL_same, zL_neP, zL_neK, zr_same, zr_ne]
      refine ih (196 - (j + 1)) _ (by omega) ⟨j + 1, _, by omega, rfl, rfl, fun i => ?_, fun w hw => by rw [z_neP hw]; exact ew w hw, RFr_tr hfr (RFr_z (by omega))⟩
      rw [z_if]
      by_cases hi : i = j
      · subst hi; rw [if_pos rfl, if_pos (by omega)]
      · rw [if_neg (by omega), h27 i]
        by_cases hij : i < j
        · rw [if_pos hij, if_pos (by omega)]
        · rw [if_neg hij, if_neg (by omega)]
  · simp (disch := omega) only [a7, h50, ↓reduceIte, o_bind, and_true, true_and, and_false, false_and, or_true, true_or, or_false, false_or, not_true, not_false_eq_true, not_false_iff, ne_eq, Nat.reduceAdd, Nat.reduceMul, Nat.reduceSub, Nat.reduceDiv, Nat.reduceMod, Nat.reduceLT, Nat.reduceLeDiff, Nat.reduceEqDiff, Nat.not_lt, Nat.not_le, q_lit, ↓q_m1, q_om, q_on, q_add, q_mul, q_sub, q_div, q_md, q_ltT, q_ltF, q_leT, q_leF, q_eqT, q_eqF, q_inT, q_inF, q_nn, q_mlt, q_ltm, q_mle, q_lem, q_nem, q_mne, z_same, z_neP, z_neK, zL_same, zL_neP, zL_neK, zr_same, zr_ne]
    simp only [keepS, h50, ↓reduceIte]
    exact fin V kn kc (by omega) a7 s7 s8 s9 s10 (fun _ _ _ => rfl) RFr_rf
end
