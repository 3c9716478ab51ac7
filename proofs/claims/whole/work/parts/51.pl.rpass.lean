section
set_option maxHeartbeats 4000000 in
theorem r_arr40 {V : zI} {L : zL} {v f t l cm ls b : Nat} {U : aU} {A : aS} {P : Nat → Prop} (hv : v < 22) (hR : UR V L b U) (hU : UB U) (hS : SRk V v A P) (hd : A.1 ≤ 999) (hm : A.2.2.2.2.1 ≤ 60) (hk : A.2.2.2.2.2.2.2.1 ≤ 50) (hh : ∀ k, k < 36 → A.2.1 k ≤ 99) (hg : ∀ k, k < 36 → A.2.2.2.1 k ≤ 99) (hf : f < 6) (ht : t < 6) (hl : l < 2) (hc : V 0 52 = qi cm) (hlo : V 0 53 = qi ls) : zW (f_arrives_40 (qi v) (qi f) (qi t) (qi l) (qi v) (qi f) (qi t) (qi l) V L) (fun r => SRk r.1 v (delS A (6 * f + t) U.2.2.2.1 l) P ∧ r.1 0 52 = qi (if l = 1 then cm else cm + 1) ∧ r.1 0 53 = qi (if l = 1 then ls + 1 else ls) ∧ r.2 0 54 = (if l = 1 then L 0 54 else L 0 54 ||| bit6 (6 * f + t)) ∧ (∀ j, j ≠ 54 → r.2 0 j = L 0 j) ∧ (∀ w, w ≠ 0 → r.2 w = L w) ∧ RFr v V r.1) := by
  have hkp := r_keep (L := L) hv hS hd hm hk hf ht hl
  have hb : b < 2 := hR.1.1
  have he : U.2.2.2.1 ≤ 3 := hU.1.2.2.1
  have e13 : V 0 13 = qi b := hR.1.2.1
  have e7 : V 7 (2 * b) = qi U.2.2.2.1 := hR.1.2.2.2.2.1
  generalize U.2.2.2.1 = e at *
  obtain ⟨day, held, sent, got, m, mp, ml, kn, kc⟩ := A
  dsimp only at hd hm hk hh hg hkp
  have hb6 : (6 * f + t) % 6 * 6 + (6 * f + t) / 6 = 6 * t + f := by omega
  have hhb := hh (6 * t + f) (by omega)
  have hgb := hg (6 * t + f) (by omega)
  unfold f_arrives_40
  refine zW_call hkp ?_
  rintro ⟨V1, L1⟩ ⟨hL, hS1, hfr, hw⟩
  dsimp only at hL hS1 hfr hw ⊢
  replace hL := hL.symm
  subst hL
  have e52 : V1 0 52 = qi cm := by rw [hw 0 (by omega) (by omega)]; exact hc
  have e53 : V1 0 53 = qi ls := by rw [hw 0 (by omega) (by omega)]; exact hlo
  have f13 : V1 0 13 = qi b := by rw [hw 0 (by omega) (by omega)]; exact e13
  have f7 : V1 7 (2 * b) = qi e := by rw [hw 7 (by omega) (by omega)]; exact e7
  rcases (by omega : l = 0 ∨ l = 1) with rfl | rfl
  · obtain ⟨⟨a0, a4, a7⟩, s1, s2, s3, s4, s5, s6, s7, s8, s9, s10⟩ := hS1
    have b1 := s1 (6 * t + f) (by omega)
    have b3 := s3 (6 * t + f) (by omega)
    have ei : 36 * v + 6 * t + f = 36 * v + (6 * t + f) := by omega
    have hfin : ∀ x1 x3 : Nat, zW (some (z_uI (z_uI (z_uI V1 0 52 (qi (cm + 1))) 21 (36 * v + (6 * t + f)) (qi x1)) 23 (36 * v + (6 * t + f)) (qi x3), z_uL L 0 54 (L 0 54 ||| bit6 (6 * f + t)))) (fun r => SRk r.1 v (keepS (day, nu held (6 * t + f) x1, sent, nu got (6 * t + f) x3, m, mp, ml, kn, kc) ((day * 36 + (6 * f + t)) * 2 + 0)) P ∧ r.1 0 52 = qi (cm + 1) ∧ r.1 0 53 = qi ls ∧ r.2 0 54 = L 0 54 ||| bit6 (6 * f + t) ∧ (∀ j, j ≠ 54 → r.2 0 j = L 0 j) ∧ (∀ w, w ≠ 0 → r.2 w = L w) ∧ RFr v V r.1) := by
      intro x1 x3
      refine zW_some ⟨⟨⟨?_, ?_, ?_⟩, ?_, ?_, ?_, ?_, ?_, ?_, ?_, ?_, ?_, ?_⟩, ?_, ?_, ?_, ?_, ?_, ?_⟩
      · simp (disch := omega) only [z_same, z_neP, z_neK, zL_same, zL_neP, zL_neK, zr_same, zr_ne]; exact a0
      · simp (disch := omega) only [z_same, z_neP, z_neK, zL_same, zL_neP, zL_neK, zr_same, zr_ne]; exact a4
      · simp (disch := omega) only [z_same, z_neP, z_neK, zL_same, zL_neP, zL_neK, zr_same, zr_ne]; exact a7
      · intro k hk
        by_cases hkk : k = 6 * t + f
        · subst hkk; simp (disch := omega) only [z_same, z_neP, z_neK, zL_same, zL_neP, zL_neK, zr_same, zr_ne, nu, ↓reduceIte]
        · simp (disch := omega) only [z_same, z_neP, z_neK, zL_same, zL_neP, zL_neK, zr_same, zr_ne, nu, hkk, ↓reduceIte]; exact s1 k hk
      · intro k hk; simp (disch := omega) only [z_same, z_neP, z_neK, zL_same, zL_neP, zL_neK, zr_same, zr_ne]; exact s2 k hk
      · intro k hk
        by_cases hkk : k = 6 * t + f
        · subst hkk; simp (disch := omega) only [z_same, z_neP, z_neK, zL_same, zL_neP, zL_neK, zr_same, zr_ne, nu, ↓reduceIte]
        · simp (disch := omega) only [z_same, z_neP, z_neK, zL_same, zL_neP, zL_neK, zr_same, zr_ne, nu, hkk, ↓reduceIte]; exact s3 k hk
      · intro k hk hp; simp (disch := omega) only [z_same, z_neP, z_neK, zL_same, zL_neP, zL_neK, zr_same, zr_ne]; exact s4 k hk hp
      · intro k hk hp; simp (disch := omega) only [z_same, z_neP, z_neK, zL_same, zL_neP, zL_neK, zr_same, zr_ne]; exact s5 k hk hp
      · intro k hk hp; simp (disch := omega) only [z_same, z_neP, z_neK, zL_same, zL_neP, zL_neK, zr_same, zr_ne]; exact s6 k hk hp
      · intro k hk; simp (disch := omega) only [z_same, z_neP, z_neK, zL_same, zL_neP, zL_neK, zr_same, zr_ne]; exact s7 k hk
      · intro k hk; simp (disch := omega) only [z_same, z_neP, z_neK, zL_same, zL_neP, zL_neK, zr_same, zr_ne]; exact s8 k hk
      · intro k hk; simp (disch := omega) only [z_same, z_neP, z_neK, zL_same, zL_neP, zL_neK, zr_same, zr_ne]; exact s9 k hk
      · intro k hk; simp (disch := omega) only [z_same, z_neP, z_neK, zL_same, zL_neP, zL_neK, zr_same, zr_ne]; exact s10 k hk
      · simp (disch := omega) only [z_same, z_neP, z_neK, zL_same, zL_neP, zL_neK, zr_same, zr_ne]
      · simp (disch := omega) only [z_same, z_neP, z_neK, zL_same, zL_neP, zL_neK, zr_same, zr_ne]; exact e53
      · simp (disch := omega) only [z_same, z_neP, z_neK, zL_same, zL_neP, zL_neK, zr_same, zr_ne]
      · intro j hj; simp (disch := omega) only [z_same, z_neP, z_neK, zL_same, zL_neP, zL_neK, zr_same, zr_ne]
      · intro w hw'; simp (disch := omega) only [z_same, z_neP, z_neK, zL_same, zL_neP, zL_neK, zr_same, zr_ne]
      · exact RFr_tr hfr (RFr_tr (RFr_tr (RFr_z (by omega)) (RFr_z (by omega))) (RFr_z (by omega)))
    have ex1 : (if held (6 * t + f) + e < 99 then held (6 * t + f) + e else 99) = (if held (6 * t + f) + e ≤ 99 then held (6 * t + f) + e else 99) := by split <;> split <;> omega
    have ex3 : (if got (6 * t + f) + 1 < 99 then got (6 * t + f) + 1 else 99) = (if got (6 * t + f) + 1 ≤ 99 then got (6 * t + f) + 1 else 99) := by split <;> split <;> omega
    simp only [delS, hb6, ex1, ex3, show ¬ (0 : Nat) = 1 by omega, ↓reduceIte]
    by_cases c1 : held (6 * t + f) + e ≤ 99 <;> by_cases c3 : got (6 * t + f) + 1 ≤ 99 <;> simp (disch := omega) only [f_at, f_toldOf, f_upTo, e52, f13, f7, ei, b1, b3, c1, c3, Nat.add_zero, ↓reduceIte, o_bind, and_true, true_and, and_false, false_and, or_true, true_or, or_false, false_or, not_true, not_false_eq_true, not_false_iff, ne_eq, Nat.reduceAdd, Nat.reduceMul, Nat.reduceSub, Nat.reduceDiv, Nat.reduceMod, Nat.reduceLT, Nat.reduceLeDiff, Nat.reduceEqDiff, Nat.not_lt, Nat.not_le, q_lit, ↓q_m1, q_om, q_on, q_add, q_mul, q_sub, q_div, q_md, q_ltT, q_ltF, q_leT, q_leF, q_eqT, q_eqF, q_inT, q_inF, q_nn, q_mlt, q_ltm, q_mle, q_lem, q_nem, q_mne, z_same, z_neP, z_neK, zL_same, zL_neP, zL_neK, zr_same, zr_ne] <;> exact hfin _ _
  · simp (disch := omega) only [e53, ↓reduceIte, o_bind, and_true, true_and, and_false, false_and, or_true, true_or, or_false, false_or, not_true, not_false_eq_true, not_false_iff, ne_eq, Nat.reduceAdd, Nat.reduceMul, Nat.reduceSub, Nat.reduceDiv, Nat.reduceMod, Nat.reduceLT, Nat.reduceLeDiff, Nat.reduceEqDiff, Nat.not_lt, Nat.not_le, q_lit, ↓q_m1, q_om, q_on, q_add, q_mul, q_sub, q_div, q_md, q_ltT, q_ltF, q_leT, q_leF, q_eqT, q_eqF, q_inT, q_inF, q_nn, q_mlt, q_ltm, q_mle, q_lem, q_nem, q_mne, z_same, z_neP, z_neK, zL_same, zL_neP, zL_neK, zr_same, zr_ne, delS]
    obtain ⟨⟨a0, a4, a7⟩, s1, s2, s3, s4, s5, s6, s7, s8, s9, s10⟩ := hS1
    refine zW_some ⟨⟨⟨?_, ?_, ?_⟩, ?_, ?_, ?_, ?_, ?_, ?_, ?_, ?_, ?_, ?_⟩, ?_, ?_, rfl, fun _ _ => rfl, fun _ _ => rfl, ?_⟩
    · simp (disch := omega) only [z_same, z_neP, z_neK, zL_same, zL_neP, zL_neK, zr_same, zr_ne]; exact a0
    · simp (disch := omega) only [z_same, z_neP, z_neK, zL_same, zL_neP, zL_neK, zr_same, zr_ne]; exact a4
    · simp (disch := omega) only [z_same, z_neP, z_neK, zL_same, zL_neP, zL_neK, zr_same, zr_ne]; exact a7
    · intro k hk; simp (disch := omega) only [z_same, z_neP, z_neK, zL_same, zL_neP, zL_neK, zr_same, zr_ne]; exact s1 k hk
    · intro k hk; simp (disch := omega) only [z_same, z_neP, z_neK, zL_same, zL_neP, zL_neK, zr_same, zr_ne]; exact s2 k hk
    · intro k hk; simp (disch := omega) only [z_same, z_neP, z_neK, zL_same, zL_neP, zL_neK, zr_same, zr_ne]; exact s3 k hk
    · intro k hk hp; simp (disch := omega) only [z_same, z_neP, z_neK, zL_same, zL_neP, zL_neK, zr_same, zr_ne]; exact s4 k hk hp
    · intro k hk hp; simp (disch := omega) only [z_same, z_neP, z_neK, zL_same, zL_neP, zL_neK, zr_same, zr_ne]; exact s5 k hk hp
    · intro k hk hp; simp (disch := omega) only [z_same, z_neP, z_neK, zL_same, zL_neP, zL_neK, zr_same, zr_ne]; exact s6 k hk hp
    · intro k hk; simp (disch := omega) only [z_same, z_neP, z_neK, zL_same, zL_neP, zL_neK, zr_same, zr_ne]; exact s7 k hk
    · intro k hk; simp (disch := omega) only [z_same, z_neP, z_neK, zL_same, zL_neP, zL_neK, zr_same, zr_ne]; exact s8 k hk
    · intro k hk; simp (disch := omega) only [z_same, z_neP, z_neK, zL_same, zL_neP, zL_neK, zr_same, zr_ne]; exact s9 k hk
    · intro k hk; simp (disch := omega) only [z_same, z_neP, z_neK, zL_same, zL_neP, zL_neK, zr_same, zr_ne]; exact s10 k hk
    · simp (disch := omega) only [z_same, z_neP, z_neK, zL_same, zL_neP, zL_neK, zr_same, zr_ne]; exact e52
    · simp (disch := omega) only [z_same, z_neP, z_neK, zL_same, zL_neP, zL_neK, zr_same, zr_ne]
    · exact RFr_tr hfr (RFr_z (by omega))
set_option maxHeartbeats 4000000 in
theorem r_arrives {V : zI} {L : zL} {v f t cm ls b x : Nat} {U : aU} {A : aS} {P : Nat → Prop} {dr : Bool} (hv : v < 22) (hR : UR V L b U) (hU : UB U) (hS : SRk V v A P) (hd : A.1 ≤ 999) (hm : A.2.2.2.2.1 ≤ 60) (hk : A.2.2.2.2.2.2.2.1 ≤ 50) (hh : ∀ k, k < 36 → A.2.1 k ≤ 99) (hg : ∀ k, k < 36 → A.2.2.2.1 k ≤ 99) (hf : f < 6) (ht : t < 6) (hc : V 0 52 = qi cm) (hlo : V 0 53 = qi ls) (hx : L 0 49 = qI x) (hxb : x < 2147483648) : zW (f_arrives (qi v) (qi f) (qi t) (qi (if dr = true then 1 else 0)) V L) (fun r => SRk r.1 v (delS A (6 * f + t) U.2.2.2.1 (drL U.2.2.2.2.1 dr x)) P ∧ r.1 0 52 = qi (if drL U.2.2.2.2.1 dr x = 1 then cm else cm + 1) ∧ r.1 0 53 = qi (if drL U.2.2.2.2.1 dr x = 1 then ls + 1 else ls) ∧ r.2 0 54 = (if drL U.2.2.2.2.1 dr x = 1 then L 0 54 else L 0 54 ||| bit6 (6 * f + t)) ∧ r.2 0 49 = qI (drX dr x) ∧ (∀ w, w ≠ 0 → r.2 w = L w) ∧ RFr v V r.1) := by
  have hb : b < 2 := hR.1.1
  have hlb : U.2.2.2.2.1 ≤ 100 := hU.1.2.2.2
  have e13 : V 0 13 = qi b := hR.1.2.1
  have e7 : V 7 (2 * b + 1) = qi U.2.2.2.2.1 := hR.1.2.2.2.2.2
  have z0 : (0 : Int32) = qi 0 := rfl
  have z1 : (1 : Int32) = qi 1 := rfl
  unfold f_arrives
  cases dr with
  | false =>
    have hz : drL U.2.2.2.2.1 false x = 0 := by simp [drL]
    have hzx : drX false x = x := by simp [drX]
    have h40 := r_arr40 (L := L) (l := 0) hv hR hU hS hd hm hk hh hg hf ht (by omega) hc hlo
    rw [hz, hzx]
    simp only [Bool.false_eq_true, ↓reduceIte, f_arrives_23, f_arrives_24, z0]
    refine zW_mono h40 (fun r hr => ?_)
    obtain ⟨q1, q2, q3, q4, q5, q6, q7⟩ := hr
    exact ⟨q1, q2, q3, q4, by rw [q5 49 (by omega)]; exact hx, q6, q7⟩
  | true =>
    have hlcg := lcg_b x
    have hzx : drX true x = lcg x := by simp [drX]
    have hdd := r_draw (V := V) hx hxb
    have hR2 : UR V (z_uL L 0 49 (qI (lcg x))) b U := UR_fr hR rfl (fun _ _ _ _ _ => rfl) (zL_neP (by omega))
    have h40 := fun l (hl : l < 2) => r_arr40 (L := z_uL L 0 49 (qI (lcg x))) (l := l) hv hR2 hU hS hd hm hk hh hg hf ht hl hc hlo
    rw [hzx]
    by_cases hlost : lcg x / 64 % 100 < U.2.2.2.2.1
    · have hz : drL U.2.2.2.2.1 true x = 1 := by simp [drL, hlost]
      rw [hz]
      simp (disch := omega) only [q_lit, hdd, f_toldOf, e13, e7, f_arrives_24, ↓reduceIte, o_bind, and_true, true_and, and_false, false_and, or_true, true_or, or_false, false_or, not_true, not_false_eq_true, not_false_iff, ne_eq, Nat.reduceAdd, Nat.reduceMul, Nat.reduceSub, Nat.reduceDiv, Nat.reduceMod, Nat.reduceLT, Nat.reduceLeDiff, Nat.reduceEqDiff, Nat.not_lt, Nat.not_le, q_lit, ↓q_m1, q_om, q_on, q_add, q_mul, q_sub, q_div, q_md, q_ltT, q_ltF, q_leT, q_leF, q_eqT, q_eqF, q_inT, q_inF, q_nn, q_mlt, q_ltm, q_mle, q_lem, q_nem, q_mne]
      refine zW_mono (h40 1 (by omega)) (fun r hr => ?_)
      obtain ⟨q1, q2, q3, q4, q5, q6, q7⟩ := hr
      refine ⟨q1, q2, q3, q4, by rw [q5 49 (by omega), zL_same], fun w hw => by rw [q6 w hw, zL_neP hw], q7⟩
    · have hz : drL U.2.2.2.2.1 true x = 0 := by simp [drL, hlost]
      rw [hz]
      simp (disch := omega) only [q_lit, hdd, f_toldOf, e13, e7, f_arrives_23, f_arrives_24, ↓reduceIte, o_bind, and_true, true_and, and_false, false_and, or_true, true_or, or_false, false_or, not_true, not_false_eq_true, not_false_iff, ne_eq, Nat.reduceAdd, Nat.reduceMul, Nat.reduceSub, Nat.reduceDiv, Nat.reduceMod, Nat.reduceLT, Nat.reduceLeDiff, Nat.reduceEqDiff, Nat.not_lt, Nat.not_le, q_lit, ↓q_m1, q_om, q_on, q_add, q_mul, q_sub, q_div, q_md, q_ltT, q_ltF, q_leT, q_leF, q_eqT, q_eqF, q_inT, q_inF, q_nn, q_mlt, q_ltm, q_mle, q_lem, q_nem, q_mne]
      refine zW_mono (h40 0 (by omega)) (fun r hr => ?_)
      obtain ⟨q1, q2, q3, q4, q5, q6, q7⟩ := hr
      refine ⟨q1, q2, q3, ?_, by rw [q5 49 (by omega), zL_same], fun w hw => by rw [q6 w hw, zL_neP hw], q7⟩
      rw [q4]
      simp (disch := omega) only [zL_neK]
      rfl
/-- three ints copied -/
theorem z_fix1 {σ ρ : Type} (body : (σ → Option ρ) → σ → Option ρ) (n : Nat) (s : σ) : zfix body (n + 1) s = body (zfix body n) s := rfl
theorem r_copy3 {k : Int32 × Int32 × Int32 × Int32 × zI × zL → Option (zI × zL)} {x1 x2 x3 x4 : Int32} {V : zI} {L : zL} {a c : Nat} (ha : a + 3 ≤ 3960) (hc : c + 3 ≤ a ∨ c = a) : zfix (b_passes_105 k) FU (x1, x2, x3, x4, qi a, qi c, qi 0, V, L) = k (x1, x2, x3 + 1, x4 + 1, z_uI (z_uI (z_uI V 25 c (V 25 a)) 25 (c + 1) (V 25 (a + 1))) 25 (c + 2) (V 25 (a + 2)), L) := by
  have e1 : z_uI V 25 c (V 25 a) 25 (a + 1) = V 25 (a + 1) := z_neK (by omega)
  have e2 : z_uI (z_uI V 25 c (V 25 a)) 25 (c + 1) (V 25 (a + 1)) 25 (a + 2) = V 25 (a + 2) := by rw [z_neK (by omega), z_neK (by omega)]
  rw [show FU = 9999999 + 1 from rfl, z_fix1]
  simp (disch := omega) only [b_passes_105, ↓reduceIte, o_bind, and_true, true_and, and_false, false_and, or_true, true_or, or_false, false_or, not_true, not_false_eq_true, not_false_iff, ne_eq, Nat.reduceAdd, Nat.reduceMul, Nat.reduceSub, Nat.reduceDiv, Nat.reduceMod, Nat.reduceLT, Nat.reduceLeDiff, Nat.reduceEqDiff, Nat.not_lt, Nat.not_le, q_lit, ↓q_m1, q_om, q_on, q_add, q_mul, q_sub, q_div, q_md, q_ltT, q_ltF, q_leT, q_leF, q_eqT, q_eqF, q_inT, q_inF, q_nn, q_mlt, q_ltm, q_mle, q_lem, q_nem, q_mne, Nat.add_zero, Nat.zero_add]
  rw [show (9999999 : Nat) = 9999998 + 1 from rfl, z_fix1]
  simp (disch := omega) only [b_passes_105, ↓reduceIte, o_bind, and_true, true_and, and_false, false_and, or_true, true_or, or_false, false_or, not_true, not_false_eq_true, not_false_iff, ne_eq, Nat.reduceAdd, Nat.reduceMul, Nat.reduceSub, Nat.reduceDiv, Nat.reduceMod, Nat.reduceLT, Nat.reduceLeDiff, Nat.reduceEqDiff, Nat.not_lt, Nat.not_le, q_lit, ↓q_m1, q_om, q_on, q_add, q_mul, q_sub, q_div, q_md, q_ltT, q_ltF, q_leT, q_leF, q_eqT, q_eqF, q_inT, q_inF, q_nn, q_mlt, q_ltm, q_mle, q_lem, q_nem, q_mne, e1, Nat.zero_add]
  rw [show (9999998 : Nat) = 9999997 + 1 from rfl, z_fix1]
  simp (disch := omega) only [b_passes_105, ↓reduceIte, o_bind, and_true, true_and, and_false, false_and, or_true, true_or, or_false, false_or, not_true, not_false_eq_true, not_false_iff, ne_eq, Nat.reduceAdd, Nat.reduceMul, Nat.reduceSub, Nat.reduceDiv, Nat.reduceMod, Nat.reduceLT, Nat.reduceLeDiff, Nat.reduceEqDiff, Nat.not_lt, Nat.not_le, q_lit, ↓q_m1, q_om, q_on, q_add, q_mul, q_sub, q_div, q_md, q_ltT, q_ltF, q_leT, q_leF, q_eqT, q_eqF, q_inT, q_inF, q_nn, q_mlt, q_ltm, q_mle, q_lem, q_nem, q_mne, e2, Nat.zero_add]
  rw [show (9999997 : Nat) = 9999996 + 1 from rfl, z_fix1]
  simp (disch := omega) only [b_passes_105, ↓reduceIte, o_bind, and_true, true_and, and_false, false_and, or_true, true_or, or_false, false_or, not_true, not_false_eq_true, not_false_iff, ne_eq, Nat.reduceAdd, Nat.reduceMul, Nat.reduceSub, Nat.reduceDiv, Nat.reduceMod, Nat.reduceLT, Nat.reduceLeDiff, Nat.reduceEqDiff, Nat.not_lt, Nat.not_le, q_lit, ↓q_m1, q_om, q_on, q_add, q_mul, q_sub, q_div, q_md, q_ltT, q_ltF, q_leT, q_leF, q_eqT, q_eqF, q_inT, q_inF, q_nn, q_mlt, q_ltm, q_mle, q_lem, q_nem, q_mne]
end
