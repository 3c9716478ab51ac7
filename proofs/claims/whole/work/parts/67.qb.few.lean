section
variable {n : Nat} {K N : Nat → Nat} {G : zG} {V R : zI} {L M : zL} {u b f0 cnt acts x : Nat} {pl : Nat → Nat} {U : aU} {A : aS} {hi : Nat → aS} {o q tw : Nat} {md : Option (Nat × Nat)} {ofr : Nat → Nat}
/-! The fewest pairs: md none: to add, so that all word goes; some (f, g): to take, so that none goes from f to g. -/
def metB (tw : Nat) (md : Option (Nat × Nat)) (o : Nat) : Bool := match md with
  | none => (List.range tw).all (fun t => rch o t == 2 ^ tw - 1)
  | some (f, g) => !((rch o f).testBit g)
def canB (md : Option (Nat × Nat)) (way : Nat → Nat) (o p : Nat) : Bool := match md with
  | none => decide (0 < way p) && !(o.testBit p)
  | some _ => o.testBit p
/-- p1 < p2 < .. from lo on, each one offered, all turned over -/
def okP (can met : Nat → Bool) : Nat → Nat → Nat → List Nat → Prop
  | 0, o, _, l => l = [] ∧ met o = true
  | k + 1, o, lo, l => ∃ p l', l = p :: l' ∧ (lo ≤ p ∧ p < 36) ∧ can p = true ∧ okP can met k (o ^^^ 2 ^ p) (p + 1) l'
def lxL : List Nat → List Nat → Prop
  | p :: l, p' :: l' => p < p' ∨ (p = p' ∧ lxL l l')
  | _, _ => False
def offC (V : zI) (q cnt : Nat) (ofr : Nat → Nat) (can : Nat → Bool) : Prop := cnt ≤ 36 ∧ V q 1 = qi cnt ∧ (∀ i, i < cnt → V (q + 1) i = qi (ofr i) ∧ ofr i < 36 ∧ can (ofr i) = true) ∧ (∀ i j, i < j → j < cnt → ofr i < ofr j) ∧ ∀ p, p < 36 → can p = true → ∃ i, i < cnt ∧ ofr i = p
def fwS (N : Nat → Nat) (G : zG) (q : Nat) : Prop := G q 0 = some (q + 1) ∧ G q 2 = some (q + 2) ∧ N (q + 1) = 36 ∧ N (q + 2) = 3
def mdC (V : zI) (q tw : Nat) (md : Option (Nat × Nat)) : Prop := match md with
  | none => V q 4 = qi 1 ∧ V q 5 = qi tw ∧ tw ≤ 6
  | some (f, g) => V q 4 = qi 0 ∧ V q 6 = qi f ∧ V q 7 = qi g ∧ f < 6 ∧ g < 6
theorem xo_b {p : Nat} (ho : o < 68719476736) (hp : p < 36) : o ^^^ 2 ^ p < 68719476736 := Nat.xor_lt_two_pow (n := 36) ho (Nat.pow_lt_pow_right (by decide) hp)
theorem qb_all {tw : Nat} (h : tw ≤ 6) : ((1 : Int32) <<< (qi tw &&& 31)) - 1 = qi (2 ^ tw - 1) := by
  rw [qb_1 tw (by omega)]
  exact q_sub (Nat.two_pow_pos tw)
theorem cs_joinAll (ho : o < 68719476736) (htw : tw ≤ 6) : f_X6_joinAll (qI o) (qi tw) = some (qi (metB tw none o).toNat) := by
  have h64 : 2 ^ tw ≤ 2 ^ 6 := Nat.pow_le_pow_right (by decide) htw
  apply zW_of
  unfold f_X6_joinAll g_X6_joinAll
  rw [qb_all htw]
  refine zW_lp (I := fun r s => ∃ i : Nat, i ≤ tw ∧ r = tw - i ∧ s = (qI o, qi tw, qi (2 ^ tw - 1), qi i) ∧ ∀ t, t < i → rch o t = 2 ^ tw - 1) ?_ FU tw _ ⟨0, by omega, by omega, rfl, fun t h => absurd h (by omega)⟩ (FU_big (by omega))
  rintro k r s ⟨i, hi, rfl, rfl, hk⟩ ih
  by_cases hend : i = tw
  · subst hend
    simp (disch := omega) only [b_X6_joinAll_9, Nat.le_refl, ↓reduceIte, o_bind, and_true, true_and, and_false, false_and, or_true, true_or, or_false, false_or, not_true, not_false_eq_true, not_false_iff, ne_eq, Nat.reduceAdd, Nat.reduceMul, Nat.reduceSub, Nat.reduceDiv, Nat.reduceMod, Nat.reduceLT, Nat.reduceLeDiff, Nat.reduceEqDiff, Nat.not_lt, Nat.not_le, q_lit, ↓q_m1, q_om, q_on, q_add, q_mul, q_sub, q_div, q_md, q_ltT, q_ltF, q_leT, q_leF, q_eqT, q_eqF, q_inT, q_inF, q_nn, q_mlt, q_ltm, q_mle, q_lem, q_nem, q_mne]
    refine zW_some ?_
    have : metB i none o = true := by
      unfold metB
      dsimp only
      rw [List.all_eq_true]
      intro t ht
      rw [beq_iff_eq]
      exact hk t (List.mem_range.mp ht)
    rw [this]
    rfl
  · have ec := cs_reach (o := o) ho (t := i) (by omega)
    have hrb := rch_b (o := o) (t := i) (by omega)
    by_cases he : rch o i = 2 ^ tw - 1
    · simp (disch := omega) only [b_X6_joinAll_9, ec, ↓reduceIte, o_bind, and_true, true_and, and_false, false_and, or_true, true_or, or_false, false_or, not_true, not_false_eq_true, not_false_iff, ne_eq, Nat.reduceAdd, Nat.reduceMul, Nat.reduceSub, Nat.reduceDiv, Nat.reduceMod, Nat.reduceLT, Nat.reduceLeDiff, Nat.reduceEqDiff, Nat.not_lt, Nat.not_le, q_lit, ↓q_m1, q_om, q_on, q_add, q_mul, q_sub, q_div, q_md, q_ltT, q_ltF, q_leT, q_leF, q_eqT, q_eqF, q_inT, q_inF, q_nn, q_mlt, q_ltm, q_mle, q_lem, q_nem, q_mne]
      refine ih (tw - (i + 1)) _ (by omega) ⟨i + 1, by omega, rfl, rfl, fun t ht => ?_⟩
      by_cases hti : t = i
      · subst hti; exact he
      · exact hk t (by omega)
    · simp (disch := omega) only [b_X6_joinAll_9, ec, ↓reduceIte, o_bind, and_true, true_and, and_false, false_and, or_true, true_or, or_false, false_or, not_true, not_false_eq_true, not_false_iff, ne_eq, Nat.reduceAdd, Nat.reduceMul, Nat.reduceSub, Nat.reduceDiv, Nat.reduceMod, Nat.reduceLT, Nat.reduceLeDiff, Nat.reduceEqDiff, Nat.not_lt, Nat.not_le, q_lit, ↓q_m1, q_om, q_on, q_add, q_mul, q_sub, q_div, q_md, q_ltT, q_ltF, q_leT, q_leF, q_eqT, q_eqF, q_inT, q_inF, q_nn, q_mlt, q_ltm, q_mle, q_lem, q_nem, q_mne]
      refine zW_some ?_
      have : metB tw none o = false := by
        cases hm : metB tw none o with
        | false => rfl
        | true =>
          unfold metB at hm
          dsimp only at hm
          rw [List.all_eq_true] at hm
          have := hm i (List.mem_range.mpr (by omega))
          rw [beq_iff_eq] at this
          exact absurd this he
      rw [this]
      rfl
theorem zB_t (c : Bool) : zB (qi c.toNat) := by cases c <;> decide
theorem cs_isMet (ho : o < 68719476736) (hm : mdC V q tw md) : f_X2_isMet N G q (qI o) V L = some (qi (metB tw md o).toNat) := by
  unfold f_X2_isMet g_X2_isMet
  match md, hm with
  | none, ⟨h4, h5, htw⟩ =>
    simp (disch := omega) only [h4, h5, cs_joinAll ho htw, ↓reduceIte, o_bind, and_true, true_and, and_false, false_and, or_true, true_or, or_false, false_or, not_true, not_false_eq_true, not_false_iff, ne_eq, Nat.reduceAdd, Nat.reduceMul, Nat.reduceSub, Nat.reduceDiv, Nat.reduceMod, Nat.reduceLT, Nat.reduceLeDiff, Nat.reduceEqDiff, Nat.not_lt, Nat.not_le, q_lit, ↓q_m1, q_om, q_on, q_add, q_mul, q_sub, q_div, q_md, q_ltT, q_ltF, q_leT, q_leF, q_eqT, q_eqF, q_inT, q_inF, q_nn, q_mlt, q_ltm, q_mle, q_lem, q_nem, q_mne]
    rw [if_pos (zB_t _)]
  | some (f, g), ⟨h4, h6, h7, hf, hg⟩ =>
    have hrb := rch_b (o := o) (t := f) (by omega)
    have hq := q_tbt hrb (a := g) hg
    show _ = some (qi (!((rch o f).testBit g)).toNat)
    cases hb : (rch o f).testBit g with
    | false =>
      have hq' := hq.mpr hb
      simp (disch := omega) only [h4, h6, h7, cs_reach ho, hq', ↓reduceIte, o_bind, and_true, true_and, and_false, false_and, or_true, true_or, or_false, false_or, not_true, not_false_eq_true, not_false_iff, ne_eq, Nat.reduceAdd, Nat.reduceMul, Nat.reduceSub, Nat.reduceDiv, Nat.reduceMod, Nat.reduceLT, Nat.reduceLeDiff, Nat.reduceEqDiff, Nat.not_lt, Nat.not_le, q_lit, ↓q_m1, q_om, q_on, q_add, q_mul, q_sub, q_div, q_md, q_ltT, q_ltF, q_leT, q_leF, q_eqT, q_eqF, q_inT, q_inF, q_nn, q_mlt, q_ltm, q_mle, q_lem, q_nem, q_mne]
      rfl
    | true =>
      have hq' : ¬ ((qi (rch o f) >>> (qi g &&& qi 31)) &&& qi 1 = qi 0) := fun h => by rw [hq.mp h] at hb; cases hb
      simp (disch := omega) only [h4, h6, h7, cs_reach ho, hq', ↓reduceIte, o_bind, and_true, true_and, and_false, false_and, or_true, true_or, or_false, false_or, not_true, not_false_eq_true, not_false_iff, ne_eq, Nat.reduceAdd, Nat.reduceMul, Nat.reduceSub, Nat.reduceDiv, Nat.reduceMod, Nat.reduceLT, Nat.reduceLeDiff, Nat.reduceEqDiff, Nat.not_lt, Nat.not_le, q_lit, ↓q_m1, q_om, q_on, q_add, q_mul, q_sub, q_div, q_md, q_ltT, q_ltF, q_leT, q_leF, q_eqT, q_eqF, q_inT, q_inF, q_nn, q_mlt, q_ltm, q_mle, q_lem, q_nem, q_mne]
      rfl
theorem mdC_fr {V' : zI} (h : mdC V q tw md) (hv : V' q = V q) : mdC V' q tw md := by
  unfold mdC at h ⊢
  rw [hv]
  exact h
set_option maxHeartbeats 4000000 in
theorem cs_choose {can : Nat → Bool} (hf : fwS N G q) : ∀ (rem d : Nat), rem < d → ∀ (V : zI) (L : zL) (o w dep f lo : Nat), w = dep + rem → w ≤ 3 → o < 68719476736 → mdC V q tw md → offC V q cnt ofr can → (∀ i, i < cnt → (f ≤ i ↔ lo ≤ ofr i)) → f ≤ cnt → zW (FF_GC d N G q (qI o) (qi w) (qi dep) (qi f) V L) (fun r => ((r.1 = qi 1 ∧ ∃ l, okP can (metB tw md) rem o lo l ∧ (∀ l', okP can (metB tw md) rem o lo l' → ¬ lxL l' l) ∧ l.length = rem ∧ ∀ k, k < rem → r.2.1 (q + 2) (dep + k) = qi (l.getD k 0)) ∨ (r.1 = qi 0 ∧ ∀ l, ¬ okP can (metB tw md) rem o lo l)) ∧ (∀ w, w ≠ q + 2 → r.2.1 w = V w) ∧ ∀ k, k < dep → r.2.1 (q + 2) k = V (q + 2) k) := by
  intro rem
  induction rem with
  | zero =>
    intro d hd V L o w dep f lo hw hw3 ho hm hof hlo hfc
    obtain ⟨d, rfl⟩ : ∃ d', d = d' + 1 := ⟨d - 1, by omega⟩
    obtain ⟨k0, k2, -, -⟩ := id hf
    obtain rfl : w = dep := by omega
    have e := cs_isMet (N := N) (G := G) (L := L) ho hm
    show zW (f_X2_choose (FF_GC d) N G q (qI o) (qi w) (qi w) (qi f) V L) _
    unfold f_X2_choose g_X2_choose f_X2_choose_12
    rw [k0, k2]
    simp (disch := omega) only [e, Nat.le_refl, ↓reduceIte, o_bind, and_true, true_and, and_false, false_and, or_true, true_or, or_false, false_or, not_true, not_false_eq_true, not_false_iff, ne_eq, Nat.reduceAdd, Nat.reduceMul, Nat.reduceSub, Nat.reduceDiv, Nat.reduceMod, Nat.reduceLT, Nat.reduceLeDiff, Nat.reduceEqDiff, Nat.not_lt, Nat.not_le, q_lit, ↓q_m1, q_om, q_on, q_add, q_mul, q_sub, q_div, q_md, q_ltT, q_ltF, q_leT, q_leF, q_eqT, q_eqF, q_inT, q_inF, q_nn, q_mlt, q_ltm, q_mle, q_lem, q_nem, q_mne]
    rw [if_pos (zB_t _)]
    refine zW_some ?_
    dsimp only
    refine ⟨?_, fun _ _ => rfl, fun _ _ => rfl⟩
    cases hc : metB tw md o with
    | true => exact Or.inl ⟨rfl, [], ⟨rfl, hc⟩, fun l' h' => (by rw [h'.1]; exact fun h => h), rfl, fun k hk => absurd hk (by omega)⟩
    | false => exact Or.inr ⟨rfl, fun l h => by rw [h.2] at hc; cases hc⟩
  | succ rem ih =>
    intro d hd V L o w dep f lo hw hw3 ho hm hof hlo hfc
    obtain ⟨d, rfl⟩ : ∃ d', d = d' + 1 := ⟨d - 1, by omega⟩
    obtain ⟨k0, k2, n1, n2⟩ := id hf
    obtain ⟨c36, e1, c1, c2, c3⟩ := id hof
    show zW (f_X2_choose (FF_GC d) N G q (qI o) (qi w) (qi dep) (qi f) V L) _
    unfold f_X2_choose g_X2_choose
    rw [k0, k2]
    simp (disch := omega) only [↓reduceIte, o_bind, and_true, true_and, and_false, false_and, or_true, true_or, or_false, false_or, not_true, not_false_eq_true, not_false_iff, ne_eq, Nat.reduceAdd, Nat.reduceMul, Nat.reduceSub, Nat.reduceDiv, Nat.reduceMod, Nat.reduceLT, Nat.reduceLeDiff, Nat.reduceEqDiff, Nat.not_lt, Nat.not_le, q_lit, ↓q_m1, q_om, q_on, q_add, q_mul, q_sub, q_div, q_md, q_ltT, q_ltF, q_leT, q_leF, q_eqT, q_eqF, q_inT, q_inF, q_nn, q_mlt, q_ltm, q_mle, q_lem, q_nem, q_mne]
    refine zW_lp (I := fun r s => ∃ (i : Nat) (V1 : zI) (L1 : zL), f ≤ i ∧ i ≤ cnt ∧ r = cnt - i ∧ s = (qI o, qi w, qi dep, qi i, V1, L1) ∧ (∀ j, f ≤ j → j < i → ∀ l, ¬ okP can (metB tw md) rem (o ^^^ 2 ^ ofr j) (ofr j + 1) l) ∧ (∀ w, w ≠ q + 2 → V1 w = V w) ∧ ∀ k, k < dep → V1 (q + 2) k = V (q + 2) k) ?_ FU (cnt - f) _ ⟨f, V, L, Nat.le_refl _, hfc, rfl, rfl, fun j h1 h2 => absurd h2 (by omega), fun _ _ => rfl, fun _ _ => rfl⟩ (FU_big (by omega))
    rintro kk r s ⟨i, V1, L1, hi1, hi2, rfl, rfl, hno, hw1, hk1⟩ lih
    have e11 : V1 q 1 = qi cnt := by rw [hw1 q (by omega)]; exact e1
    by_cases hend : i = cnt
    · subst hend
      simp (disch := omega) only [b_X2_choose_22, e11, Nat.le_refl, ↓reduceIte, o_bind, and_true, true_and, and_false, false_and, or_true, true_or, or_false, false_or, not_true, not_false_eq_true, not_false_iff, ne_eq, Nat.reduceAdd, Nat.reduceMul, Nat.reduceSub, Nat.reduceDiv, Nat.reduceMod, Nat.reduceLT, Nat.reduceLeDiff, Nat.reduceEqDiff, Nat.not_lt, Nat.not_le, q_lit, ↓q_m1, q_om, q_on, q_add, q_mul, q_sub, q_div, q_md, q_ltT, q_ltF, q_leT, q_leF, q_eqT, q_eqF, q_inT, q_inF, q_nn, q_mlt, q_ltm, q_mle, q_lem, q_nem, q_mne]
      refine zW_some ⟨Or.inr ⟨rfl, ?_⟩, hw1, hk1⟩
      rintro l ⟨p, l', rfl, ⟨hp1, hp2⟩, hcp, hok⟩
      obtain ⟨j, hj, rfl⟩ := c3 p hp2 hcp
      exact hno j ((hlo j hj).mpr hp1) hj l' hok
    · have hic : i < cnt := by omega
      obtain ⟨v1, v2, v3⟩ := c1 i hic
      have v1' : V1 (q + 1) i = qi (ofr i) := by rw [hw1 (q + 1) (by omega)]; exact v1
      have v1'' : z_uI V1 (q + 2) dep (qi (ofr i)) (q + 1) i = qi (ofr i) := by rw [z_neP (by omega)]; exact v1'
      have hxo := xo_b ho v2
      have hx : qI o ^^^ ((1 : Int64) <<< ((qi (ofr i)).toInt64 &&& 63)) = qI (o ^^^ 2 ^ ofr i) := by
        have hp : 2 ^ ofr i < 2 ^ 36 := Nat.pow_lt_pow_right (by decide) v2
        rw [qb_L1 _ (by omega), Q_xor (by omega) (by omega)]
      have hm1 : mdC (z_uI V1 (q + 2) dep (qi (ofr i))) q tw md := mdC_fr hm (by rw [z_neP (by omega)]; exact hw1 q (by omega))
      have hof1 : offC (z_uI V1 (q + 2) dep (qi (ofr i))) q cnt ofr can := by
        refine ⟨c36, by rw [z_neP (by omega)]; exact e11, fun j hj => ⟨?_, (c1 j hj).2⟩, c2, c3⟩
        rw [z_neP (by omega), hw1 (q + 1) (by omega)]
        exact (c1 j hj).1
      have hrec := ih d (by omega) (z_uI V1 (q + 2) dep (qi (ofr i))) L1 (o ^^^ 2 ^ ofr i) w (dep + 1) (i + 1) (ofr i + 1) (by omega) hw3 hxo hm1 hof1 (fun j hj => ⟨fun h => c2 i j (by omega) hj, fun h => by
        rcases Nat.lt_trichotomy i j with h' | h' | h'
        · exact h'
        · subst h'; omega
        · have := c2 j i h' hic; omega⟩) (by omega)
      simp (disch := omega) only [b_X2_choose_22, e11, n1, n2, v1', v1'', hx, ↓reduceIte, o_bind, and_true, true_and, and_false, false_and, or_true, true_or, or_false, false_or, not_true, not_false_eq_true, not_false_iff, ne_eq, Nat.reduceAdd, Nat.reduceMul, Nat.reduceSub, Nat.reduceDiv, Nat.reduceMod, Nat.reduceLT, Nat.reduceLeDiff, Nat.reduceEqDiff, Nat.not_lt, Nat.not_le, q_lit, ↓q_m1, q_om, q_on, q_add, q_mul, q_sub, q_div, q_md, q_ltT, q_ltF, q_leT, q_leF, q_eqT, q_eqF, q_inT, q_inF, q_nn, q_mlt, q_ltm, q_mle, q_lem, q_nem, q_mne]
      refine zW_call hrec ?_
      rintro ⟨y, V2, L2⟩ ⟨p1, p2, p3⟩
      dsimp only at p1 p2 p3 ⊢
      have hw2 : ∀ w, w ≠ q + 2 → V2 w = V w := fun w h => by rw [p2 w h, z_neP h]; exact hw1 w h
      have hk2 : ∀ k, k < dep → V2 (q + 2) k = V (q + 2) k := fun k h => by rw [p3 k (by omega), z_neK (by omega)]; exact hk1 k h
      rcases p1 with ⟨rfl, l, q1, q2, q3, q4⟩ | ⟨rfl, q1⟩
      · simp (disch := omega) only [↓reduceIte, o_bind, and_true, true_and, and_false, false_and, or_true, true_or, or_false, false_or, not_true, not_false_eq_true, not_false_iff, ne_eq, Nat.reduceAdd, Nat.reduceMul, Nat.reduceSub, Nat.reduceDiv, Nat.reduceMod, Nat.reduceLT, Nat.reduceLeDiff, Nat.reduceEqDiff, Nat.not_lt, Nat.not_le, q_lit, ↓q_m1, q_om, q_on, q_add, q_mul, q_sub, q_div, q_md, q_ltT, q_ltF, q_leT, q_leF, q_eqT, q_eqF, q_inT, q_inF, q_nn, q_mlt, q_ltm, q_mle, q_lem, q_nem, q_mne]
        refine zW_some ⟨Or.inl ⟨rfl, ofr i :: l, ⟨ofr i, l, rfl, ⟨(hlo i hic).mp hi1, v2⟩, v3, q1⟩, ?_, by rw [List.length_cons, q3], fun k hk => ?_⟩, hw2, hk2⟩
        · rintro l' ⟨p, l'', rfl, ⟨hp1, hp2⟩, hcp, hok⟩ hlx
          obtain ⟨j, hj, rfl⟩ := c3 p hp2 hcp
          rcases hlx with hlt | ⟨heq, hlx⟩
          · have hji : j < i := by
              rcases Nat.lt_trichotomy j i with h' | h' | h'
              · exact h'
              · subst h'; omega
              · have := c2 i j h' hj; omega
            exact hno j ((hlo j hj).mpr hp1) hji l'' hok
          · rw [heq] at hok
            exact q2 l'' hok hlx
        · match k with
          | 0 =>
            show V2 (q + 2) dep = qi (ofr i)
            rw [p3 dep (by omega), z_same]
          | k + 1 =>
            have := q4 k (by omega)
            rw [show dep + (k + 1) = dep + 1 + k by omega]
            exact this
      · simp (disch := omega) only [↓reduceIte, o_bind, and_true, true_and, and_false, false_and, or_true, true_or, or_false, false_or, not_true, not_false_eq_true, not_false_iff, ne_eq, Nat.reduceAdd, Nat.reduceMul, Nat.reduceSub, Nat.reduceDiv, Nat.reduceMod, Nat.reduceLT, Nat.reduceLeDiff, Nat.reduceEqDiff, Nat.not_lt, Nat.not_le, q_lit, ↓q_m1, q_om, q_on, q_add, q_mul, q_sub, q_div, q_md, q_ltT, q_ltF, q_leT, q_leF, q_eqT, q_eqF, q_inT, q_inF, q_nn, q_mlt, q_ltm, q_mle, q_lem, q_nem, q_mne]
        refine lih (cnt - (i + 1)) _ (by omega) ⟨i + 1, V2, L2, by omega, by omega, rfl, rfl, fun j h1 h2 => ?_, hw2, hk2⟩
        by_cases hji : j = i
        · subst hji; exact q1
        · exact hno j h1 (by omega)
/-- what is told: how many, and which -/
def fwT (can met : Nat → Bool) (o : Nat) (ans : Option (List Nat)) : Prop := match ans with
  | none => ∀ k, k ≤ 3 → ∀ l, ¬ okP can met k o 0 l
  | some l => l.length ≤ 3 ∧ okP can met l.length o 0 l ∧ (∀ l', okP can met l.length o 0 l' → ¬ lxL l' l) ∧ ∀ k, k < l.length → ∀ l', ¬ okP can met k o 0 l'
set_option maxHeartbeats 4000000 in
theorem cs_seek {can : Nat → Bool} (hf : fwS N G q) (ho : o < 68719476736) (hm : mdC V q tw md) (hof : offC V q cnt ofr can) (h3 : V q 3 = qm) : zW (f_X2_seek N G q (qI o) V L) (fun r => (∃ ans, fwT can (metB tw md) o ans ∧ (match ans with | none => r.1 q 3 = qm | some l => r.1 q 3 = qi l.length ∧ ∀ k, k < l.length → r.1 (q + 2) k = qi (l.getD k 0))) ∧ ∀ w, w ≠ q → w ≠ q + 2 → r.1 w = V w) := by
  unfold f_X2_seek g_X2_seek
  refine zW_lp (I := fun r s => ∃ (k : Nat) (V1 : zI) (L1 : zL), k ≤ 4 ∧ r = 4 - k ∧ s = (qI o, qi k, V1, L1) ∧ (∀ j, j < k → ∀ l, ¬ okP can (metB tw md) j o 0 l) ∧ ∀ w, w ≠ q + 2 → V1 w = V w) ?_ FU 4 _ ⟨0, V, L, by omega, by omega, rfl, fun j hj => absurd hj (by omega), fun _ _ => rfl⟩ (FU_big (by omega))
  rintro kk r s ⟨k, V1, L1, hk, rfl, rfl, hno, hw⟩ ih
  have eq1 : V1 q = V q := hw q (by omega)
  by_cases hend : k = 4
  · subst hend
    simp (disch := omega) only [b_X2_seek_2, ↓reduceIte, o_bind, and_true, true_and, and_false, false_and, or_true, true_or, or_false, false_or, not_true, not_false_eq_true, not_false_iff, ne_eq, Nat.reduceAdd, Nat.reduceMul, Nat.reduceSub, Nat.reduceDiv, Nat.reduceMod, Nat.reduceLT, Nat.reduceLeDiff, Nat.reduceEqDiff, Nat.not_lt, Nat.not_le, q_lit, ↓q_m1, q_om, q_on, q_add, q_mul, q_sub, q_div, q_md, q_ltT, q_ltF, q_leT, q_leF, q_eqT, q_eqF, q_inT, q_inF, q_nn, q_mlt, q_ltm, q_mle, q_lem, q_nem, q_mne]
    exact zW_some ⟨⟨none, fun k hk l => hno k (by omega) l, (show V1 q 3 = qm by rw [eq1]; exact h3)⟩, fun w _ h => hw w h⟩
  · have hof1 : offC V1 q cnt ofr can := by
      obtain ⟨c36, e1, c1, c2, c3⟩ := hof
      exact ⟨c36, by rw [eq1]; exact e1, fun j hj => ⟨by rw [hw (q + 1) (by omega)]; exact (c1 j hj).1, (c1 j hj).2⟩, c2, c3⟩
    have hch := cs_choose (can := can) hf k 8 (by omega) V1 L1 o k 0 0 0 (by omega) (by omega) ho (mdC_fr hm eq1) hof1 (fun i _ => ⟨fun _ => Nat.zero_le _, fun _ => Nat.zero_le _⟩) (Nat.zero_le _)
    simp (disch := omega) only [b_X2_seek_2, f_X2_choose_T, ↓reduceIte, o_bind, and_true, true_and, and_false, false_and, or_true, true_or, or_false, false_or, not_true, not_false_eq_true, not_false_iff, ne_eq, Nat.reduceAdd, Nat.reduceMul, Nat.reduceSub, Nat.reduceDiv, Nat.reduceMod, Nat.reduceLT, Nat.reduceLeDiff, Nat.reduceEqDiff, Nat.not_lt, Nat.not_le, q_lit, ↓q_m1, q_om, q_on, q_add, q_mul, q_sub, q_div, q_md, q_ltT, q_ltF, q_leT, q_leF, q_eqT, q_eqF, q_inT, q_inF, q_nn, q_mlt, q_ltm, q_mle, q_lem, q_nem, q_mne]
    refine zW_call hch ?_
    rintro ⟨y, V2, L2⟩ ⟨p1, p2, p3⟩
    dsimp only at p1 p2 p3 ⊢
    rcases p1 with ⟨rfl, l, q1, q2, q3, q4⟩ | ⟨rfl, q1⟩
    · simp (disch := omega) only [↓reduceIte, o_bind, and_true, true_and, and_false, false_and, or_true, true_or, or_false, false_or, not_true, not_false_eq_true, not_false_iff, ne_eq, Nat.reduceAdd, Nat.reduceMul, Nat.reduceSub, Nat.reduceDiv, Nat.reduceMod, Nat.reduceLT, Nat.reduceLeDiff, Nat.reduceEqDiff, Nat.not_lt, Nat.not_le, q_lit, ↓q_m1, q_om, q_on, q_add, q_mul, q_sub, q_div, q_md, q_ltT, q_ltF, q_leT, q_leF, q_eqT, q_eqF, q_inT, q_inF, q_nn, q_mlt, q_ltm, q_mle, q_lem, q_nem, q_mne]
      refine zW_some ?_
      dsimp only
      subst q3
      refine ⟨⟨some l, ⟨by omega, q1, q2, hno⟩, z_same, fun k hk => ?_⟩, fun w h1 h2 => by rw [z_neP h1, p2 w h2]; exact hw w h2⟩
      have := q4 k hk
      rw [Nat.zero_add] at this
      rw [z_neP (by omega)]
      exact this
    · simp (disch := omega) only [↓reduceIte, o_bind, and_true, true_and, and_false, false_and, or_true, true_or, or_false, false_or, not_true, not_false_eq_true, not_false_iff, ne_eq, Nat.reduceAdd, Nat.reduceMul, Nat.reduceSub, Nat.reduceDiv, Nat.reduceMod, Nat.reduceLT, Nat.reduceLeDiff, Nat.reduceEqDiff, Nat.not_lt, Nat.not_le, q_lit, ↓q_m1, q_om, q_on, q_add, q_mul, q_sub, q_div, q_md, q_ltT, q_ltF, q_leT, q_leF, q_eqT, q_eqF, q_inT, q_inF, q_nn, q_mlt, q_ltm, q_mle, q_lem, q_nem, q_mne]
      refine ih (4 - (k + 1)) _ (by omega) ⟨k + 1, V2, L2, by omega, rfl, rfl, fun j hj l => ?_, fun w h => by rw [p2 w h]; exact hw w h⟩
      by_cases hjk : j = k
      · subst hjk; exact q1 l
      · exact hno j (by omega) l
def tlA (k : Int32) (ans : Option (List Nat)) : Int32 := match ans with
  | none => qm
  | some l => if k = qm then qi l.length else if k < qi 0 then qm else if qi l.length ≤ k then qm else qi (l.getD k.toNatClampNeg 0)
theorem cs_tell {k : Int32} {ans : Option (List Nat)} (hf : fwS N G q) (hl : ∀ l, ans = some l → l.length ≤ 3) (h : match ans with | none => V q 3 = qm | some l => V q 3 = qi l.length ∧ ∀ k, k < l.length → V (q + 2) k = qi (l.getD k 0)) : f_X2_tell N G q k V L = some (tlA k ans) := by
  obtain ⟨k0, k2, n1, n2⟩ := id hf
  unfold f_X2_tell g_X2_tell tlA
  rw [k2, o_bind]
  cases ans with
  | none =>
    have h : V q 3 = qm := h
    rw [h]
    rcases q_cases k with hk | ⟨j, hj, rfl⟩
    · have hk' : k < 0 := hk
      simp only [hk', ↓reduceIte]
      split <;> rfl
    · simp (disch := omega) only [↓reduceIte, o_bind, and_true, true_and, and_false, false_and, or_true, true_or, or_false, false_or, not_true, not_false_eq_true, not_false_iff, ne_eq, Nat.reduceAdd, Nat.reduceMul, Nat.reduceSub, Nat.reduceDiv, Nat.reduceMod, Nat.reduceLT, Nat.reduceLeDiff, Nat.reduceEqDiff, Nat.not_lt, Nat.not_le, q_lit, ↓q_m1, q_om, q_on, q_add, q_mul, q_sub, q_div, q_md, q_ltT, q_ltF, q_leT, q_leF, q_eqT, q_eqF, q_inT, q_inF, q_nn, q_mlt, q_ltm, q_mle, q_lem, q_nem, q_mne]
  | some l =>
    obtain ⟨h1, h2⟩ := h
    have hl3 := hl l rfl
    rw [h1]
    rcases q_cases k with hk | ⟨j, hj, rfl⟩
    · have hk' : k < 0 := hk
      simp only [hk', hk, ↓reduceIte]
      by_cases hm : k = qm
      · have hm' : k = -1 := hm
        simp only [hm', hm, ↓reduceIte]
        rfl
      · have hm' : ¬ k = -1 := hm
        simp only [hm', hm, ↓reduceIte]
        rfl
    · by_cases hjl : j < l.length
      · simp (disch := omega) only [n2, h2, ↓reduceIte, o_bind, and_true, true_and, and_false, false_and, or_true, true_or, or_false, false_or, not_true, not_false_eq_true, not_false_iff, ne_eq, Nat.reduceAdd, Nat.reduceMul, Nat.reduceSub, Nat.reduceDiv, Nat.reduceMod, Nat.reduceLT, Nat.reduceLeDiff, Nat.reduceEqDiff, Nat.not_lt, Nat.not_le, q_lit, ↓q_m1, q_om, q_on, q_add, q_mul, q_sub, q_div, q_md, q_ltT, q_ltF, q_leT, q_leF, q_eqT, q_eqF, q_inT, q_inF, q_nn, q_mlt, q_ltm, q_mle, q_lem, q_nem, q_mne]
      · simp (disch := omega) only [↓reduceIte, o_bind, and_true, true_and, and_false, false_and, or_true, true_or, or_false, false_or, not_true, not_false_eq_true, not_false_iff, ne_eq, Nat.reduceAdd, Nat.reduceMul, Nat.reduceSub, Nat.reduceDiv, Nat.reduceMod, Nat.reduceLT, Nat.reduceLeDiff, Nat.reduceEqDiff, Nat.not_lt, Nat.not_le, q_lit, ↓q_m1, q_om, q_on, q_add, q_mul, q_sub, q_div, q_md, q_ltT, q_ltF, q_leT, q_leF, q_eqT, q_eqF, q_inT, q_inF, q_nn, q_mlt, q_ltm, q_mle, q_lem, q_nem, q_mne]
end
