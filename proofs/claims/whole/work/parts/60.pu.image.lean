section
variable {n : Nat} {K N : Nat → Nat} {G : zG} {V R : zI} {L M : zL} {u b f0 cnt acts x : Nat} {pl : Nat → Nat} {U : aU} {A : aS} {hi : Nat → aS}
/-! An image as a list of bytes. -/
def cI (V : zI) (l : List Nat) : Prop := V 0 15 = qi l.length ∧ ∀ k, k < l.length → V 26 k = qi (l.getD k 0)
def rI (R : zI) (l : List Nat) : Prop := R 0 64 = qi l.length ∧ ∀ k, k < l.length → R 35 k = qi (l.getD k 0)
def cF (V V' : zI) : Prop := (∀ w, w ≠ 0 → w ≠ 26 → V' w = V w) ∧ ∀ j, j ≠ 15 → V' 0 j = V 0 j
def rF (R R' : zI) : Prop := (∀ w, w ≠ 0 → w ≠ 35 → R' w = R w) ∧ ∀ j, j ≠ 64 → R' 0 j = R 0 j
theorem cF_rf : cF V V := ⟨fun _ _ _ => rfl, fun _ _ => rfl⟩
theorem rF_rf : rF R R := ⟨fun _ _ _ => rfl, fun _ _ => rfl⟩
theorem cF_tr {V1 V2 : zI} (h : cF V V1) (g : cF V1 V2) : cF V V2 := ⟨fun w a c => (g.1 w a c).trans (h.1 w a c), fun j a => (g.2 j a).trans (h.2 j a)⟩
theorem rF_tr {V1 V2 : zI} (h : rF V V1) (g : rF V1 V2) : rF V V2 := ⟨fun w a c => (g.1 w a c).trans (h.1 w a c), fun j a => (g.2 j a).trans (h.2 j a)⟩
theorem l_snoc {l : List Nat} {y k : Nat} : (l ++ [y]).getD k 0 = if k = l.length then y else l.getD k 0 := by
  simp only [List.getD_eq_getElem?_getD]
  by_cases h : k < l.length
  · rw [List.getElem?_append_left h, if_neg (by omega)]
  · rw [List.getElem?_append_right (by omega)]
    by_cases h2 : k = l.length
    · rw [if_pos h2, h2]; simp
    · rw [if_neg h2, List.getElem?_eq_none (by simp; omega), List.getElem?_eq_none (by omega)]
theorem c_putO {l : List Nat} {y : Nat} (hx : fxS N G) (h : cI V l) (hl : l.length < 512) : zW (f_X10_putOctet N G 0 (qi y) V L) (fun r => cI r.1 (l ++ [y]) ∧ cF V r.1 ∧ r.2 = L) := by
  obtain ⟨h1, h2⟩ := h
  have g14 : G 0 14 = some 26 := hx.1.2.2.2.2.2.2.2.2.1
  have n26 : N 26 = 512 := hx.2.2.2.2.2.2.2.2.1
  unfold f_X10_putOctet g_X10_putOctet
  rw [g14, o_bind]
  simp (disch := omega) only [h1, n26, ↓reduceIte, o_bind, and_true, true_and, and_false, false_and, or_true, true_or, or_false, false_or, not_true, not_false_eq_true, not_false_iff, ne_eq, Nat.reduceAdd, Nat.reduceMul, Nat.reduceSub, Nat.reduceDiv, Nat.reduceMod, Nat.reduceLT, Nat.reduceLeDiff, Nat.reduceEqDiff, Nat.not_lt, Nat.not_le, q_lit, ↓q_m1, q_om, q_on, q_add, q_mul, q_sub, q_div, q_md, q_ltT, q_ltF, q_leT, q_leF, q_eqT, q_eqF, q_inT, q_inF, q_nn, q_mlt, q_ltm, q_mle, q_lem, q_nem, q_mne, z_same, z_neP, z_neK, zL_same, zL_neP, zL_neK, zr_same, zr_ne]
  refine zW_some ?_
  dsimp only
  refine ⟨⟨?_, fun k hk => ?_⟩, ⟨fun w w1 w2 => ?_, fun j j1 => ?_⟩, rfl⟩
  · rw [z_same, List.length_append]; rfl
  · rw [z_neP (by omega), z_if, l_snoc]
    split
    · rfl
    · rw [List.length_append] at hk
      simp only [List.length_cons, List.length_nil] at hk
      exact h2 k (by omega)
  · rw [z_neP w1, z_neP w2]
  · rw [z_neK j1, z_neP (by omega)]
theorem q_and255 {y : Nat} (hy : y < 2147483648) : qi y &&& qi 255 = qi (y % 256) := by
  rw [q_and (by omega) (by omega), show (255 : Nat) = 2 ^ 8 - 1 from rfl, Nat.and_two_pow_sub_one_eq_mod]
theorem r_put1 {l : List Nat} {y s : Nat} {k : Int32 × Int32 × zI × zL → Option (zI × zL)} (h : rI R l) (hl : l.length < 280) (hy : y < 2147483648) (hs : s < 4) : b_writes__4 k (qi y, qi s, R, M) = k (qi y, qi s + Int32.ofInt (-1), z_uI (z_uI R 35 l.length (qi (y / 2 ^ (8 * s) % 256))) 0 64 (qi (l.length + 1)), M) := by
  obtain ⟨h1, h2⟩ := h
  have hd : y / 2 ^ (8 * s) ≤ y := Nat.div_le_self _ _
  have e : (qi y >>> ((qi 8 * qi s) &&& 31)) &&& 255 = qi (y / 2 ^ (8 * s) % 256) := by
    rw [q_mul, q_shr hy (by omega)]
    exact q_and255 (by omega)
  have e' : (qi y >>> (qi (8 * s) &&& qi 31)) &&& qi 255 = qi (y / 2 ^ (8 * s) % 256) := by rw [← q_mul]; exact e
  simp (disch := omega) only [b_writes__4, h1, e', ↓reduceIte, o_bind, and_true, true_and, and_false, false_and, or_true, true_or, or_false, false_or, not_true, not_false_eq_true, not_false_iff, ne_eq, Nat.reduceAdd, Nat.reduceMul, Nat.reduceSub, Nat.reduceDiv, Nat.reduceMod, Nat.reduceLT, Nat.reduceLeDiff, Nat.reduceEqDiff, Nat.not_lt, Nat.not_le, q_lit, ↓q_m1, q_om, q_on, q_add, q_mul, q_sub, q_div, q_md, q_ltT, q_ltF, q_leT, q_leF, q_eqT, q_eqF, q_inT, q_inF, q_nn, q_mlt, q_ltm, q_mle, q_lem, q_nem, q_mne, z_same, z_neP, z_neK, zL_same, zL_neP, zL_neK, zr_same, zr_ne]
theorem rI_put {l : List Nat} {y : Nat} (h : rI R l) : rI (z_uI (z_uI R 35 l.length (qi y)) 0 64 (qi (l.length + 1))) (l ++ [y]) ∧ rF R (z_uI (z_uI R 35 l.length (qi y)) 0 64 (qi (l.length + 1))) := by
  obtain ⟨h1, h2⟩ := h
  refine ⟨⟨?_, fun k hk => ?_⟩, ⟨fun w w1 w2 => ?_, fun j j1 => ?_⟩⟩
  · rw [z_same, List.length_append]; rfl
  · rw [z_neP (by omega), z_if, l_snoc]
    split
    · rfl
    · rw [List.length_append] at hk
      simp only [List.length_cons, List.length_nil] at hk
      exact h2 k (by omega)
  · rw [z_neP w1, z_neP w2]
  · rw [z_neK j1, z_neP (by omega)]
theorem r_putO {l : List Nat} {y : Nat} (h : rI R l) (hl : l.length < 280) (hy : y < 256) : zW (f_writes_ (qi y) (qi 1) R M) (fun r => rI r.1 (l ++ [y]) ∧ rF R r.1 ∧ r.2 = M) := by
  have e0 : qi 1 - 1 = qi 0 := rfl
  have e1 : qi 0 + Int32.ofInt (-1) = qm := rfl
  have e2 : qm < 0 := by decide
  have ey : y / 2 ^ (8 * 0) % 256 = y := by simp; omega
  obtain ⟨p1, p2⟩ := rI_put (y := y) h
  unfold f_writes_
  rw [e0, show FU = 9999998 + 1 + 1 from rfl, z_fix1, r_put1 h hl (by omega) (by omega), e1, z_fix1, ey]
  have : ∀ k R', b_writes__4 k (qi y, qm, R', M) = some (R', M) := fun k R' => by unfold b_writes__4; exact if_pos e2
  rw [this]
  exact zW_some ⟨p1, p2, rfl⟩
theorem r_putD {l : List Nat} {y : Nat} (h : rI R l) (hl : l.length + 1 < 280) (hy : y < 65536) : zW (f_writes_ (qi y) (qi 2) R M) (fun r => rI r.1 (l ++ [y / 256] ++ [y % 256]) ∧ rF R r.1 ∧ r.2 = M) := by
  have e0 : qi 2 - 1 = qi 1 := rfl
  have e1 : qi 1 + Int32.ofInt (-1) = qi 0 := rfl
  have e1' : qi 0 + Int32.ofInt (-1) = qm := rfl
  have e2 : qm < 0 := by decide
  have ey : y / 2 ^ (8 * 1) % 256 = y / 256 := by omega
  have ez : y / 2 ^ (8 * 0) % 256 = y % 256 := by simp
  obtain ⟨p1, p2⟩ := rI_put (y := y / 256) h
  obtain ⟨p3, p4⟩ := rI_put (y := y % 256) p1
  have hl2 : (l ++ [y / 256]).length < 280 := by rw [List.length_append]; exact hl
  unfold f_writes_
  rw [e0, show FU = 9999997 + 1 + 1 + 1 from rfl, z_fix1, r_put1 h (by omega) (by omega) (by omega), e1, ey, z_fix1, r_put1 p1 hl2 (by omega) (by omega), e1', z_fix1, ez]
  have : ∀ k R', b_writes__4 k (qi y, qm, R', M) = some (R', M) := fun k R' => by unfold b_writes__4; exact if_pos e2
  rw [this]
  exact zW_some ⟨p3, rF_tr p2 p4, rfl⟩
def isP (tw p : Nat) : Prop := p / 6 < tw ∧ p % 6 < tw ∧ p / 6 ≠ p % 6
def prL (tw : Nat) (A : aS) (p : Nat) : List Nat := if p / 6 < tw ∧ p % 6 < tw ∧ p / 6 ≠ p % 6 then [A.2.1 p, A.2.2.1 p, A.2.2.2.1 p] else []
def imP (tw : Nat) (A : aS) : Nat → List Nat
  | 0 => [A.1 / 256, A.1 % 256]
  | p + 1 => imP tw A p ++ prL tw A p
theorem imP_len {tw : Nat} : ∀ p, p ≤ 36 → (imP tw A p).length ≤ 2 + 3 * (p - (p + 6) / 7) := by
  intro p
  induction p with
  | zero => intro _; exact Nat.le_refl _
  | succ p ih =>
    intro hp
    have h := ih (by omega)
    show (imP tw A p ++ prL tw A p).length ≤ _
    rw [List.length_append]
    unfold prL
    split
    · rename_i hc
      simp only [List.length_cons, List.length_nil]
      omega
    · simp only [List.length_nil]
      omega
theorem imP_skip {tw p : Nat} : ∀ q, p ≤ q → (∀ k, p ≤ k → k < q → ¬ (k / 6 < tw ∧ k % 6 < tw ∧ k / 6 ≠ k % 6)) → imP tw A q = imP tw A p := by
  intro q
  induction q with
  | zero =>
    intro h _
    have hp : p = 0 := by omega
    rw [hp]
  | succ q ih =>
    intro h hk
    by_cases e : p = q + 1
    · rw [e]
    · have h1 := ih (by omega) (fun k a c => hk k a (by omega))
      show imP tw A q ++ prL tw A q = _
      unfold prL
      rw [if_neg (hk q (by omega) (by omega)), List.append_nil, h1]
def mlV (A : aS) (j : Nat) : Nat := if j % 3 = 0 then A.2.2.2.2.2.1 (j / 3) / 6 else if j % 3 = 1 then A.2.2.2.2.2.1 (j / 3) % 6 else A.2.2.2.2.2.2.1 (j / 3)
def imM (l : List Nat) (A : aS) : Nat → List Nat
  | 0 => l
  | j + 1 => imM l A j ++ [mlV A j]
theorem imM_len {l : List Nat} : ∀ j, (imM l A j).length = l.length + j := by
  intro j
  induction j with
  | zero => rfl
  | succ j ih =>
    show (imM l A j ++ [mlV A j]).length = _
    rw [List.length_append, ih]
    rfl
def chk (l : List Nat) : Nat → Nat
  | 0 => 191
  | i + 1 => (5 * chk l i + l.getD i 0) % 251
theorem chk_b (l : List Nat) : ∀ i, chk l i < 251 := by
  intro i
  cases i with
  | zero => show 191 < 251; decide
  | succ i => exact Nat.mod_lt _ (by omega)
def imA (tw : Nat) (A : aS) : List Nat := imM (imP tw A 36 ++ [A.2.2.2.2.1]) A (3 * A.2.2.2.2.1)
def imF (tw : Nat) (A : aS) : List Nat := imA tw A ++ [chk (imA tw A) (imA tw A).length]
theorem imA_len (hA : SB U A) : (imA U.1 A).length < 274 := by
  have h1 := imP_len (A := A) (tw := U.1) 36 (Nat.le_refl _)
  have hm := SB_m hA
  unfold imA
  rw [imM_len, List.length_append]
  simp only [List.length_cons, List.length_nil]
  omega
set_option maxHeartbeats 4000000 in
theorem c_imC {l : List Nat} {p1 p2 p3 p4 p5 p6 p7 : Nat} (hx : fxS N G) (h : cI V l) (hl : l.length < 500) (hb : ∀ k, k < l.length → l.getD k 0 < 256) : zW (f_X10_image_186 N G 0 26 p1 p2 p3 p4 p5 p6 p7 V L) (fun r => r.1 = qi (l.length + 1) ∧ cI r.2.1 (l ++ [chk l l.length]) ∧ cF V r.2.1) := by
  have n26 : N 26 = 512 := hx.2.2.2.2.2.2.2.2.1
  unfold f_X10_image_186
  refine zW_lp (I := fun r q => ∃ i : Nat, i ≤ l.length ∧ r = l.length - i ∧ q = (qi (chk l i), qi i, V, L)) ?_ FU l.length _ ⟨0, by omega, by omega, rfl⟩ (FU_big (by omega))
  rintro k r q ⟨i, hi, rfl, rfl⟩ ih
  have hcb := chk_b l i
  by_cases hend : i = l.length
  · subst hend
    simp (disch := omega) only [b_X10_image_192, h.1, Nat.le_refl, ↓reduceIte, o_bind, and_true, true_and, and_false, false_and, or_true, true_or, or_false, false_or, not_true, not_false_eq_true, not_false_iff, ne_eq, Nat.reduceAdd, Nat.reduceMul, Nat.reduceSub, Nat.reduceDiv, Nat.reduceMod, Nat.reduceLT, Nat.reduceLeDiff, Nat.reduceEqDiff, Nat.not_lt, Nat.not_le, q_lit, ↓q_m1, q_om, q_on, q_add, q_mul, q_sub, q_div, q_md, q_ltT, q_ltF, q_leT, q_leF, q_eqT, q_eqF, q_inT, q_inF, q_nn, q_mlt, q_ltm, q_mle, q_lem, q_nem, q_mne]
    refine zW_call (c_putO (L := L) (y := chk l l.length) hx h (by omega)) ?_
    rintro ⟨V1, L1⟩ ⟨q1, q2, q3⟩
    refine zW_some ?_
    dsimp only at q1 q2 q3 ⊢
    refine ⟨?_, q1, q2⟩
    rw [q1.1, List.length_append]; rfl
  · have e := h.2 i (by omega)
    have hbi := hb i (by omega)
    simp (disch := omega) only [b_X10_image_192, h.1, n26, e, f_X3_checkOn, g_X3_checkOn, ↓reduceIte, o_bind, and_true, true_and, and_false, false_and, or_true, true_or, or_false, false_or, not_true, not_false_eq_true, not_false_iff, ne_eq, Nat.reduceAdd, Nat.reduceMul, Nat.reduceSub, Nat.reduceDiv, Nat.reduceMod, Nat.reduceLT, Nat.reduceLeDiff, Nat.reduceEqDiff, Nat.not_lt, Nat.not_le, q_lit, ↓q_m1, q_om, q_on, q_add, q_mul, q_sub, q_div, q_md, q_ltT, q_ltF, q_leT, q_leF, q_eqT, q_eqF, q_inT, q_inF, q_nn, q_mlt, q_ltm, q_mle, q_lem, q_nem, q_mne]
    exact ih (l.length - (i + 1)) _ (by omega) ⟨i + 1, by omega, rfl, rfl⟩
set_option maxHeartbeats 4000000 in
theorem r_imC {l : List Nat} (h : rI R l) (hl : l.length < 279) (hb : ∀ k, k < l.length → l.getD k 0 < 256) : zW (zfix b_image_165 FU (qi 191, qi 0, R, M)) (fun r => r.1 = qi (l.length + 1) ∧ rI r.2.1 (l ++ [chk l l.length]) ∧ rF R r.2.1 ∧ r.2.2 = M) := by
  refine zW_lp (I := fun r q => ∃ i : Nat, i ≤ l.length ∧ r = l.length - i ∧ q = (qi (chk l i), qi i, R, M)) ?_ FU l.length _ ⟨0, by omega, by omega, rfl⟩ (FU_big (by omega))
  rintro k r q ⟨i, hi, rfl, rfl⟩ ih
  have hcb := chk_b l i
  by_cases hend : i = l.length
  · subst hend
    simp (disch := omega) only [b_image_165, h.1, Nat.le_refl, ↓reduceIte, o_bind, and_true, true_and, and_false, false_and, or_true, true_or, or_false, false_or, not_true, not_false_eq_true, not_false_iff, ne_eq, Nat.reduceAdd, Nat.reduceMul, Nat.reduceSub, Nat.reduceDiv, Nat.reduceMod, Nat.reduceLT, Nat.reduceLeDiff, Nat.reduceEqDiff, Nat.not_lt, Nat.not_le, q_lit, ↓q_m1, q_om, q_on, q_add, q_mul, q_sub, q_div, q_md, q_ltT, q_ltF, q_leT, q_leF, q_eqT, q_eqF, q_inT, q_inF, q_nn, q_mlt, q_ltm, q_mle, q_lem, q_nem, q_mne]
    refine zW_call (r_putO (M := M) (y := chk l l.length) h (by omega) (by omega)) ?_
    rintro ⟨R1, M1⟩ ⟨q1, q2, q3⟩
    refine zW_some ?_
    dsimp only at q1 q2 q3 ⊢
    refine ⟨?_, q1, q2, q3⟩
    rw [q1.1, List.length_append]; rfl
  · have e := h.2 i (by omega)
    have hbi := hb i (by omega)
    simp (disch := omega) only [b_image_165, h.1, e, ↓reduceIte, o_bind, and_true, true_and, and_false, false_and, or_true, true_or, or_false, false_or, not_true, not_false_eq_true, not_false_iff, ne_eq, Nat.reduceAdd, Nat.reduceMul, Nat.reduceSub, Nat.reduceDiv, Nat.reduceMod, Nat.reduceLT, Nat.reduceLeDiff, Nat.reduceEqDiff, Nat.not_lt, Nat.not_le, q_lit, ↓q_m1, q_om, q_on, q_add, q_mul, q_sub, q_div, q_md, q_ltT, q_ltF, q_leT, q_leF, q_eqT, q_eqF, q_inT, q_inF, q_nn, q_mlt, q_ltm, q_mle, q_lem, q_nem, q_mne]
    exact ih (l.length - (i + 1)) _ (by omega) ⟨i + 1, by omega, rfl, rfl⟩
/-! all bytes are bytes -/
theorem l_app_b {l m : List Nat} (h : ∀ a ∈ l, a < 256) (g : ∀ a ∈ m, a < 256) : ∀ a ∈ l ++ m, a < 256 := by
  intro a ha
  rcases List.mem_append.mp ha with h1 | h1
  · exact h a h1
  · exact g a h1
theorem l_get_b {l : List Nat} (h : ∀ a ∈ l, a < 256) : ∀ k, k < l.length → l.getD k 0 < 256 := by
  intro k hk
  rw [List.getD_eq_getElem?_getD, List.getElem?_eq_getElem hk]
  exact h _ (List.getElem_mem hk)
theorem imP_b (hA : SB U A) : ∀ p, p ≤ 36 → ∀ a ∈ imP U.1 A p, a < 256 := by
  have hd : A.1 ≤ 999 := hA.1.1
  intro p
  induction p with
  | zero =>
    intro _ a ha
    simp only [imP, List.mem_cons, List.not_mem_nil, or_false] at ha
    omega
  | succ p ih =>
    intro hp
    have hc := hA.2.1 p (by omega)
    refine l_app_b (ih (by omega)) (fun a ha => ?_)
    unfold prL at ha
    split at ha
    · simp only [List.mem_cons, List.not_mem_nil, or_false] at ha
      have h1 : A.2.1 p ≤ 99 := hc.1
      have h2 : A.2.2.1 p ≤ 99 := hc.2.1
      have h3 : A.2.2.2.1 p ≤ 99 := hc.2.2
      omega
    · cases ha
theorem mlV_b (hU : UB U) (hA : SB U A) {j : Nat} (hj : j < 3 * A.2.2.2.2.1) : mlV A j < 256 := by
  have hlt : j / 3 < A.2.2.2.2.1 := by omega
  have h := hA.2.2.2.1 (j / 3) hlt
  have h1 : A.2.2.2.2.2.1 (j / 3) < 36 := h.1
  have h2 : A.2.2.2.2.2.2.1 (j / 3) ≤ U.2.2.1 (A.2.2.2.2.2.1 (j / 3)) := h.2.2.2
  have h3 : U.2.2.1 (A.2.2.2.2.2.1 (j / 3)) ≤ 45 := (hU.2.1 _ h1).1
  unfold mlV
  split
  · omega
  · split <;> omega
theorem imM_b {l : List Nat} (hU : UB U) (hA : SB U A) (h : ∀ a ∈ l, a < 256) : ∀ j, j ≤ 3 * A.2.2.2.2.1 → ∀ a ∈ imM l A j, a < 256 := by
  intro j
  induction j with
  | zero => intro _; exact h
  | succ j ih =>
    intro hj
    refine l_app_b (ih (by omega)) (fun a ha => ?_)
    simp only [List.mem_cons, List.not_mem_nil, or_false] at ha
    rw [ha]
    exact mlV_b hU hA (by omega)
theorem imA_b (hU : UB U) (hA : SB U A) : ∀ a ∈ imA U.1 A, a < 256 := by
  have hm := SB_m hA
  refine imM_b hU hA (l_app_b (imP_b hA 36 (Nat.le_refl _)) (fun a ha => ?_)) _ (Nat.le_refl _)
  simp only [List.mem_cons, List.not_mem_nil, or_false] at ha
  omega
set_option maxHeartbeats 4000000 in
theorem c_imM (hx : fxS N G) (hu : unS N G u) (hC : UC N G V u U) (hS : SC V 6 A) (hU : UB U) (hA : SB U A) (h : cI V (imP U.1 A 36 ++ [A.2.2.2.2.1])) : zW (zfix (b_X10_image_118 N G 0 26 u 6 7 8 9 10 11) FU (qi 0, V, L)) (fun r => r.1 = qi ((imA U.1 A).length + 1) ∧ cI r.2.1 (imF U.1 A) ∧ cF V r.2.1) := by
  have hm := SB_m hA
  have hlen := imA_len hA
  have hlb := imP_len (A := A) (tw := U.1) 36 (Nat.le_refl _)
  have n10 : N 10 = 60 := hx.2.1.2.2.2.2.1
  have n11 : N 11 = 60 := hx.2.1.2.2.2.2.2.1
  refine zW_lp (I := fun r q => ∃ (i : Nat) (V1 : zI) (L1 : zL), i ≤ A.2.2.2.2.1 ∧ r = A.2.2.2.2.1 - i ∧ q = (qi i, V1, L1) ∧ cI V1 (imM (imP U.1 A 36 ++ [A.2.2.2.2.1]) A (3 * i)) ∧ cF V V1) ?_ FU A.2.2.2.2.1 _ ⟨0, V, L, by omega, by omega, rfl, h, cF_rf⟩ (FU_big (by omega))
  rintro k r q ⟨i, V1, L1, hi, rfl, rfl, h1, hf⟩ ih
  have e4 : V1 6 4 = qi A.2.2.2.2.1 := by rw [hf.1 6 (by omega) (by omega)]; exact hS.1.2.1
  by_cases hend : i = A.2.2.2.2.1
  · subst hend
    simp (disch := omega) only [b_X10_image_118, e4, Nat.le_refl, ↓reduceIte, o_bind, and_true, true_and, and_false, false_and, or_true, true_or, or_false, false_or, not_true, not_false_eq_true, not_false_iff, ne_eq, Nat.reduceAdd, Nat.reduceMul, Nat.reduceSub, Nat.reduceDiv, Nat.reduceMod, Nat.reduceLT, Nat.reduceLeDiff, Nat.reduceEqDiff, Nat.not_lt, Nat.not_le, q_lit, ↓q_m1, q_om, q_on, q_add, q_mul, q_sub, q_div, q_md, q_ltT, q_ltF, q_leT, q_leF, q_eqT, q_eqF, q_inT, q_inF, q_nn, q_mlt, q_ltm, q_mle, q_lem, q_nem, q_mne]
    refine zW_mono (c_imC (L := L1) hx h1 (show (imA U.1 A).length < 500 by omega) (l_get_b (imA_b hU hA))) ?_
    rintro r ⟨q1, q2, q3⟩
    exact ⟨q1, q2, cF_tr hf q3⟩
  · have him : i < A.2.2.2.2.1 := by omega
    have d1 : V1 10 i = qi (A.2.2.2.2.2.1 i) := by rw [hf.1 10 (by omega) (by omega)]; exact hS.2.2.2.2.1 i him
    have hb1 : A.2.2.2.2.2.1 i < 36 := (hA.2.2.2.1 i him).1
    have hl0 := imM_len (A := A) (l := imP U.1 A 36 ++ [A.2.2.2.2.1]) (3 * i)
    rw [List.length_append] at hl0
    simp only [List.length_cons, List.length_nil] at hl0
    simp (disch := omega) only [b_X10_image_118, e4, n10, d1, ↓reduceIte, o_bind, and_true, true_and, and_false, false_and, or_true, true_or, or_false, false_or, not_true, not_false_eq_true, not_false_iff, ne_eq, Nat.reduceAdd, Nat.reduceMul, Nat.reduceSub, Nat.reduceDiv, Nat.reduceMod, Nat.reduceLT, Nat.reduceLeDiff, Nat.reduceEqDiff, Nat.not_lt, Nat.not_le, q_lit, ↓q_m1, q_om, q_on, q_add, q_mul, q_sub, q_div, q_md, q_ltT, q_ltF, q_leT, q_leF, q_eqT, q_eqF, q_inT, q_inF, q_nn, q_mlt, q_ltm, q_mle, q_lem, q_nem, q_mne]
    refine zW_call (c_putO (L := L1) (y := A.2.2.2.2.2.1 i / 6) hx h1 (by omega)) ?_
    rintro ⟨V2, L2⟩ ⟨q1, q2, -⟩
    dsimp only at q1 q2 ⊢
    have d2 : V2 10 i = qi (A.2.2.2.2.2.1 i) := by rw [q2.1 10 (by omega) (by omega)]; exact d1
    simp (disch := omega) only [n10, d2, ↓reduceIte, o_bind, and_true, true_and, and_false, false_and, or_true, true_or, or_false, false_or, not_true, not_false_eq_true, not_false_iff, ne_eq, Nat.reduceAdd, Nat.reduceMul, Nat.reduceSub, Nat.reduceDiv, Nat.reduceMod, Nat.reduceLT, Nat.reduceLeDiff, Nat.reduceEqDiff, Nat.not_lt, Nat.not_le, q_lit, ↓q_m1, q_om, q_on, q_add, q_mul, q_sub, q_div, q_md, q_ltT, q_ltF, q_leT, q_leF, q_eqT, q_eqF, q_inT, q_inF, q_nn, q_mlt, q_ltm, q_mle, q_lem, q_nem, q_mne]
    refine zW_call (c_putO (L := L2) (y := A.2.2.2.2.2.1 i % 6) hx q1 (by rw [List.length_append]; simp only [List.length_cons, List.length_nil]; omega)) ?_
    rintro ⟨V3, L3⟩ ⟨s1, s2, -⟩
    dsimp only at s1 s2 ⊢
    have d3 : V3 11 i = qi (A.2.2.2.2.2.2.1 i) := by rw [s2.1 11 (by omega) (by omega), q2.1 11 (by omega) (by omega), hf.1 11 (by omega) (by omega)]; exact hS.2.2.2.2.2.1 i him
    simp (disch := omega) only [n11, d3, ↓reduceIte, o_bind, and_true, true_and, and_false, false_and, or_true, true_or, or_false, false_or, not_true, not_false_eq_true, not_false_iff, ne_eq, Nat.reduceAdd, Nat.reduceMul, Nat.reduceSub, Nat.reduceDiv, Nat.reduceMod, Nat.reduceLT, Nat.reduceLeDiff, Nat.reduceEqDiff, Nat.not_lt, Nat.not_le, q_lit, ↓q_m1, q_om, q_on, q_add, q_mul, q_sub, q_div, q_md, q_ltT, q_ltF, q_leT, q_leF, q_eqT, q_eqF, q_inT, q_inF, q_nn, q_mlt, q_ltm, q_mle, q_lem, q_nem, q_mne]
    refine zW_call (c_putO (L := L3) (y := A.2.2.2.2.2.2.1 i) hx s1 (by rw [List.length_append, List.length_append]; simp only [List.length_cons, List.length_nil]; omega)) ?_
    rintro ⟨V4, L4⟩ ⟨t1, t2, -⟩
    dsimp only at t1 t2 ⊢
    refine ih (A.2.2.2.2.1 - (i + 1)) _ (by omega) ⟨i + 1, V4, L4, by omega, rfl, rfl, ?_, cF_tr hf (cF_tr q2 (cF_tr s2 t2))⟩
    have e0 : mlV A (3 * i) = A.2.2.2.2.2.1 i / 6 := by
      unfold mlV; rw [if_pos (by omega), show 3 * i / 3 = i by omega]
    have e1 : mlV A (3 * i + 1) = A.2.2.2.2.2.1 i % 6 := by
      unfold mlV; rw [if_neg (by omega), if_pos (by omega), show (3 * i + 1) / 3 = i by omega]
    have e2 : mlV A (3 * i + 2) = A.2.2.2.2.2.2.1 i := by
      unfold mlV; rw [if_neg (by omega), if_neg (by omega), show (3 * i + 2) / 3 = i by omega]
    rw [show 3 * (i + 1) = 3 * i + 2 + 1 by omega]
    show cI V4 (imM _ A (3 * i) ++ [mlV A (3 * i)] ++ [mlV A (3 * i + 1)] ++ [mlV A (3 * i + 2)])
    rw [e0, e1, e2]
    exact t1
set_option maxHeartbeats 4000000 in
theorem r_imM (hR : UR R M b U) (hS : SR R 0 A) (hU : UB U) (hA : SB U A) (h : rI R (imP U.1 A 36 ++ [A.2.2.2.2.1])) : zW (zfix b_image_130 FU (qi 0, R, M)) (fun r => r.1 = qi ((imA U.1 A).length + 1) ∧ rI r.2.1 (imF U.1 A) ∧ rF R r.2.1 ∧ r.2.2 = M) := by
  have hm := SB_m hA
  have hlen := imA_len hA
  have hlb := imP_len (A := A) (tw := U.1) 36 (Nat.le_refl _)
  have z0 : (0 : Int32).toNatClampNeg = 0 := rfl
  have zq : (qi 0).toNatClampNeg = 0 := rfl
  refine zW_lp (I := fun r q => ∃ (i : Nat) (R1 : zI), i ≤ 3 * A.2.2.2.2.1 ∧ r = 3 * A.2.2.2.2.1 - i ∧ q = (qi i, R1, M) ∧ rI R1 (imM (imP U.1 A 36 ++ [A.2.2.2.2.1]) A i) ∧ rF R R1) ?_ FU (3 * A.2.2.2.2.1) _ ⟨0, R, by omega, by omega, rfl, h, rF_rf⟩ (FU_big (by omega))
  rintro k r q ⟨i, R1, hi, rfl, rfl, h1, hf⟩ ih
  have e4 : R1 24 0 = qi A.2.2.2.2.1 := by rw [hf.1 24 (by omega) (by omega)]; exact hS.1.2.1
  by_cases hend : i = 3 * A.2.2.2.2.1
  · simp (disch := omega) only [b_image_130, z0, zq, e4, hend, Nat.le_refl, ↓reduceIte, o_bind, and_true, true_and, and_false, false_and, or_true, true_or, or_false, false_or, not_true, not_false_eq_true, not_false_iff, ne_eq, Nat.reduceAdd, Nat.reduceMul, Nat.reduceSub, Nat.reduceDiv, Nat.reduceMod, Nat.reduceLT, Nat.reduceLeDiff, Nat.reduceEqDiff, Nat.not_lt, Nat.not_le, q_lit, ↓q_m1, q_om, q_on, q_add, q_mul, q_sub, q_div, q_md, q_ltT, q_ltF, q_leT, q_leF, q_eqT, q_eqF, q_inT, q_inF, q_nn, q_mlt, q_ltm, q_mle, q_lem, q_nem, q_mne]
    rw [hend] at h1
    refine zW_mono (r_imC (M := M) h1 (show (imA U.1 A).length < 279 by omega) (l_get_b (imA_b hU hA))) ?_
    rintro r ⟨q1, q2, q3, q4⟩
    exact ⟨q1, q2, rF_tr hf q3, q4⟩
  · have him : i / 3 < A.2.2.2.2.1 := by omega
    have d1 : R1 25 i = qi (mlV A i) := by
      rw [hf.1 25 (by omega) (by omega)]
      have c1 := hS.2.2.2.2.1 (i / 3) him
      have c2 := hS.2.2.2.2.2.1 (i / 3) him
      have c3 := hS.2.2.2.2.2.2.1 (i / 3) him
      rw [Nat.mul_zero, Nat.zero_add] at c1 c2 c3
      unfold mlV
      by_cases m0 : i % 3 = 0
      · rw [if_pos m0]
        rw [show 3 * (i / 3) = i by omega] at c1
        exact c1
      · rw [if_neg m0]
        by_cases m1 : i % 3 = 1
        · rw [if_pos m1]
          rw [show 3 * (i / 3) + 1 = i by omega] at c2
          exact c2
        · rw [if_neg m1]
          rw [show 3 * (i / 3) + 2 = i by omega] at c3
          exact c3
    have hb1 := mlV_b hU hA (j := i) (by omega)
    have hl0 := imM_len (A := A) (l := imP U.1 A 36 ++ [A.2.2.2.2.1]) i
    rw [List.length_append] at hl0
    simp only [List.length_cons, List.length_nil] at hl0
    simp (disch := omega) only [b_image_130, z0, zq, e4, d1, ↓reduceIte, o_bind, and_true, true_and, and_false, false_and, or_true, true_or, or_false, false_or, not_true, not_false_eq_true, not_false_iff, ne_eq, Nat.reduceAdd, Nat.reduceMul, Nat.reduceSub, Nat.reduceDiv, Nat.reduceMod, Nat.reduceLT, Nat.reduceLeDiff, Nat.reduceEqDiff, Nat.not_lt, Nat.not_le, q_lit, ↓q_m1, q_om, q_on, q_add, q_mul, q_sub, q_div, q_md, q_ltT, q_ltF, q_leT, q_leF, q_eqT, q_eqF, q_inT, q_inF, q_nn, q_mlt, q_ltm, q_mle, q_lem, q_nem, q_mne]
    refine zW_call (r_putO (M := M) (y := mlV A i) h1 (by omega) hb1) ?_
    rintro ⟨R2, M2⟩ ⟨q1, q2, q3⟩
    dsimp only at q1 q2 q3 ⊢
    subst q3
    exact ih (3 * A.2.2.2.2.1 - (i + 1)) _ (by omega) ⟨i + 1, R2, by omega, rfl, rfl, q1, rF_tr hf q2⟩
end
