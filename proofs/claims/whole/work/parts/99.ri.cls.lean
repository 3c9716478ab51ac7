section
variable {b fr k o tn tl wo y yt a0 a1 a2 pc : Nat} {V0 V V' : zI} {L : zL} {N : Nat → Nat} {G : zG} {tk : Nat → tkT} {T : tkT} {C C' : List Nat}
/-! The class's reader: what stays, what it holds. -/
def CV (N : Nat → Nat) (G : zG) (y yt a0 a1 a2 pc tn tl : Nat) : Prop := (G y 0 = some yt ∧ G yt 0 = some a0 ∧ G yt 1 = some a1 ∧ G yt 2 = some a2 ∧ G y 6 = some pc) ∧ (tn ≤ N a0 ∧ tn ≤ N a1 ∧ tn ≤ N a2 ∧ N pc = tl) ∧ (y ≠ yt ∧ y ≠ a0 ∧ y ≠ a1 ∧ y ≠ a2 ∧ y ≠ pc ∧ pc ≠ yt ∧ pc ≠ a0 ∧ pc ≠ a1 ∧ pc ≠ a2) ∧ tl ≤ 1600 ∧ tn ≤ tl + 1
def TV (V0 : zI) (yt a0 a1 a2 tn : Nat) (tk : Nat → tkT) : Prop := V0 yt 3 = qi tn ∧ ∀ j, j < tn → V0 a0 j = qi (tk j).1 ∧ V0 a1 j = qi (tk j).2.1 ∧ V0 a2 j = qi (tk j).2.2
def TW (tk : Nat → tkT) (tn : Nat) : Prop := (∀ j, j < tn → (tk j).1 ≠ 0 → j + 1 < tn) ∧ ∀ j, j < tn → (tk j).1 ≤ 5 ∧ (tk j).2.1 < 2147483000 ∧ (tk j).2.2 ≤ 1600 ∧ ((tk j).1 = 1 → (tk j).2.1 < 256) ∧ ((tk j).1 = 2 → (tk j).2.1 < 10000) ∧ ((tk j).1 = 4 → (tk j).2.1 < 23) ∧ ((tk j).1 = 5 → (tk j).2.1 ≤ 1600)
def CF (y pc : Nat) (V0 V : zI) : Prop := (∀ w, w ≠ y → w ≠ pc → V w = V0 w) ∧ ∀ j, j ≠ 1 → j ≠ 2 → j ≠ 3 → j ≠ 4 → j ≠ 7 → j ≠ 8 → j ≠ 10 → j ≠ 11 → V y j = V0 y j
def CS (y pc : Nat) (V0 : zI) (tk : Nat → tkT) (tn : Nat) (k : Nat) (C : List Nat) (o : Nat) (V : zI) : Prop := CF y pc V0 V ∧ k < tn ∧ (V y 1 = qi k ∧ V y 2 = qi (tk k).1 ∧ V y 3 = qi (tk k).2.1 ∧ V y 4 = qi (tk k).2.2) ∧ (V y 7 = qi C.length ∧ V y 8 = qi o ∧ V y 10 = qi 0 ∧ V y 11 = qm) ∧ ∀ j, j < C.length → V pc j = qi (cOf (C.getD j 0))
def CE (y pc : Nat) (V0 : zI) (tn : Nat) (f pl k c : Nat) (V : zI) : Prop := CF y pc V0 V ∧ k < tn ∧ (V y 10 = qi f ∧ V y 11 = qi pl ∧ V y 2 = qi 5 ∧ V y 7 = qi c ∧ V y 1 = qi k) ∧ (0 < f ∧ f < 100)
theorem CF_up (h : CF y pc V0 V) (h1 : ∀ w, w ≠ y → w ≠ pc → V' w = V w) (h2 : ∀ j, j ≠ 1 → j ≠ 2 → j ≠ 3 → j ≠ 4 → j ≠ 7 → j ≠ 8 → j ≠ 10 → j ≠ 11 → V' y j = V y j) : CF y pc V0 V' := ⟨fun w w1 w2 => (h1 w w1 w2).trans (h.1 w w1 w2), fun j a b c d e f g i => (h2 j a b c d e f g i).trans (h.2 j a b c d e f g i)⟩
def fp (T : tkT) : Nat := if T.1 = 5 then T.2.1 else T.2.2
set_option maxHeartbeats 4000000 in
theorem k_take (hC : CV N G y yt a0 a1 a2 pc tn tl) (hV : TV V0 yt a0 a1 a2 tn tk) (hW : TW tk tn) (h : CS y pc V0 tk tn k C o V) (h0 : (tk k).1 ≠ 0) : zW (f_X5_take N G y V L) (fun r => r.2 = L ∧ CS y pc V0 tk tn (k + 1) C o r.1) := by
  obtain ⟨⟨g1, g2, g3, g4, g5⟩, ⟨n1, n2, n3, n4⟩, ⟨d1, d2, d3, d4, d5, d6, d7, d8, d9⟩, ht, hn⟩ := hC
  obtain ⟨hF, hk, ⟨b1, b2, b3, b4⟩, ⟨b5, b6, b7, b8⟩, b9⟩ := h
  have hk1 := hW.1 k hk h0
  obtain ⟨t1, t2⟩ := hV
  obtain ⟨c1, c2, c3⟩ := t2 (k + 1) hk1
  have e3 : V yt 3 = qi tn := by rw [hF.1 yt (by omega) (by omega)]; exact t1
  have e4 : V a0 (k + 1) = qi (tk (k + 1)).1 := by rw [hF.1 a0 (by omega) (by omega)]; exact c1
  have e5 : V a1 (k + 1) = qi (tk (k + 1)).2.1 := by rw [hF.1 a1 (by omega) (by omega)]; exact c2
  have e6 : V a2 (k + 1) = qi (tk (k + 1)).2.2 := by rw [hF.1 a2 (by omega) (by omega)]; exact c3
  unfold f_X5_take
  rw [g1, o_bind, g2, o_bind, g3, o_bind, g4, o_bind]
  simp (disch := omega) only [g_X5_take, b7, b1, e3, e4, e5, e6, ↓reduceIte, o_bind, and_true, true_and, and_false, false_and, or_true, true_or, or_false, false_or, not_true, not_false_eq_true, not_false_iff, ne_eq, Nat.reduceAdd, Nat.reduceMul, Nat.reduceSub, Nat.reduceDiv, Nat.reduceMod, Nat.reduceLT, Nat.reduceLeDiff, Nat.reduceEqDiff, Nat.not_lt, Nat.not_le, q_lit, ↓q_m1, q_om, q_on, q_add, q_mul, q_sub, q_div, q_md, q_ltT, q_ltF, q_leT, q_leF, q_eqT, q_eqF, q_inT, q_inF, q_nn, q_mlt, q_ltm, q_mle, q_lem, q_nem, q_mne, z_same, z_neP, z_neK, zL_same, zL_neP, zL_neK, zr_same, zr_ne]
  refine zW_some ⟨rfl, CF_up hF (fun w w1 w2 => ?_) (fun j j1 j2 j3 j4 j5 j6 j7 j8 => ?_), hk1, ⟨?_, ?_, ?_, ?_⟩, ⟨?_, ?_, ?_, ?_⟩, fun j hj => ?_⟩
  · dsimp only; simp (disch := omega) only [z_same, z_neP, z_neK, zL_same, zL_neP, zL_neK, zr_same, zr_ne]
  · dsimp only; simp (disch := omega) only [z_same, z_neP, z_neK, zL_same, zL_neP, zL_neK, zr_same, zr_ne]
  · dsimp only; simp (disch := omega) only [z_same, z_neP, z_neK, zL_same, zL_neP, zL_neK, zr_same, zr_ne]
  · dsimp only; simp (disch := omega) only [z_same, z_neP, z_neK, zL_same, zL_neP, zL_neK, zr_same, zr_ne]
  · dsimp only; simp (disch := omega) only [z_same, z_neP, z_neK, zL_same, zL_neP, zL_neK, zr_same, zr_ne]
  · dsimp only; simp (disch := omega) only [z_same, z_neP, z_neK, zL_same, zL_neP, zL_neK, zr_same, zr_ne]
  · dsimp only; simp (disch := omega) only [z_same, z_neP, z_neK, zL_same, zL_neP, zL_neK, zr_same, zr_ne]; exact b5
  · dsimp only; simp (disch := omega) only [z_same, z_neP, z_neK, zL_same, zL_neP, zL_neK, zr_same, zr_ne]; exact b6
  · dsimp only; simp (disch := omega) only [z_same, z_neP, z_neK, zL_same, zL_neP, zL_neK, zr_same, zr_ne]; exact b7
  · dsimp only; simp (disch := omega) only [z_same, z_neP, z_neK, zL_same, zL_neP, zL_neK, zr_same, zr_ne]; exact b8
  · dsimp only; simp (disch := omega) only [z_same, z_neP, z_neK, zL_same, zL_neP, zL_neK, zr_same, zr_ne]; exact b9 j hj
theorem k_takeE {f pl c : Nat} (hC : CV N G y yt a0 a1 a2 pc tn tl) (h : CE y pc V0 tn f pl k c V) : f_X5_take N G y V L = some (V, L) := by
  obtain ⟨⟨g1, g2, g3, g4, g5⟩, -⟩ := hC
  obtain ⟨hF, hk, ⟨b1, -⟩, hf⟩ := h
  unfold f_X5_take
  rw [g1, o_bind, g2, o_bind, g3, o_bind, g4, o_bind]
  unfold g_X5_take
  rw [if_neg (by rw [b1, q_lit, q_eq (by omega) (by omega)]; omega)]
theorem k_sg (hW : TW tk tn) (h : CS y pc V0 tk tn k C o V) {s : Nat} (hs : s < 256) : f_X5_isSign N G y (qi s) V L = some (qi (if tS (tk k) s then 1 else 0)) := by
  obtain ⟨hF, hk, ⟨b1, b2, b3, b4⟩, -⟩ := h
  obtain ⟨w1, w2, -⟩ := hW.2 k hk
  unfold f_X5_isSign g_X5_isSign
  by_cases e1 : (tk k).1 = 1
  · rw [if_pos (by rw [b2, e1]; rfl)]
    by_cases e2 : (tk k).2.1 = s
    · rw [if_pos (by rw [b3, e2]), if_pos (show tS (tk k) s from ⟨e1, e2⟩)]; rfl
    · rw [if_neg (by rw [b3, q_eq (by omega) (by omega)]; exact e2), if_neg (show ¬ tS (tk k) s from fun g => e2 g.2)]; rfl
  · rw [if_neg (by rw [b2, q_lit, q_eq (by omega) (by omega)]; exact e1), if_neg (show ¬ tS (tk k) s from fun g => e1 g.1)]; rfl
theorem k_ow (hW : TW tk tn) (h : CS y pc V0 tk tn k C o V) {s : Nat} (hs : s < 256) : f_X5_isOwn N G y (qi s) V L = some (qi (if tO (tk k) s then 1 else 0)) := by
  obtain ⟨hF, hk, ⟨b1, b2, b3, b4⟩, -⟩ := h
  obtain ⟨w1, w2, -⟩ := hW.2 k hk
  unfold f_X5_isOwn g_X5_isOwn
  by_cases e1 : (tk k).1 = 4
  · rw [if_pos (by rw [b2, e1]; rfl)]
    by_cases e2 : (tk k).2.1 = s
    · rw [if_pos (by rw [b3, e2]), if_pos (show tO (tk k) s from ⟨e1, e2⟩)]; rfl
    · rw [if_neg (by rw [b3, q_eq (by omega) (by omega)]; exact e2), if_neg (show ¬ tO (tk k) s from fun g => e2 g.2)]; rfl
  · rw [if_neg (by rw [b2, q_lit, q_eq (by omega) (by omega)]; exact e1), if_neg (show ¬ tO (tk k) s from fun g => e1 g.1)]; rfl
theorem k_sgE {f pl c : Nat} {z : Int32} (h : CE y pc V0 tn f pl k c V) : f_X5_isSign N G y z V L = some (qi 0) := by
  unfold f_X5_isSign g_X5_isSign
  rw [if_neg (by rw [h.2.2.1.2.2.1]; decide)]; rfl
theorem k_owE {f pl c : Nat} {z : Int32} (h : CE y pc V0 tn f pl k c V) : f_X5_isOwn N G y z V L = some (qi 0) := by
  unfold f_X5_isOwn g_X5_isOwn
  rw [if_neg (by rw [h.2.2.1.2.2.1]; decide)]; rfl
theorem k_fail {f pl : Nat} (h : CS y pc V0 tk tn k C o V) (hd : y ≠ pc) (hf : 0 < f ∧ f < 100) : zW (f_X5_fail N G y (qi f) (qi pl) V L) (fun r => r.2 = L ∧ CE y pc V0 tn f pl k C.length r.1) := by
  obtain ⟨hF, hk, ⟨b1, b2, b3, b4⟩, ⟨b5, b6, b7, b8⟩, b9⟩ := h
  unfold f_X5_fail g_X5_fail
  refine zW_if1 b7 (zW_some ⟨rfl, CF_up hF (fun w w1 w2 => ?_) (fun j j1 j2 j3 j4 j5 j6 j7 j8 => ?_), hk, ⟨?_, ?_, ?_, ?_, ?_⟩, hf⟩)
  · dsimp only; simp (disch := omega) only [z_same, z_neP, z_neK, zL_same, zL_neP, zL_neK, zr_same, zr_ne]
  · dsimp only; simp (disch := omega) only [z_same, z_neP, z_neK, zL_same, zL_neP, zL_neK, zr_same, zr_ne]
  · dsimp only; simp (disch := omega) only [z_same, z_neP, z_neK, zL_same, zL_neP, zL_neK, zr_same, zr_ne]
  · dsimp only; simp (disch := omega) only [z_same, z_neP, z_neK, zL_same, zL_neP, zL_neK, zr_same, zr_ne]
  · dsimp only; simp (disch := omega) only [z_same, z_neP, z_neK, zL_same, zL_neP, zL_neK, zr_same, zr_ne]; rfl
  · dsimp only; simp (disch := omega) only [z_same, z_neP, z_neK, zL_same, zL_neP, zL_neK, zr_same, zr_ne]; exact b5
  · dsimp only; simp (disch := omega) only [z_same, z_neP, z_neK, zL_same, zL_neP, zL_neK, zr_same, zr_ne]; exact b1
theorem k_failE {f pl c : Nat} {z z' : Int32} (h : CE y pc V0 tn f pl k c V) : f_X5_fail N G y z z' V L = some (V, L) := by
  obtain ⟨hF, hk, ⟨b1, -⟩, hf⟩ := h
  unfold f_X5_fail g_X5_fail
  rw [if_neg (by rw [b1, q_lit, q_eq (by omega) (by omega)]; omega)]
theorem k_fh (hW : TW tk tn) (h : CS y pc V0 tk tn k C o V) (hd : y ≠ pc) : zW (f_X5_failHere N G y V L) (fun r => r.2 = L ∧ CE y pc V0 tn 1 (fp (tk k)) k C.length r.1) := by
  obtain ⟨hF, hk, ⟨b1, b2, b3, b4⟩, -⟩ := id h
  obtain ⟨w1, w2, -⟩ := hW.2 k hk
  unfold f_X5_failHere g_X5_failHere f_X5_failHere_21
  by_cases e : (tk k).1 = 5
  · refine zW_if1 (by rw [b2, e]; rfl) ?_
    rw [b3]
    refine zW_call (k_fail (f := 1) h hd (by omega)) ?_
    rintro ⟨V1, L1⟩ ⟨rfl, h1⟩
    refine zW_some ⟨rfl, ?_⟩
    unfold fp
    rw [if_pos e]
    exact h1
  · refine zW_if0 (by rw [b2, q_lit, q_eq (by omega) (by omega)]; exact e) ?_
    rw [b4]
    refine zW_call (k_fail (f := 1) h hd (by omega)) ?_
    rintro ⟨V1, L1⟩ ⟨rfl, h1⟩
    refine zW_some ⟨rfl, ?_⟩
    unfold fp
    rw [if_neg e]
    exact h1
theorem k_fhE {f pl c : Nat} (h : CE y pc V0 tn f pl k c V) : f_X5_failHere N G y V L = some (V, L) := by
  unfold f_X5_failHere g_X5_failHere f_X5_failHere_21
  rw [if_pos (by rw [h.2.2.1.2.2.1]; rfl), k_failE h]
  rfl
theorem k_emit (hC : CV N G y yt a0 a1 a2 pc tn tl) (h : CS y pc V0 tk tn k C o V) (hl : C.length < tl) {c : Nat} : zW (f_X5_emit N G y (qi (cOf c)) V L) (fun r => r.2 = L ∧ CS y pc V0 tk tn k (C ++ [c]) o r.1) := by
  obtain ⟨⟨g1, g2, g3, g4, g5⟩, ⟨n1, n2, n3, n4⟩, ⟨d1, d2, d3, d4, d5, d6, d7, d8, d9⟩, ht, hn⟩ := hC
  obtain ⟨hF, hk, ⟨b1, b2, b3, b4⟩, ⟨b5, b6, b7, b8⟩, b9⟩ := h
  unfold f_X5_emit
  rw [g5, o_bind]
  simp (disch := omega) only [g_X5_emit, b5, n4, ↓reduceIte, o_bind, and_true, true_and, and_false, false_and, or_true, true_or, or_false, false_or, not_true, not_false_eq_true, not_false_iff, ne_eq, Nat.reduceAdd, Nat.reduceMul, Nat.reduceSub, Nat.reduceDiv, Nat.reduceMod, Nat.reduceLT, Nat.reduceLeDiff, Nat.reduceEqDiff, Nat.not_lt, Nat.not_le, q_lit, ↓q_m1, q_om, q_on, q_add, q_mul, q_sub, q_div, q_md, q_ltT, q_ltF, q_leT, q_leF, q_eqT, q_eqF, q_inT, q_inF, q_nn, q_mlt, q_ltm, q_mle, q_lem, q_nem, q_mne, z_same, z_neP, z_neK, zL_same, zL_neP, zL_neK, zr_same, zr_ne]
  refine zW_some ⟨rfl, CF_up hF (fun w w1 w2 => ?_) (fun j j1 j2 j3 j4 j5 j6 j7 j8 => ?_), hk, ⟨?_, ?_, ?_, ?_⟩, ⟨?_, ?_, ?_, ?_⟩, fun j hj => ?_⟩
  · dsimp only; simp (disch := omega) only [z_same, z_neP, z_neK, zL_same, zL_neP, zL_neK, zr_same, zr_ne]
  · dsimp only; simp (disch := omega) only [z_same, z_neP, z_neK, zL_same, zL_neP, zL_neK, zr_same, zr_ne]
  · dsimp only; simp (disch := omega) only [z_same, z_neP, z_neK, zL_same, zL_neP, zL_neK, zr_same, zr_ne]; exact b1
  · dsimp only; simp (disch := omega) only [z_same, z_neP, z_neK, zL_same, zL_neP, zL_neK, zr_same, zr_ne]; exact b2
  · dsimp only; simp (disch := omega) only [z_same, z_neP, z_neK, zL_same, zL_neP, zL_neK, zr_same, zr_ne]; exact b3
  · dsimp only; simp (disch := omega) only [z_same, z_neP, z_neK, zL_same, zL_neP, zL_neK, zr_same, zr_ne]; exact b4
  · dsimp only; rw [z_same, List.length_append]; rfl
  · dsimp only; simp (disch := omega) only [z_same, z_neP, z_neK, zL_same, zL_neP, zL_neK, zr_same, zr_ne]; exact b6
  · dsimp only; simp (disch := omega) only [z_same, z_neP, z_neK, zL_same, zL_neP, zL_neK, zr_same, zr_ne]; exact b7
  · dsimp only; simp (disch := omega) only [z_same, z_neP, z_neK, zL_same, zL_neP, zL_neK, zr_same, zr_ne]; exact b8
  · rw [List.length_append] at hj
    have hj : j < C.length + 1 := hj
    dsimp only
    by_cases ej : j = C.length
    · subst ej
      rw [gD_last]
      simp (disch := omega) only [z_same, z_neP, z_neK, zL_same, zL_neP, zL_neK, zr_same, zr_ne]
    · rw [gD_app (by omega)]
      simp (disch := omega) only [z_same, z_neP, z_neK, zL_same, zL_neP, zL_neK, zr_same, zr_ne]
      exact b9 j (by omega)
theorem k_emitE {f pl c : Nat} {z : Int32} (hC : CV N G y yt a0 a1 a2 pc tn tl) (h : CE y pc V0 tn f pl k c V) (hc : c < 100000) : zW (f_X5_emit N G y z V L) (fun r => r.2 = L ∧ ∃ c', c' ≤ c + 1 ∧ CE y pc V0 tn f pl k c' r.1) := by
  obtain ⟨⟨g1, g2, g3, g4, g5⟩, ⟨n1, n2, n3, n4⟩, ⟨d1, d2, d3, d4, d5, d6, d7, d8, d9⟩, ht, hn⟩ := hC
  obtain ⟨hF, hk, ⟨b1, b2, b3, b4, b5⟩, hf⟩ := id h
  unfold f_X5_emit
  rw [g5, o_bind]
  by_cases e : c < tl
  · simp (disch := omega) only [g_X5_emit, b4, n4, ↓reduceIte, o_bind, and_true, true_and, and_false, false_and, or_true, true_or, or_false, false_or, not_true, not_false_eq_true, not_false_iff, ne_eq, Nat.reduceAdd, Nat.reduceMul, Nat.reduceSub, Nat.reduceDiv, Nat.reduceMod, Nat.reduceLT, Nat.reduceLeDiff, Nat.reduceEqDiff, Nat.not_lt, Nat.not_le, q_lit, ↓q_m1, q_om, q_on, q_add, q_mul, q_sub, q_div, q_md, q_ltT, q_ltF, q_leT, q_leF, q_eqT, q_eqF, q_inT, q_inF, q_nn, q_mlt, q_ltm, q_mle, q_lem, q_nem, q_mne, z_same, z_neP, z_neK, zL_same, zL_neP, zL_neK, zr_same, zr_ne]
    refine zW_some ⟨rfl, c + 1, Nat.le_refl _, CF_up hF (fun w w1 w2 => ?_) (fun j j1 j2 j3 j4 j5 j6 j7 j8 => ?_), hk, ⟨?_, ?_, ?_, ?_, ?_⟩, hf⟩
    · dsimp only; simp (disch := omega) only [z_same, z_neP, z_neK, zL_same, zL_neP, zL_neK, zr_same, zr_ne]
    · dsimp only; simp (disch := omega) only [z_same, z_neP, z_neK, zL_same, zL_neP, zL_neK, zr_same, zr_ne]
    · dsimp only; simp (disch := omega) only [z_same, z_neP, z_neK, zL_same, zL_neP, zL_neK, zr_same, zr_ne]; exact b1
    · dsimp only; simp (disch := omega) only [z_same, z_neP, z_neK, zL_same, zL_neP, zL_neK, zr_same, zr_ne]; exact b2
    · dsimp only; simp (disch := omega) only [z_same, z_neP, z_neK, zL_same, zL_neP, zL_neK, zr_same, zr_ne]; exact b3
    · dsimp only; simp (disch := omega) only [z_same, z_neP, z_neK, zL_same, zL_neP, zL_neK, zr_same, zr_ne]
    · dsimp only; simp (disch := omega) only [z_same, z_neP, z_neK, zL_same, zL_neP, zL_neK, zr_same, zr_ne]; exact b5
  · simp (disch := omega) only [g_X5_emit, b4, n4, ↓reduceIte, o_bind, and_true, true_and, and_false, false_and, or_true, true_or, or_false, false_or, not_true, not_false_eq_true, not_false_iff, ne_eq, Nat.reduceAdd, Nat.reduceMul, Nat.reduceSub, Nat.reduceDiv, Nat.reduceMod, Nat.reduceLT, Nat.reduceLeDiff, Nat.reduceEqDiff, Nat.not_lt, Nat.not_le, q_lit, ↓q_m1, q_om, q_on, q_add, q_mul, q_sub, q_div, q_md, q_ltT, q_ltF, q_leT, q_leF, q_eqT, q_eqF, q_inT, q_inF, q_nn, q_mlt, q_ltm, q_mle, q_lem, q_nem, q_mne, z_same, z_neP, z_neK, zL_same, zL_neP, zL_neK, zr_same, zr_ne]
    exact zW_some ⟨rfl, c, Nat.le_succ _, h⟩
theorem k_8 {o' : Nat} (h : CS y pc V0 tk tn k C o V) (hd : y ≠ pc) : CS y pc V0 tk tn k C o' (z_uI V y 8 (qi o')) := by
  obtain ⟨hF, hk, ⟨b1, b2, b3, b4⟩, ⟨b5, b6, b7, b8⟩, b9⟩ := h
  refine ⟨CF_up hF (fun w w1 w2 => z_neP w1) (fun j j1 j2 j3 j4 j5 j6 j7 j8 => z_neK j6), hk, ⟨?_, ?_, ?_, ?_⟩, ⟨?_, z_same, ?_, ?_⟩, fun j hj => ?_⟩
  · rw [z_neK (by omega)]; exact b1
  · rw [z_neK (by omega)]; exact b2
  · rw [z_neK (by omega)]; exact b3
  · rw [z_neK (by omega)]; exact b4
  · rw [z_neK (by omega)]; exact b5
  · rw [z_neK (by omega)]; exact b7
  · rw [z_neK (by omega)]; exact b8
  · rw [z_neP (by omega)]; exact b9 j hj
theorem k_8E {f pl c : Nat} {z : Int32} (h : CE y pc V0 tn f pl k c V) : CE y pc V0 tn f pl k c (z_uI V y 8 z) := by
  obtain ⟨hF, hk, ⟨b1, b2, b3, b4, b5⟩, hf⟩ := h
  refine ⟨CF_up hF (fun w w1 w2 => z_neP w1) (fun j j1 j2 j3 j4 j5 j6 j7 j8 => z_neK j6), hk, ⟨?_, ?_, ?_, ?_, ?_⟩, hf⟩
  · rw [z_neK (by omega)]; exact b1
  · rw [z_neK (by omega)]; exact b2
  · rw [z_neK (by omega)]; exact b3
  · rw [z_neK (by omega)]; exact b4
  · rw [z_neK (by omega)]; exact b5
theorem k_opens (hC : CV N G y yt a0 a1 a2 pc tn tl) (hV : TV V0 yt a0 a1 a2 tn tk) (hW : TW tk tn) (h : CS y pc V0 tk tn k C o V) (h0 : (tk k).1 ≠ 0) (ho : o < 7) : zW (f_X5_opens N G y V L) (fun r => r.1 = 1 ∧ r.2.2 = L ∧ CS y pc V0 tk tn (k + 1) C (o + 1) r.2.1) := by
  have b6 : V y 8 = qi o := h.2.2.2.1.2.1
  unfold f_X5_opens g_X5_opens
  refine zW_if1 (by rw [b6, q_lit, q_lt (by omega) (by omega)]; exact ho) ?_
  rw [b6, show (1 : Int32) = qi 1 from rfl, q_add]
  refine zW_call (k_take hC hV hW (k_8 h hC.2.2.1.2.2.2.2.1) h0) ?_
  rintro ⟨V1, L1⟩ ⟨rfl, h1⟩
  exact zW_some ⟨rfl, rfl, h1⟩
theorem k_opens7 (hC : CV N G y yt a0 a1 a2 pc tn tl) (h : CS y pc V0 tk tn k C 7 V) : zW (f_X5_opens N G y V L) (fun r => r.1 = 0 ∧ r.2.2 = L ∧ CE y pc V0 tn 5 (tk k).2.2 k C.length r.2.1) := by
  have b6 : V y 8 = qi 7 := h.2.2.2.1.2.1
  have b4 : V y 4 = qi (tk k).2.2 := h.2.2.1.2.2.2
  unfold f_X5_opens g_X5_opens
  refine zW_if0 (by rw [b6]; decide) ?_
  rw [b4]
  refine zW_call (k_fail (f := 5) h hC.2.2.1.2.2.2.2.1 (by omega)) ?_
  rintro ⟨V1, L1⟩ ⟨rfl, h1⟩
  exact zW_some ⟨rfl, rfl, h1⟩
theorem k_skip (hC : CV N G y yt a0 a1 a2 pc tn tl) (hV : TV V0 yt a0 a1 a2 tn tk) (hW : TW tk tn) (h : CS y pc V0 tk tn k C o V) {s : Nat} (hs : s < 256) : zW (f_X5_skipSign N G y (qi s) V L) (fun r => r.2 = L ∧ ((tS (tk k) s ∧ CS y pc V0 tk tn (k + 1) C o r.1) ∨ (¬ tS (tk k) s ∧ CE y pc V0 tn 1 (fp (tk k)) k C.length r.1))) := by
  unfold f_X5_skipSign g_X5_skipSign
  refine zW_is (k_sg hW h hs) ?_
  by_cases e : tS (tk k) s
  · rw [if_pos e]
    refine zW_if0 (by decide) ?_
    refine zW_call (k_take hC hV hW h (by have := e.1; omega)) ?_
    rintro ⟨V1, L1⟩ ⟨rfl, h1⟩
    exact zW_some ⟨rfl, Or.inl ⟨e, h1⟩⟩
  · rw [if_neg e]
    refine zW_if1 (by rfl) ?_
    refine zW_call (k_fh hW h hC.2.2.1.2.2.2.2.1) ?_
    rintro ⟨V1, L1⟩ ⟨rfl, h1⟩
    exact zW_some ⟨rfl, Or.inr ⟨e, h1⟩⟩
theorem k_skipE {f pl c : Nat} {z : Int32} (h : CE y pc V0 tn f pl k c V) : f_X5_skipSign N G y z V L = some (V, L) := by
  unfold f_X5_skipSign g_X5_skipSign
  rw [k_sgE h, o_bind, if_pos (by rfl), k_fhE h]
  rfl
end
