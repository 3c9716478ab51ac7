section
variable {n : Nat} {K N : Nat → Nat} {G : zG} {V R : zI} {L M : zL} {st w : Nat → Nat} {b u p : Nat} {U : aU}
/-! what the reading leaves, and what measuring makes of it -/
def ucP (N : Nat → Nat) (G : zG) (V : zI) (u : Nat) (U : aU) (w st : Nat → Nat) : Prop := match U with
  | (tw, ct, _, encl, lost, rul, nam) => (V u 0 = qi tw ∧ V u 1 = qi ct ∧ V u 3 = qi encl ∧ V u 4 = qi lost) ∧ (∀ k, k < 36 → V (u + 3) k = qi (w k)) ∧ ((∀ k, k < tw → V (u + 1) k = qi (nmC (nam k))) ∧ ∀ k, k < 36 → V (u + 2) k = qi (st k)) ∧ ∀ r, r < 3 → (rul r = none → G u (8 + r) = none) ∧ ∀ l, rul r = some l → ∃ p, G u (8 + r) = some p ∧ 28 ≤ p ∧ N p = l.length ∧ ∀ j, j < l.length → V p j = qi (cOf (l.getD j 0))
def urP (R : zI) (M : zL) (b : Nat) (U : aU) (w st : Nat → Nat) : Prop := match U with
  | (tw, ct, _, encl, lost, rul, nam) => (b < 2 ∧ R 0 26 = qi b ∧ R 2 b = qi tw ∧ R 3 b = qi ct ∧ R 7 (2 * b) = qi encl ∧ R 7 (2 * b + 1) = qi lost) ∧ ((∀ k, k < 36 → R 4 (36 * b + k) = qi (w k)) ∧ ∀ k, k < 36 → R 6 (36 * b + k) = qi (st k)) ∧ (∀ k, k < tw → M 12 (6 * b + k) = qZ (nmR (nam k))) ∧ ∀ r, r < 3 → (rul r = none → R 8 (3 * b + r) = qm) ∧ ∀ l, rul r = some l → ∃ fr, R 8 (3 * b + r) = qi fr ∧ R 9 (3 * b + r) = qi (fr + l.length) ∧ fr + l.length ≤ 1600 ∧ ∀ j, j < l.length → R 10 (1600 * b + fr + j) = qi (rsOf (l.getD j 0)) ∧ (100 ≤ l.getD j 0 → R 11 (1600 * b + fr + j) = qi (l.getD j 0 - 100))
theorem uc_fin {V' : zI} (h : ucP N G V u U w st) (hp : upB w st U) (hq : ∀ r p, r < 3 → G u (8 + r) = some p → p ≠ u + 3) (h1 : ∀ k, k < 36 → V' (u + 3) k = qi (itW w 6 k)) (h2 : ∀ x, x ≠ u + 3 → V' x = V x) : UC N G V' u U := by
  obtain ⟨tw, ct, way, encl, lost, rul, nam⟩ := U
  obtain ⟨a1, a2, ⟨a3, a4⟩, a5⟩ := h
  obtain ⟨-, -, -, b4, b5⟩ := hp
  have b5 : way = itW w 6 := b5
  subst b5
  refine ⟨?_, h1, ⟨fun k hk => ?_, fun k hk hn => ?_⟩, fun r hr => ⟨(a5 r hr).1, fun l hl => ?_⟩⟩
  · rw [h2 u (by omega)]; exact a1
  · rw [h2 (u + 1) (by omega)]; exact a3 k hk
  · rw [h2 (u + 2) (by omega), a4 k hk, b4 k hk hn]
  · obtain ⟨p, p1, p2, p3, p4⟩ := (a5 r hr).2 l hl
    refine ⟨p, p1, p2, p3, ?_⟩
    rw [h2 p (hq r p hr p1)]
    exact p4
theorem ur_fin {R' : zI} {M' : zL} (h : urP R M b U w st) (hp : upB w st U) (h1 : ∀ k, k < 36 → R' 5 (36 * b + k) = qi (mO (itW w 6) k)) (h2 : ∀ x, x ≠ 0 → x ≠ 5 → x < 20 → R' x = R x) (h13 : R' 0 13 = qi b) (hM : M' 12 = M 12) : UR R' M' b U := by
  obtain ⟨tw, ct, way, encl, lost, rul, nam⟩ := U
  obtain ⟨⟨a0, a1, a2, a3, a4, a5⟩, ⟨c1, c2⟩, c3, c4⟩ := h
  obtain ⟨-, -, -, -, b5⟩ := hp
  have b5 : way = itW w 6 := b5
  subst b5
  refine ⟨⟨a0, h13, ?_, ?_, ?_, ?_⟩, fun _ k hk => h1 k hk, ?_, fun r hr => ?_⟩
  · rw [h2 2 (by omega) (by omega) (by omega)]; exact a2
  · rw [h2 3 (by omega) (by omega) (by omega)]; exact a3
  · rw [h2 7 (by omega) (by omega) (by omega)]; exact a4
  · rw [h2 7 (by omega) (by omega) (by omega)]; exact a5
  · rw [hM]; exact c3
  · rw [h2 8 (by omega) (by omega) (by omega), h2 9 (by omega) (by omega) (by omega), h2 10 (by omega) (by omega) (by omega), h2 11 (by omega) (by omega) (by omega)]
    exact c4 r hr
theorem ucP_st (h : ucP N G V u U w st) : ∀ k, k < 36 → V (u + 2) k = qi (st k) := by
  obtain ⟨tw, ct, way, encl, lost, rul, nam⟩ := U
  exact h.2.2.1.2
theorem ucP_w (h : ucP N G V u U w st) : ∀ k, k < 36 → V (u + 3) k = qi (w k) := by
  obtain ⟨tw, ct, way, encl, lost, rul, nam⟩ := U
  exact h.2.1
theorem urP_w (h : urP R M b U w st) : (b < 2 ∧ R 0 26 = qi b) ∧ (∀ k, k < 36 → R 4 (36 * b + k) = qi (w k)) ∧ ∀ k, k < 36 → R 6 (36 * b + k) = qi (st k) := by
  obtain ⟨tw, ct, way, encl, lost, rul, nam⟩ := U
  exact ⟨⟨h.1.1, h.1.2.1⟩, h.2.1⟩
/-- both ends, the class's -/
theorem cs_fin (hx : fxS N G) (hu : unS N G u) (hu28 : 28 ≤ u) (h : ucP N G V u U w st) (hp : upB w st U) (hq : ∀ r p, r < 3 → G u (8 + r) = some p → p ≠ u + 3) (h28 : ∀ r p, r < 3 → G u (8 + r) = some p → 28 ≤ p) : zW ((f_X9_findWays N G u V L).bind fun r3 => f_X7_begin N G 6 (u + 2) r3.1 r3.2) (fun r => UC N G r.1 u U ∧ SC r.1 6 (A0 st) ∧ (∀ x, x ≠ u + 3 → x ≠ 6 → x ≠ 7 → x ≠ 8 → x ≠ 9 → r.1 x = V x) ∧ r.1 u = V u ∧ r.2 = L) := by
  refine zW_call (cs_ways (L := L) hu.2.1.2.2 hu.2.2.2.2 hp.1 (ucP_w h)) ?_
  rintro ⟨V1, L1⟩ ⟨a1, a2, a3⟩
  dsimp only at a1 a2 a3 ⊢
  refine zW_mono (cs_begin (L := L1) (V := V1) (p := u + 2) hx.2.1 (by omega) hu.2.2.2.1) ?_
  rintro ⟨V2, L2⟩ ⟨b1, b2, b3, b4⟩
  dsimp only at b1 b2 b3 b4 ⊢
  have hst := ucP_st h
  have hUC := uc_fin h hp hq a1 a2
  refine ⟨UC_fr hUC (fun x hx' => ?_), up_SC (fun k hk => ⟨?_, (b1 k hk).2.1, (b1 k hk).2.2⟩) b2, fun x x1 x2 x3 x4 x5 => (b3 x x2 x3 x4 x5).trans (a2 x x1), ?_, b4.trans a3⟩
  · have hx28 : 28 ≤ x := by
      rcases hx' with e | e | e | e | ⟨r, hr, hg⟩
      · omega
      · omega
      · omega
      · omega
      · exact h28 r x hr hg
    exact b3 x (by omega) (by omega) (by omega) (by omega)
  · rw [(b1 k hk).1, a2 (u + 2) (by omega)]
    exact hst k hk
  · rw [b3 u (by omega) (by omega) (by omega) (by omega), a2 u (by omega)]
end
