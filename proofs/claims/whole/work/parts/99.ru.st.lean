section
variable {b k cd n0 n tn tl tw : Nat} {V V' R R' : zI} {L M M' : zL} {K N : Nat → Nat} {G : zG} {ed t w st : Nat → Nat} {tk : Nat → tkT} {C : List Nat} {U : aU}
/-! What holds between statements. -/
def KI (n0 tn tl : Nat) (tk : Nat → tkT) (N : Nat → Nat) (G : zG) (V : zI) (U : aU) (w st : Nat → Nat) : Prop := CV N G n0 (n0 + 5) (n0 + 6) (n0 + 7) (n0 + 8) (n0 + 9) tn tl ∧ (unS N G (n0 + 1) ∧ G n0 5 = some (n0 + 1) ∧ 28 ≤ n0) ∧ TV V (n0 + 5) (n0 + 6) (n0 + 7) (n0 + 8) tn tk ∧ ucP N G V (n0 + 1) U w st ∧ ∀ r p, r < 3 → G (n0 + 1) (8 + r) = some p → n0 + 10 ≤ p
def rulU (U : aU) : Nat → Option (List Nat) := U.2.2.2.2.2.1
def QI (b : Nat) (R : zI) (M : zL) (U : aU) (w st : Nat → Nat) (cd : Nat) : Prop := urP R M b U w st ∧ R 0 25 = qi cd ∧ ∀ r l, r < 3 → rulU U r = some l → ∃ fr, R 8 (3 * b + r) = qi fr ∧ R 9 (3 * b + r) = qi (fr + l.length) ∧ fr + l.length ≤ cd ∧ ∀ j, j < l.length → R 10 (1600 * b + fr + j) = qi (rsOf (l.getD j 0)) ∧ (100 ≤ l.getD j 0 → R 11 (1600 * b + fr + j) = qi (l.getD j 0 - 100))
def UI (U : aU) (w st : Nat → Nat) : Prop := upB w st U ∧ UB U
def RQ (b : Nat) (R : zI) (M : zL) (R' : zI) (M' : zL) : Prop := (∀ j, j ≠ 3 → j ≠ 4 → j ≠ 5 → j ≠ 6 → j ≠ 8 → j ≠ 9 → j ≠ 12 → j ≠ 25 → j ≠ 27 → j ≠ 33 → j ≠ 34 → j ≠ 36 → j ≠ 37 → R' 0 j = R 0 j) ∧ (∀ j, j ≠ b → R' 2 j = R 2 j ∧ R' 3 j = R 3 j) ∧ (∀ j, (j < 36 * b ∨ 36 * b + 36 ≤ j) → R' 4 j = R 4 j ∧ R' 6 j = R 6 j) ∧ (∀ j, (j < 2 * b ∨ 2 * b + 2 ≤ j) → R' 7 j = R 7 j) ∧ (∀ j, (j < 3 * b ∨ 3 * b + 3 ≤ j) → R' 8 j = R 8 j ∧ R' 9 j = R 9 j) ∧ (∀ j, (j < 1600 * b ∨ 1600 * b + 1600 ≤ j) → R' 10 j = R 10 j ∧ R' 11 j = R 11 j) ∧ (R' 1 = R 1 ∧ R' 5 = R 5 ∧ ∀ v, 19 ≤ v → R' v = R v) ∧ (∀ j, j ≠ 7 → M' 0 j = M 0 j) ∧ (∀ j, (j < 6 * b ∨ 6 * b + 6 ≤ j) → M' 12 j = M 12 j) ∧ ∀ v, v ≠ 0 → v ≠ 12 → M' v = M v
theorem RQ_r : RQ b R M R M := ⟨fun _ _ _ _ _ _ _ _ _ _ _ _ _ _ => rfl, fun _ _ => ⟨rfl, rfl⟩, fun _ _ => ⟨rfl, rfl⟩, fun _ _ => rfl, fun _ _ => ⟨rfl, rfl⟩, fun _ _ => ⟨rfl, rfl⟩, ⟨rfl, rfl, fun _ _ => rfl⟩, fun _ _ => rfl, fun _ _ => rfl, fun _ _ _ => rfl⟩
theorem RQ_t {R2 : zI} {M2 : zL} (h : RQ b R M R' M') (h' : RQ b R' M' R2 M2) : RQ b R M R2 M2 := by
  obtain ⟨a1, a2, a3, a4, a5, a6, ⟨a7, a8, a9⟩, a10, a11, a12⟩ := h
  obtain ⟨b1, b2, b3, b4, b5, b6, ⟨b7, b8, b9⟩, b10, b11, b12⟩ := h'
  exact ⟨fun j c1 c2 c3 c4 c5 c6 c7 c8 c9 c10 c11 c12 c13 => (b1 j c1 c2 c3 c4 c5 c6 c7 c8 c9 c10 c11 c12 c13).trans (a1 j c1 c2 c3 c4 c5 c6 c7 c8 c9 c10 c11 c12 c13), fun j h => ⟨(b2 j h).1.trans (a2 j h).1, (b2 j h).2.trans (a2 j h).2⟩, fun j h => ⟨(b3 j h).1.trans (a3 j h).1, (b3 j h).2.trans (a3 j h).2⟩, fun j h => (b4 j h).trans (a4 j h), fun j h => ⟨(b5 j h).1.trans (a5 j h).1, (b5 j h).2.trans (a5 j h).2⟩, fun j h => ⟨(b6 j h).1.trans (a6 j h).1, (b6 j h).2.trans (a6 j h).2⟩, ⟨b7.trans a7, b8.trans a8, fun v h => (b9 v h).trans (a9 v h)⟩, fun j h => (b10 j h).trans (a10 j h), fun j h => (b11 j h).trans (a11 j h), fun v h h' => (b12 v h h').trans (a12 v h h')⟩
theorem RQ_Z (h : ZF R M R' M') : RQ b R M R' M' := by
  obtain ⟨a1, a2, a3, a4⟩ := h
  exact ⟨fun j c1 c2 c3 c4 c5 c6 c7 c8 c9 c10 c11 c12 c13 => a1 j c1 c2 c3 c4 c5 c6 c7, fun j _ => ⟨by rw [a2 2 (by omega)], by rw [a2 3 (by omega)]⟩, fun j _ => ⟨by rw [a2 4 (by omega)], by rw [a2 6 (by omega)]⟩, fun j _ => by rw [a2 7 (by omega)], fun j _ => ⟨by rw [a2 8 (by omega)], by rw [a2 9 (by omega)]⟩, fun j _ => ⟨by rw [a2 10 (by omega)], by rw [a2 11 (by omega)]⟩, ⟨a2 1 (by omega), a2 5 (by omega), fun v h => a2 v (by omega)⟩, a3, fun j _ => by rw [a4 12 (by omega)], fun v h _ => a4 v h⟩
theorem ZF_r : ZF R M R M := ⟨fun _ _ _ _ _ _ _ _ => rfl, fun _ _ => rfl, fun _ _ => rfl, fun _ _ => rfl⟩
theorem QI_Z (h : QI b R M U w st cd) (hz : ZF R M R' M') : QI b R' M' U w st cd := by
  obtain ⟨a1, a2, a3, a4⟩ := hz
  obtain ⟨tw, ct, way, encl, lost, rul, nam⟩ := U
  obtain ⟨h1, h2, h3⟩ := h
  refine ⟨?_, ?_, ?_⟩
  · unfold urP at h1 ⊢
    rw [a1 26 (by omega) (by omega) (by omega) (by omega) (by omega) (by omega) (by omega), a2 2 (by omega), a2 3 (by omega), a2 4 (by omega), a2 6 (by omega), a2 7 (by omega), a2 8 (by omega), a2 9 (by omega), a2 10 (by omega), a2 11 (by omega), a4 12 (by omega)]
    exact h1
  · rw [a1 25 (by omega) (by omega) (by omega) (by omega) (by omega) (by omega) (by omega)]; exact h2
  · rw [a2 8 (by omega), a2 9 (by omega), a2 10 (by omega), a2 11 (by omega)]; exact h3
theorem CF_r {y pc : Nat} : CF y pc V V := ⟨fun _ _ _ => rfl, fun _ _ _ _ _ _ _ _ _ => rfl⟩
theorem CS_self {y pc : Nat} {V0 : zI} {o : Nat} (h : CS y pc V0 tk tn k C o V) : CS y pc V tk tn k C o V := ⟨CF_r, h.2⟩
theorem CE_self {y pc : Nat} {V0 : zI} {f pl c : Nat} (h : CE y pc V0 tn f pl k c V) : CE y pc V tn f pl k c V := ⟨CF_r, h.2⟩
theorem KI_CF (h : KI n0 tn tl tk N G V U w st) (hf : CF n0 (n0 + 9) V V') : KI n0 tn tl tk N G V' U w st := by
  obtain ⟨h1, h2, ⟨h3, h4⟩, h5, h6⟩ := h
  obtain ⟨tw, ct, way, encl, lost, rul, nam⟩ := U
  refine ⟨h1, h2, ⟨?_, ?_⟩, ?_, h6⟩
  · rw [hf.1 (n0 + 5) (by omega) (by omega)]; exact h3
  · rw [hf.1 (n0 + 6) (by omega) (by omega), hf.1 (n0 + 7) (by omega) (by omega), hf.1 (n0 + 8) (by omega) (by omega)]; exact h4
  · obtain ⟨c1, c2, c3, c4⟩ := h5
    refine ⟨?_, ?_, ?_, fun r hr => ⟨(c4 r hr).1, fun l hl => ?_⟩⟩
    · rw [hf.1 (n0 + 1) (by omega) (by omega)]; exact c1
    · rw [hf.1 (n0 + 1 + 3) (by omega) (by omega)]; exact c2
    · rw [hf.1 (n0 + 1 + 1) (by omega) (by omega), hf.1 (n0 + 1 + 2) (by omega) (by omega)]; exact c3
    · obtain ⟨p, p1, p2, p3, p4⟩ := (c4 r hr).2 l hl
      have := h6 r p hr p1
      refine ⟨p, p1, p2, p3, ?_⟩
      rw [hf.1 p (by omega) (by omega)]
      exact p4
/-- the state between statements, both sides -/
def ST (n0 b tn tl : Nat) (t ed : Nat → Nat) (tk : Nat → tkT) (k cd : Nat) (U : aU) (w st : Nat → Nat) (n : Nat) (N : Nat → Nat) (G : zG) (V R : zI) (M : zL) : Prop := KI n0 tn tl tk N G V U w st ∧ (∃ C, CS n0 (n0 + 9) V tk tn k C 0 V ∧ C.length ≤ 1600) ∧ UI U w st ∧ (tpR R t tl ∧ (R 0 8 = qi 0 ∧ R 0 9 = qm) ∧ R 0 5 = qi (ed k) ∧ tkR (tk k) R M) ∧ QI b R M U w st cd ∧ b < 2 ∧ cd ≤ k ∧ ∀ r p, r < 3 → G (n0 + 1) (8 + r) = some p → p < n
def FL (n0 tn : Nat) (V R : zI) : Prop := ∃ f pl k c, CE n0 (n0 + 9) V tn f pl k c V ∧ R 0 8 = qi f ∧ R 0 9 = qi pl
theorem FL_J (h : JF n0 (n0 + 9) V tn R M V' R' M') : FL n0 tn V' R' := by
  obtain ⟨f, pl, ⟨k, c, h1, -⟩, h2⟩ := h
  exact ⟨f, pl, k, c, CE_self h1, h2.2.1, h2.2.2.1⟩
theorem JF_v (h : JF n0 (n0 + 9) V tn R M V' R' M') : (∀ x, x < n0 → V' x = V x) ∧ RQ b R M R' M' ∧ V' (n0 + 1) = V (n0 + 1) := by
  obtain ⟨f, pl, ⟨k, c, h1, -⟩, h2⟩ := h
  exact ⟨fun x hx => h1.1.1 x (by omega) (by omega), RQ_Z h2.1, h1.1.1 _ (by omega) (by omega)⟩
def S1 (n0 b tn tl : Nat) (t ed : Nat → Nat) (tk : Nat → tkT) (k cd : Nat) (U : aU) (n : Nat) (N : Nat → Nat) (G : zG) (V R : zI) (M L : zL) (r r' : zI × zL) : Prop := r.2 = L ∧ ((∀ x, x < n0 → r.1 x = V x) ∧ RQ b R M r'.1 r'.2 ∧ r.1 (n0 + 1) 2 = V (n0 + 1) 2) ∧ ((∃ k' U' w' st', k < k' ∧ rulU U' = rulU U ∧ ST n0 b tn tl t ed tk k' cd U' w' st' n N G r.1 r'.1 r'.2) ∨ FL n0 tn r.1 r'.1)
theorem S1_F {r r' : zI × zL} (e : r.2 = L) (h : JF n0 (n0 + 9) V tn R M r.1 r'.1 r'.2) : S1 n0 b tn tl t ed tk k cd U n N G V R M L r r' := by
  obtain ⟨h1, h2, h3⟩ := JF_v (b := b) h
  exact ⟨e, ⟨h1, h2, by rw [h3]⟩, Or.inr (FL_J h)⟩
theorem ST_JK (h : ST n0 b tn tl t ed tk k cd U w st n N G V R M) : ∃ C, C.length ≤ 1600 ∧ JK n0 (n0 + 9) V tk tn R M ed C k V R M := by
  obtain ⟨-, ⟨C, hC, hl⟩, -, ⟨-, h1, h2⟩, -⟩ := h
  exact ⟨C, hl, hC, ZF_r, h1, h2⟩
/-- the union untouched: only the tokens have moved -/
theorem S1_K {r r' : zI × zL} {k' : Nat} (h : ST n0 b tn tl t ed tk k cd U w st n N G V R M) (hk : k < k') (e : r.2 = L) (hC : C.length ≤ 1600) (hj : JK n0 (n0 + 9) V tk tn R M ed C k' r.1 r'.1 r'.2) : ST n0 b tn tl t ed tk k' cd U w st n N G r.1 r'.1 r'.2 := by
  obtain ⟨h1, h2, h3, ⟨h4, h5, h6⟩, h7, h8, h9, h10⟩ := h
  obtain ⟨j1, ⟨z1, z2, z3⟩, j3, j4, j5⟩ := hj
  refine ⟨KI_CF h1 j1.1, ⟨C, CS_self j1, hC⟩, h3, ⟨?_, j3, j4, j5⟩, QI_Z h7 ⟨z1, z2, z3⟩, h8, by omega, h10⟩
  unfold tpR
  rw [z1 2 (by omega) (by omega) (by omega) (by omega) (by omega) (by omega) (by omega), z2 1 (by omega)]
  exact h4
end
