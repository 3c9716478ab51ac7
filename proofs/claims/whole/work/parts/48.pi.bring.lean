section
/-! Letters come: i letters looked at, st of them stay. -/
abbrev aX : Type := aS × Nat × Nat × Nat × Nat × Int64
def mS (A : aS) (m : Nat) : aS := (A.1, A.2.1, A.2.2.1, A.2.2.2.1, m, A.2.2.2.2.2.1, A.2.2.2.2.2.2.1, A.2.2.2.2.2.2.2.1, A.2.2.2.2.2.2.2.2)
def dS (A : aS) (d : Nat) : aS := (d, A.2)
def drX (dr : Bool) (x : Nat) : Nat := if dr = true then lcg x else x
def drL (lo : Nat) (dr : Bool) (x : Nat) : Nat := if dr = true ∧ lcg x / 64 % 100 < lo then 1 else 0
def brS (e lo : Nat) (dr : Bool) (i : Nat) (X : aX) : aX := match X with
  | (A, st, x, cm, ls, bt) => if 1 < A.2.2.2.2.2.2.1 i then ((A.1, A.2.1, A.2.2.1, A.2.2.2.1, A.2.2.2.2.1, nu A.2.2.2.2.2.1 st (A.2.2.2.2.2.1 i), nu A.2.2.2.2.2.2.1 st (A.2.2.2.2.2.2.1 i - 1), A.2.2.2.2.2.2.2), st + 1, x, cm, ls, bt)
    else (delS A (A.2.2.2.2.2.1 i) e (drL lo dr x), st, drX dr x, if drL lo dr x = 1 then cm else cm + 1, if drL lo dr x = 1 then ls + 1 else ls, if drL lo dr x = 1 then bt else bt ||| bit6 (A.2.2.2.2.2.1 i))
def brF (e lo : Nat) (dr : Bool) (X : aX) : Nat → aX
  | 0 => X
  | i + 1 => brS e lo dr i (brF e lo dr X i)
def SBi (U : aU) (i st : Nat) (A : aS) : Prop := match U, A with
  | (tw, _, way, _), (day, held, sent, got, m, mp, ml, kn, kc) => (day ≤ 999 ∧ m ≤ 60 ∧ kn ≤ 50) ∧ (∀ k, k < 36 → held k ≤ 99 ∧ sent k ≤ 99 ∧ got k ≤ 99) ∧ (∀ k, k < 36 → ¬ (k / 6 < tw ∧ k % 6 < tw ∧ k / 6 ≠ k % 6) → held k = 0 ∧ sent k = 0 ∧ got k = 0) ∧ (∀ k, k < m → (k < st ∨ i ≤ k) → mp k < 36 ∧ 0 < way (mp k) ∧ 1 ≤ ml k ∧ ml k ≤ way (mp k)) ∧ ∀ k, k < kn → kc k < 72000
theorem SBi_of {U : aU} {A : aS} (h : SB U A) : SBi U 0 0 A := by
  obtain ⟨tw, ct, way, encl, lost, rul, nam⟩ := U
  obtain ⟨day, held, sent, got, m, mp, ml, kn, kc⟩ := A
  exact ⟨h.1, h.2.1, h.2.2.1, fun k hk _ => h.2.2.2.1 k hk, h.2.2.2.2⟩
theorem SBi_end {U : aU} {A : aS} {st : Nat} (h : SBi U A.2.2.2.2.1 st A) (hst : st ≤ A.2.2.2.2.1) : SB U (mS A st) := by
  obtain ⟨tw, ct, way, encl, lost, rul, nam⟩ := U
  obtain ⟨day, held, sent, got, m, mp, ml, kn, kc⟩ := A
  obtain ⟨h1, h2, h3, h4, h5⟩ := h
  dsimp only at hst h4
  exact ⟨⟨h1.1, by omega, h1.2.2⟩, h2, h3, fun k hk => h4 k (by omega) (Or.inl hk), h5⟩
theorem keepS_b {kn c : Nat} {kc : Nat → Nat} (hk : kn ≤ 50) (hc : c < 72000) (h : ∀ k, k < kn → kc k < 72000) : (if kn = 50 then 50 else kn + 1) ≤ 50 ∧ ∀ k, k < (if kn = 50 then 50 else kn + 1) → (if kn = 50 then nu (fun j => kc (j + 1)) 49 c else nu kc kn c) k < 72000 := by
  by_cases h50 : kn = 50
  · simp only [h50, ↓reduceIte, nu]
    refine ⟨by omega, fun k hk => ?_⟩
    split
    · exact hc
    · exact h (k + 1) (by omega)
  · simp only [h50, ↓reduceIte, nu]
    refine ⟨by omega, fun k hk => ?_⟩
    split
    · exact hc
    · exact h k (by omega)
theorem delS_eq {day m kn p e l : Nat} {held sent got mp ml kc : Nat → Nat} : delS (day, held, sent, got, m, mp, ml, kn, kc) p e l = if l = 1 then keepS (day, held, sent, got, m, mp, ml, kn, kc) ((day * 36 + p) * 2 + l) else keepS (day, nu held (p % 6 * 6 + p / 6) (if held (p % 6 * 6 + p / 6) + e < 99 then held (p % 6 * 6 + p / 6) + e else 99), sent, nu got (p % 6 * 6 + p / 6) (if got (p % 6 * 6 + p / 6) + 1 < 99 then got (p % 6 * 6 + p / 6) + 1 else 99), m, mp, ml, kn, kc) ((day * 36 + p) * 2 + l) := rfl
theorem delS_m {A : aS} {p e l : Nat} : (delS A p e l).1 = A.1 ∧ (delS A p e l).2.2.2.2.1 = A.2.2.2.2.1 ∧ (delS A p e l).2.2.2.2.2.1 = A.2.2.2.2.2.1 ∧ (delS A p e l).2.2.2.2.2.2.1 = A.2.2.2.2.2.2.1 ∧ (delS A p e l).2.2.1 = A.2.2.1 := by
  obtain ⟨day, held, sent, got, m, mp, ml, kn, kc⟩ := A
  rw [delS_eq]
  split <;> exact ⟨rfl, rfl, rfl, rfl, rfl⟩
theorem SBi_del {U : aU} {A : aS} {i st e l : Nat} (hU : UB U) (h : SBi U i st A) (hi : i < A.2.2.2.2.1) (hl : l < 2) : SBi U (i + 1) st (delS A (A.2.2.2.2.2.1 i) e l) := by
  obtain ⟨tw, ct, way, encl, lost, rul, nam⟩ := U
  obtain ⟨day, held, sent, got, m, mp, ml, kn, kc⟩ := A
  obtain ⟨h1, h2, h3, h4, h5⟩ := h
  dsimp only at hi ⊢
  obtain ⟨p1, p2, p3, p4⟩ := h4 i hi (Or.inr (Nat.le_refl _))
  have hw := (hU.2.1 (mp i) p1).2 p2
  generalize mp i = p at *
  have hkb := keepS_b (c := (day * 36 + p) * 2 + l) h1.2.2 (by omega) h5
  have hmp : ∀ k, k < m → (k < st ∨ i + 1 ≤ k) → mp k < 36 ∧ 0 < way (mp k) ∧ 1 ≤ ml k ∧ ml k ≤ way (mp k) := fun k hk hk2 => h4 k hk (by omega)
  rw [delS_eq]
  split
  · exact ⟨⟨h1.1, h1.2.1, hkb.1⟩, h2, h3, hmp, hkb.2⟩
  · refine ⟨⟨h1.1, h1.2.1, hkb.1⟩, fun k hk => ?_, fun k hk hn => ?_, hmp, hkb.2⟩
    · have := h2 k hk
      refine ⟨?_, this.2.1, ?_⟩
      · unfold nu
        split
        · split <;> omega
        · exact this.1
      · unfold nu
        split
        · split <;> omega
        · exact this.2.2
    · have h3k := h3 k hk hn
      have hne : k ≠ p % 6 * 6 + p / 6 := by
        rintro rfl
        apply hn
        (try dsimp only at hw)
        omega
      simp only [nu, hne, ↓reduceIte]
      exact h3k
theorem SBi_stay {U : aU} {A : aS} {i st : Nat} (h : SBi U i st A) (hi : i < A.2.2.2.2.1) (hst : st ≤ i) (hl : 1 < A.2.2.2.2.2.2.1 i) : SBi U (i + 1) (st + 1) (A.1, A.2.1, A.2.2.1, A.2.2.2.1, A.2.2.2.2.1, nu A.2.2.2.2.2.1 st (A.2.2.2.2.2.1 i), nu A.2.2.2.2.2.2.1 st (A.2.2.2.2.2.2.1 i - 1), A.2.2.2.2.2.2.2) := by
  obtain ⟨tw, ct, way, encl, lost, rul, nam⟩ := U
  obtain ⟨day, held, sent, got, m, mp, ml, kn, kc⟩ := A
  obtain ⟨h1, h2, h3, h4, h5⟩ := h
  dsimp only at hi hl ⊢
  refine ⟨h1, h2, h3, fun k hk hk2 => ?_, h5⟩
  have hii := h4 i hi (Or.inr (Nat.le_refl _))
  unfold nu
  by_cases hks : k = st
  · simp only [hks, ↓reduceIte]
    omega
  · simp only [hks, ↓reduceIte]
    exact h4 k hk (by omega)
/-- what holds of the letters that come, i of them looked at -/
theorem br_inv {U : aU} {A : aS} {x e : Nat} {dr : Bool} (hU : UB U) (hA : SB U A) (hx : x < 2147483648) {lo : Nat} : ∀ i, i ≤ A.2.2.2.2.1 → ∀ X : aX, X = brF e lo dr (A, 0, x, 0, 0, 0) i → SBi U i X.2.1 X.1 ∧ X.1.1 = A.1 ∧ X.1.2.2.2.2.1 = A.2.2.2.2.1 ∧ X.1.2.2.1 = A.2.2.1 ∧ X.2.1 ≤ i ∧ X.2.2.1 < 2147483648 ∧ X.2.2.2.1 ≤ i ∧ X.2.2.2.2.1 ≤ i := by
  intro i
  induction i with
  | zero =>
    rintro _ X rfl
    exact ⟨SBi_of hA, rfl, rfl, rfl, Nat.le_refl _, hx, Nat.le_refl _, Nat.le_refl _⟩
  | succ i ih =>
    rintro hi X rfl
    obtain ⟨h1, h2, h3, h4, h5, h6, h7, h8⟩ := ih (by omega) _ rfl
    show SBi U (i + 1) (brS e lo dr i (brF e lo dr (A, 0, x, 0, 0, 0) i)).2.1 _ ∧ _
    simp only [brF]
    generalize brF e lo dr (A, 0, x, 0, 0, 0) i = X at *
    obtain ⟨B, st, y, cm, ls, bt⟩ := X
    dsimp only at h1 h2 h3 h4 h5 h6 h7 h8 ⊢
    have hdl : drL lo dr y < 2 := by unfold drL; split <;> omega
    have hdx : drX dr y < 2147483648 := by
      unfold drX; split
      · exact lcg_b y
      · exact h6
    unfold brS
    dsimp only
    split
    · rename_i hl
      exact ⟨SBi_stay h1 (by omega) h5 hl, h2, h3, h4, by dsimp only; omega, h6, by dsimp only; omega, by dsimp only; omega⟩
    · obtain ⟨e1, e2, e3, e4, e5⟩ := delS_m (A := B) (p := B.2.2.2.2.2.1 i) (e := e) (l := drL lo dr y)
      refine ⟨SBi_del hU h1 (by omega) hdl, by dsimp only; rw [e1]; exact h2, by dsimp only; rw [e2]; exact h3, by dsimp only; rw [e5]; exact h4, by dsimp only; omega, hdx, ?_, ?_⟩
      · dsimp only; split <;> omega
      · dsimp only; split <;> omega
end
