section
/-! The pure part, basics: what an Option program comes to; loops; small numbers. -/
def zW {α : Type} (o : Option α) (P : α → Prop) : Prop := ∃ r, o = some r ∧ P r
theorem zW_some {α : Type} {a : α} {P : α → Prop} (h : P a) : zW (some a) P := ⟨a, rfl, h⟩
theorem zW_eq {α : Type} {o : Option α} {a : α} {P : α → Prop} (e : o = some a) (h : P a) : zW o P := ⟨a, e, h⟩
theorem zW_call {α β : Type} {o : Option α} {f : α → Option β} {P : α → Prop} {Q : β → Prop} (h : zW o P) (k : ∀ r, P r → zW (f r) Q) : zW (o.bind f) Q := by
  obtain ⟨r, rfl, h⟩ := h
  exact k r h
theorem zW_is {α β : Type} {o : Option α} {f : α → Option β} {a : α} {Q : β → Prop} (h : o = some a) (k : zW (f a) Q) : zW (o.bind f) Q := by
  subst h
  exact k
theorem zW_ite {α : Type} {c : Prop} [Decidable c] {a b : Option α} {P : α → Prop} (h1 : c → zW a P) (h2 : ¬ c → zW b P) : zW (if c then a else b) P := by
  by_cases h : c
  · rw [if_pos h]; exact h1 h
  · rw [if_neg h]; exact h2 h
theorem zW_if1 {α : Type} {c : Prop} [Decidable c] {a b : Option α} {P : α → Prop} (h : c) (h1 : zW a P) : zW (if c then a else b) P := by
  rw [if_pos h]; exact h1
theorem zW_if0 {α : Type} {c : Prop} [Decidable c] {a b : Option α} {P : α → Prop} (h : ¬ c) (h1 : zW b P) : zW (if c then a else b) P := by
  rw [if_neg h]; exact h1
theorem zW_mono {α : Type} {o : Option α} {P Q : α → Prop} (h : zW o P) (k : ∀ r, P r → Q r) : zW o Q := by
  obtain ⟨r, e, h⟩ := h
  exact ⟨r, e, k r h⟩
theorem zW_of {α : Type} {o : Option α} {a : α} (h : zW o (fun r => r = a)) : o = some a := by
  obtain ⟨r, e, rfl⟩ := h
  exact e
/-- a loop: I says what holds with r rounds to go at the most -/
theorem zW_lp {σ ρ : Type} {body : (σ → Option ρ) → σ → Option ρ} {P : ρ → Prop} (I : Nat → σ → Prop) (step : ∀ k r s, I r s → (∀ r' t, r' < r → I r' t → zW (k t) P) → zW (body k s) P) : ∀ n r s, I r s → r < n → zW (zfix body n s) P := by
  intro n
  induction n with
  | zero => intro r s _ h; omega
  | succ n ih =>
    intro r s hs hm
    exact step (zfix body n) r s hs (fun r' t h1 h2 => ih r' t h2 (by omega))
/-- two programs side by side -/
def zX {α β : Type} (o : Option α) (o' : Option β) (P : α → β → Prop) : Prop := ∃ r r', o = some r ∧ o' = some r' ∧ P r r'
theorem zX_some {α β : Type} {a : α} {b : β} {P : α → β → Prop} (h : P a b) : zX (some a) (some b) P := ⟨a, b, rfl, rfl, h⟩
theorem zX_eq {α β : Type} {o : Option α} {o' : Option β} {a : α} {b : β} {P : α → β → Prop} (e : o = some a) (e' : o' = some b) (h : P a b) : zX o o' P := ⟨a, b, e, e', h⟩
theorem zX_W {α β : Type} {o : Option α} {o' : Option β} {P : α → β → Prop} (h : zW o (fun r => zW o' (fun r' => P r r'))) : zX o o' P := by
  obtain ⟨r, e, r', e', h⟩ := h
  exact ⟨r, r', e, e', h⟩
theorem zX_call {α β α' β' : Type} {o : Option α} {o' : Option α'} {f : α → Option β} {f' : α' → Option β'} {P : α → α' → Prop} {Q : β → β' → Prop} (h : zX o o' P) (k : ∀ r r', P r r' → zX (f r) (f' r') Q) : zX (o.bind f) (o'.bind f') Q := by
  obtain ⟨r, r', rfl, rfl, h⟩ := h
  exact k r r' h
theorem zX_callL {α β β' : Type} {o : Option α} {f : α → Option β} {o' : Option β'} {P : α → Prop} {Q : β → β' → Prop} (h : zW o P) (k : ∀ r, P r → zX (f r) o' Q) : zX (o.bind f) o' Q := by
  obtain ⟨r, rfl, h⟩ := h
  exact k r h
theorem zX_callR {α' β β' : Type} {o : Option β} {o' : Option α'} {f' : α' → Option β'} {P : α' → Prop} {Q : β → β' → Prop} (h : zW o' P) (k : ∀ r, P r → zX o (f' r) Q) : zX o (o'.bind f') Q := by
  obtain ⟨r, rfl, h⟩ := h
  exact k r h
theorem zX_mono {α β : Type} {o : Option α} {o' : Option β} {P Q : α → β → Prop} (h : zX o o' P) (k : ∀ r r', P r r' → Q r r') : zX o o' Q := by
  obtain ⟨r, r', e, e', h⟩ := h
  exact ⟨r, r', e, e', k r r' h⟩
theorem zX_iteL {α β : Type} {c : Prop} [Decidable c] {a b : Option α} {o : Option β} {P : α → β → Prop} (h1 : c → zX a o P) (h2 : ¬ c → zX b o P) : zX (if c then a else b) o P := by
  by_cases h : c
  · rw [if_pos h]; exact h1 h
  · rw [if_neg h]; exact h2 h
theorem zX_iteR {α β : Type} {c : Prop} [Decidable c] {a b : Option β} {o : Option α} {P : α → β → Prop} (h1 : c → zX o a P) (h2 : ¬ c → zX o b P) : zX o (if c then a else b) P := by
  by_cases h : c
  · rw [if_pos h]; exact h1 h
  · rw [if_neg h]; exact h2 h
theorem zX_lp {σ ρ σ' ρ' : Type} {body : (σ → Option ρ) → σ → Option ρ} {body' : (σ' → Option ρ') → σ' → Option ρ'} {P : ρ → ρ' → Prop} (I : Nat → σ → σ' → Prop) (step : ∀ k k' r s s', I r s s' → (∀ r' t t', r' < r → I r' t t' → zX (k t) (k' t') P) → zX (body k s) (body' k' s') P) : ∀ n n' r s s', I r s s' → r < n → r < n' → zX (zfix body n s) (zfix body' n' s') P := by
  intro n
  induction n with
  | zero => intro n' r s s' _ h; omega
  | succ n ih =>
    intro n' r s s' hs hm hm'
    match n', hm' with
    | n' + 1, hm' => exact step (zfix body n) (zfix body' n') r s s' hs (fun r' t t' h1 h2 => ih n' r' t t' h2 (by omega) (by omega))
theorem FU_big {n : Nat} (h : n < 10000000) : n < FU := h
/-! small numbers as ints -/
def qi (n : Nat) : Int32 := Int32.ofNat n
def qm : Int32 := -1
theorem q_lit (n : Nat) : (OfNat.ofNat n : Int32) = qi (OfNat.ofNat n) := rfl
theorem q_m1 : (-1 : Int32) = qm := rfl
theorem q_om {n : Nat} : Int32.ofInt (OfNat.ofNat n) = qi (OfNat.ofNat n) := Int32.ofInt_eq_ofNat
theorem q_on {n : Nat} : Int32.ofNat n = qi n := rfl
theorem q_int {a : Nat} (ha : a < 2147483648) : (qi a).toInt = a := Int32.toInt_ofNat_of_lt (n := a) ha
theorem q_eq {a b : Nat} (ha : a < 2147483648) (hb : b < 2147483648) : (qi a = qi b) ↔ a = b := by
  refine ⟨fun h => ?_, fun h => by rw [h]⟩
  have h1 := q_int ha
  have h2 := q_int hb
  rw [h] at h1
  omega
theorem q_lt {a b : Nat} (ha : a < 2147483648) (hb : b < 2147483648) : (qi a < qi b) ↔ a < b := Int32.ofNat_lt_iff_lt ha hb
theorem q_le {a b : Nat} (ha : a < 2147483648) (hb : b < 2147483648) : (qi a ≤ qi b) ↔ a ≤ b := Int32.ofNat_le_iff_le ha hb
theorem q_nn {a : Nat} (ha : a < 2147483648) : (qi a).toNatClampNeg = a := Int32.toNatClampNeg_ofNat_of_lt ha
theorem q_neg {a : Nat} (ha : a < 2147483648) : ¬ qi a < 0 := by
  show ¬ qi a < qi 0
  rw [q_lt ha (by decide)]
  omega
theorem q_in {a n : Nat} (ha : a < 2147483648) : inB (qi a) n ↔ a < n := by
  show ¬ (_ ∨ _) ↔ _
  rw [q_nn ha]
  have := q_neg ha
  constructor
  · intro h
    exact Nat.not_le.mp (fun h' => h (Or.inr h'))
  · rintro h (h' | h')
    · exact this h'
    · omega
theorem q_ltT {a b : Nat} (h : a < b) (hb : b < 2147483648) : (qi a < qi b) = True := eq_true ((q_lt (by omega) hb).mpr h)
theorem q_ltF {a b : Nat} (h : b ≤ a) (ha : a < 2147483648) : (qi a < qi b) = False := eq_false (fun e => by have := (q_lt ha (by omega)).mp e; omega)
theorem q_leT {a b : Nat} (h : a ≤ b) (hb : b < 2147483648) : (qi a ≤ qi b) = True := eq_true ((q_le (by omega) hb).mpr h)
theorem q_leF {a b : Nat} (h : b < a) (ha : a < 2147483648) : (qi a ≤ qi b) = False := eq_false (fun e => by have := (q_le ha (by omega)).mp e; omega)
theorem q_eqT {a b : Nat} (h : a = b) : (qi a = qi b) = True := eq_true (by rw [h])
theorem q_eqF {a b : Nat} (h : a ≠ b) (ha : a < 2147483648) (hb : b < 2147483648) : (qi a = qi b) = False := eq_false (fun e => h ((q_eq ha hb).mp e))
theorem q_inT {a n : Nat} (h : a < n) (ha : a < 2147483648) : inB (qi a) n = True := eq_true ((q_in ha).mpr h)
theorem q_inF {a n : Nat} (h : n ≤ a) (ha : a < 2147483648) : inB (qi a) n = False := eq_false (fun e => by have := (q_in ha).mp e; omega)
theorem q_add (a b : Nat) : qi a + qi b = qi (a + b) := (Int32.ofNat_add a b).symm
theorem q_mul (a b : Nat) : qi a * qi b = qi (a * b) := (Int32.ofNat_mul a b).symm
theorem q_sub {a b : Nat} (h : b ≤ a) : qi a - qi b = qi (a - b) := (Int32.ofNat_sub a b h).symm
theorem q_div {a b : Nat} (ha : a < 2147483648) (hb : b < 2147483648) : qi a / qi b = qi (a / b) := (Int32.ofNat_div ha hb).symm
theorem q_md (a b : Nat) : a - a / b * b = a % b := by
  have := Nat.div_add_mod a b
  rw [Nat.mul_comm] at this
  omega
theorem q_mint : qm.toInt = -1 := rfl
theorem q_mlt {a : Nat} (ha : a < 2147483648) : qm < qi a := by
  rw [Int32.lt_iff_toInt_lt, q_int ha, q_mint]; omega
theorem q_ltm {a : Nat} (ha : a < 2147483648) : ¬ qi a < qm := by
  rw [Int32.lt_iff_toInt_lt, q_int ha, q_mint]; omega
theorem q_mle {a : Nat} (ha : a < 2147483648) : qm ≤ qi a := by
  rw [Int32.le_iff_toInt_le, q_int ha, q_mint]; omega
theorem q_lem {a : Nat} (ha : a < 2147483648) : ¬ qi a ≤ qm := by
  rw [Int32.le_iff_toInt_le, q_int ha, q_mint]; omega
theorem q_nem {a : Nat} (ha : a < 2147483648) : ¬ qi a = qm := fun h => by
  have := q_mlt ha
  rw [h, Int32.lt_iff_toInt_lt] at this
  omega
theorem q_mne {a : Nat} (ha : a < 2147483648) : ¬ qm = qi a := fun h => q_nem ha h.symm
/-- an int is a small number, or below 0 -/
theorem q_cases (x : Int32) : x < qi 0 ∨ ∃ n : Nat, n < 2147483648 ∧ x = qi n := by
  by_cases h : x < 0
  · exact Or.inl h
  · refine Or.inr ⟨x.toNatClampNeg, Int32.toNatClampNeg_lt x, (Int32.ofNat_toNatClampNeg x ?_).symm⟩
    exact Int32.not_lt.mp h
theorem q_ngt {x : Int32} (h : x < qi 0) : x.toInt < 0 := by
  rw [Int32.lt_iff_toInt_lt, q_int (by omega)] at h; exact h
theorem q_nne {x : Int32} (h : x < qi 0) {n : Nat} (hn : n < 2147483648) : ¬ x = qi n := fun e => by
  have h1 := q_ngt h
  rw [e, q_int hn] at h1
  omega
theorem q_nle {x : Int32} (h : x < qi 0) {n : Nat} (hn : n < 2147483648) : ¬ qi n ≤ x := fun e => by
  have h1 := q_ngt h
  rw [Int32.le_iff_toInt_le, q_int hn] at e
  omega
theorem q_nlt {x : Int32} (h : x < qi 0) {n : Nat} (hn : n < 2147483648) : x < qi n := by
  have h1 := q_ngt h
  rw [Int32.lt_iff_toInt_lt, q_int hn]
  omega
theorem q_nlt' {x : Int32} (h : x < qi 0) {n : Nat} (hn : n < 2147483648) : ¬ qi n < x := fun e => by
  have h1 := q_ngt h
  rw [Int32.lt_iff_toInt_lt, q_int hn] at e
  omega
theorem q_nle' {x : Int32} (h : x < qi 0) {n : Nat} (hn : n < 2147483648) : x ≤ qi n := by
  have h1 := q_ngt h
  rw [Int32.le_iff_toInt_le, q_int hn]
  omega
theorem q_nin {x : Int32} (h : x < qi 0) {n : Nat} : ¬ inB x n := fun e => e (Or.inl h)
/-! what is put and read -/
theorem z_same {V : zI} {w k : Nat} {x : Int32} : z_uI V w k x w k = x := by simp [z_uI, upd]
theorem z_neP {V : zI} {w k a : Nat} {x : Int32} (h : a ≠ w) : z_uI V w k x a = V a := if_neg h
theorem z_neK {V : zI} {w k b : Nat} {x : Int32} (h : b ≠ k) : z_uI V w k x w b = V w b := by simp [z_uI, upd, h]
theorem z_if {V : zI} {w k b : Nat} {x : Int32} : z_uI V w k x w b = if b = k then x else V w b := by simp [z_uI, upd]
theorem zL_same {L : zL} {w k : Nat} {x : Int64} : z_uL L w k x w k = x := by simp [z_uL, vp_updL]
theorem zL_neP {L : zL} {w k a : Nat} {x : Int64} (h : a ≠ w) : z_uL L w k x a = L a := if_neg h
theorem zL_neK {L : zL} {w k b : Nat} {x : Int64} (h : b ≠ k) : z_uL L w k x w b = L w b := by simp [z_uL, vp_updL, h]
theorem zL_if {L : zL} {w k b : Nat} {x : Int64} : z_uL L w k x w b = if b = k then x else L w b := by simp [z_uL, vp_updL]
theorem zr_same {V : zI} {w : Nat} {f : Nat → Int32} : z_row V w f w = f := if_pos rfl
theorem zr_ne {V : zI} {w a : Nat} {f : Nat → Int32} (h : a ≠ w) : z_row V w f a = V a := if_neg h
theorem kU_same {α : Type} {K : Nat → α} {n : Nat} {x : α} : kU K n x n = x := if_pos rfl
theorem gS_same {G : zG} {w k : Nat} {o : Option Nat} : gS G w k o w k = o := by simp [gS]
theorem gS_neP {G : zG} {w k a : Nat} {o : Option Nat} (h : a ≠ w) : gS G w k o a = G a := if_neg h
theorem gS_neK {G : zG} {w k b : Nat} {o : Option Nat} (h : b ≠ k) : gS G w k o w b = G w b := by simp [gS, h]
theorem o_bind {α β : Type} {a : α} {f : α → Option β} : (some a).bind f = f a := rfl
end
