/-! The base of my rows: a pool of places, each an object or an array; what they hold is two functions (ints, longs) and one of references; RG: from any heap that holds the pool the machine at this frame comes to its end. -/
def zTB : List Cond := lw_tbl.filter goodWord
theorem zmem {w : Cond} (i : Nat) (h : lw_tbl[i]? = some w) (g : goodWord w = true) : w ∈ zTB := List.mem_filter.mpr ⟨List.mem_of_getElem? h, g⟩
theorem goodTB (w : Cond) (h : w ∈ zTB) : goodWord w = true := (List.mem_filter.mp h).2
abbrev zI : Type := Nat → Nat → Int32
abbrev zL : Type := Nat → Nat → Int64
abbrev zG : Type := Nat → Nat → Option Nat
/-- D, array classes by kind, addresses, places, kinds, lengths, references -/
abbrev zO : Type := va_G × (Nat → ClassId) × (Nat → Nat) × List Nat × (Nat → Nat) × (Nat → Nat) × zG
abbrev zM : Type := Program × Launch × Env × Room × State × MethodId × Array Value × List Frame × Method × Code × (State → Prop) × (Nat → Prop) × Nat × Nat
abbrev zcl : List vw_C := [(RX0, TX0, 6), (RX1, TX1, 1), (RX2, TX2, 8), (RX4, TX4, 1), (RX5, TX5, 12), (RX7, TX7, 12), (RX8, TX8, 4), (RX9, TX9, 11), (RX10, TX10, 17), (RX11, TX11, 65)]
def zft : Nat → List Nat := fun ci => ([[2, 2, 2, 2, 2, 1], [0], [2, 0, 2, 0, 0, 0, 0, 0], [2], [2, 0, 0, 0, 0, 2, 2, 0, 0, 0, 0, 0], [0, 2, 2, 2, 0, 2, 2, 0, 2, 1, 0, 0], [2, 2, 2, 0], [0, 0, 0, 0, 0, 2, 2, 2, 2, 2, 2], [2, 0, 2, 0, 0, 2, 2, 2, 2, 2, 0, 2, 2, 0, 2, 0, 2], [2, 0, 0, 0, 0, 0, 0, 1, 0, 0, 0, 0, 0, 0, 2, 2, 2, 2, 2, 2, 2, 2, 2, 2, 2, 0, 0, 0, 2, 2, 2, 2, 2, 0, 0, 2, 0, 0, 2, 2, 2, 2, 2, 2, 2, 2, 2, 0, 0, 1, 2, 2, 0, 0, 1, 2, 2, 0, 0, 2, 0, 2, 2, 2, 0]] : List (List Nat)).getD ci []
def z_fv (ad : Nat → Nat) (V : Nat → Int32) (L : Nat → Int64) (G : Nat → Option Nat) (k t : Nat) : Value := if t = 0 then .int (V k) else if t = 1 then .long (L k) else va_rf ((G k).map ad)
def z_cell (O : zO) (V : zI) (L : zL) (w : Nat) : va_E := match O with
  | (_, cy, ad, _, K, N, G) => if K w < 100 then .inr (K w, (zft (K w)).mapIdx (fun k t => z_fv ad (V w) (L w) (G w) k t))
    else if K w = 103 then .inl (cy 103, N w, .inr (.inl (L w)))
    else if K w = 104 then .inl (cy 104, N w, .inr (.inr (.inr (.inr (fun i => (G w i).map ad)))))
    else .inl (cy (K w), N w, .inl (V w))
abbrev z_ad (O : zO) : Nat → Nat := O.2.2.1
abbrev z_P (O : zO) : List Nat := O.2.2.2.1
abbrev z_K (O : zO) : Nat → Nat := O.2.2.2.2.1
abbrev z_N (O : zO) : Nat → Nat := O.2.2.2.2.2.1
abbrev z_G (O : zO) : zG := O.2.2.2.2.2.2
def z_w (O : zO) (V : zI) (L : zL) : va_W := (z_P O).map (fun w => (z_ad O w, z_cell O V L w))
def z_tys (O : zO) : List (ClassId × FieldType) := [(O.2.1 100, .int), (O.2.1 101, .byte), (O.2.1 102, .boolean), (O.2.1 103, .long)]
def z_uI (V : zI) (w k : Nat) (x : Int32) : zI := fun a => if a = w then upd (V w) k x else V a
def z_uL (L : zL) (w k : Nat) (x : Int64) : zL := fun a => if a = w then vp_updL (L w) k x else L a
abbrev inB (i : Int32) (n : Nat) : Prop := ¬ (i < 0 ∨ n ≤ i.toNatClampNeg)
abbrev zB (x : Int32) : Prop := x &&& 1 = x
/-- loops: fuel -/
def zfix {σ ρ : Type} (body : (σ → Option ρ) → σ → Option ρ) : Nat → σ → Option ρ
  | 0, _ => none
  | n + 1, s => body (zfix body n) s
def RG (M : zM) (O : zO) (V : zI) (L : zL) (pc : Nat) (ls : Array Slot) (st : List Value) : Prop := match M with
  | (p, l, e, Ro, s, m, args, below, meth, c, Q, A, cells, slots) => ∀ (H : Heap) (locs : List Loc), va_P O.1 zcl (z_w O V L) H → va_D A (z_w O V L) → va_S A s.heap H locs → W p l e Ro s m args below meth c H locs cells slots Q (F0 m pc ls st)
/-- what a walk knows: the code, the words, the classes, the room -/
def RX (M : zM) (O : zO) (cc : ByteArray) (nL : Nat) (own : String) (fr lo : Nat) : Prop := match M with
  | (p, _, _, Ro, s, m, args, _, _, c, _, A, cells, slots) => (CallFix p m c cc nL s args zTB own ∧ va_K O.1 zcl (z_tys O) s ∧ (∀ q : Nat, s.heap.size ≤ q → A q) ∧ ∀ i j w : Nat, (z_P O)[i]? = some w → (z_P O)[j]? = some w → i = j) ∧ (fr ≤ Ro.frames ∧ lo ≤ Ro.locals) ∧ (cells ≤ Ro.cells ∧ slots ≤ Ro.slots)
theorem z_mapset {α : Type} {P : List Nat} {f g : Nat → α} {q w : Nat} (hq : P[q]? = some w) (hn : ∀ i j w : Nat, P[i]? = some w → P[j]? = some w → i = j) (ho : ∀ v, v ≠ w → g v = f v) : (P.map f).set q (g w) = P.map g := by
  apply List.ext_getElem?
  intro j
  rw [List.getElem?_set]
  by_cases hj : q = j
  · subst hj
    have hlt : q < P.length := (List.getElem?_eq_some_iff.mp hq).1
    rw [if_pos rfl, List.length_map, if_pos hlt, List.getElem?_map, hq]
    rfl
  · simp only [if_neg hj, List.getElem?_map]
    cases hv : P[j]? with
    | none => rfl
    | some v =>
      have hne : v ≠ w := fun e => hj (hn q j w hq (by rw [hv, e]))
      simp [ho v hne]
theorem z_at {O : zO} {V : zI} {L : zL} {w : Nat} (hw : w ∈ z_P O) : ∃ q : Nat, (z_P O)[q]? = some w ∧ (z_w O V L)[q]? = some (z_ad O w, z_cell O V L w) := by
  obtain ⟨q, hq⟩ := List.getElem?_of_mem hw
  exact ⟨q, hq, by simp [z_w, hq]⟩
theorem z_cellO {O : zO} {V : zI} {L : zL} {w ci : Nat} (hk : z_K O w = ci) (h : ci < 100) : z_cell O V L w = .inr (ci, (zft ci).mapIdx (fun k t => z_fv (z_ad O) (V w) (L w) (z_G O w) k t)) := by
  obtain ⟨D, cy, ad, P, K, N, G⟩ := O
  subst hk
  simp only [z_cell]
  rw [if_pos h]
theorem z_cellI {O : zO} {V : zI} {L : zL} {w kd : Nat} (hk : z_K O w = kd) (h : kd = 100 ∨ kd = 101 ∨ kd = 102) : z_cell O V L w = .inl (O.2.1 kd, z_N O w, .inl (V w)) := by
  obtain ⟨D, cy, ad, P, K, N, G⟩ := O
  have hk : K w = kd := hk
  have h1 : ¬ K w < 100 := by omega
  have h2 : ¬ K w = 103 := by omega
  have h3 : ¬ K w = 104 := by omega
  simp only [z_cell]
  rw [if_neg h1, if_neg h2, if_neg h3, hk]
theorem z_cellL {O : zO} {V : zI} {L : zL} {w : Nat} (hk : z_K O w = 103) : z_cell O V L w = .inl (O.2.1 103, z_N O w, .inr (.inl (L w))) := by
  obtain ⟨D, cy, ad, P, K, N, G⟩ := O
  have h0 : K w = 103 := hk
  simp only [z_cell]
  rw [if_neg (by rw [h0]; decide), if_pos h0]
theorem z_cell_ne {O : zO} {V V' : zI} {L L' : zL} {v : Nat} (hV : V' v = V v) (hL : L' v = L v) : z_cell O V' L' v = z_cell O V L v := by
  obtain ⟨D, cy, ad, P, K, N, G⟩ := O
  simp only [z_cell, hV, hL]
theorem z_uI_ne {V : zI} {w k v : Nat} {x : Int32} (h : v ≠ w) : z_uI V w k x v = V v := if_neg h
theorem z_uI_eq {V : zI} {w k : Nat} {x : Int32} : z_uI V w k x w = upd (V w) k x := if_pos rfl
theorem z_uL_ne {L : zL} {w k v : Nat} {x : Int64} (h : v ≠ w) : z_uL L w k x v = L v := if_neg h
theorem z_uL_eq {L : zL} {w k : Nat} {x : Int64} : z_uL L w k x w = vp_updL (L w) k x := if_pos rfl
/-- a field that is put: the list of the fields -/
theorem z_fset {ad : Nat → Nat} {V V' : Nat → Int32} {L L' : Nat → Int64} {G : Nat → Option Nat} {ts : List Nat} {k t : Nat} {v : Value} (ht : ts[k]? = some t) (hv : z_fv ad V' L' G k t = v) (ho : ∀ j t, j ≠ k → z_fv ad V' L' G j t = z_fv ad V L G j t) : (ts.mapIdx (fun k t => z_fv ad V L G k t)).set k v = ts.mapIdx (fun k t => z_fv ad V' L' G k t) := by
  apply List.ext_getElem?
  intro j
  rw [List.getElem?_set]
  by_cases hj : k = j
  · subst hj
    have hlt : k < ts.length := (List.getElem?_eq_some_iff.mp ht).1
    rw [if_pos rfl, List.length_mapIdx, if_pos hlt, List.getElem?_mapIdx, ht, ← hv]
    rfl
  · simp only [if_neg hj, List.getElem?_mapIdx]
    cases hv : ts[j]? with
    | none => rfl
    | some v => simp [ho j v (fun e => hj e.symm)]
