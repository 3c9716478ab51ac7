/-! The class's pool: places below n; references are places; nest mates' words. -/
def zrt : Nat → List (Option Nat) := fun ci => ([[some 103, some 103, some 102, some 102, some 100, none], [none], [some 100, none, some 100, none, none, none, none, none], [some 100], [some 6, none, none, none, none, some 7, some 100, none, none, none, none, none], [none, some 100, some 100, some 100, none, some 100, some 100, none, some 100, none, none, none], [some 100, some 100, some 100, none], [none, none, none, none, none, some 100, some 100, some 100, some 100, some 100, some 100], [some 101, none, some 7, none, none, some 5, some 5, some 3, some 1, some 104, none, some 100, some 100, none, some 100, none, some 100], [some 100, none, none, none, none, none, none, none, none, none, none, none, none, none, some 100, some 100, some 100, some 100, some 100, some 100, some 100, some 100, some 100, some 100, some 103, none, none, none, some 100, some 100, some 102, some 100, some 100, none, none, some 100, none, none, some 100, some 100, some 100, some 100, some 100, some 100, some 100, some 100, some 100, none, none, none, some 103, some 100, none, none, none, some 102, some 100, none, none, some 100, none, some 100, some 100, some 100, none]] : List (List (Option Nat))).getD ci []
def zNb (w : Cond) : Bool := match w with
  | .fieldLinkNest .. => true
  | .methodLinkNest .. => true
  | _ => false
def zNB : List Cond := lw_tbl.filter zNb
theorem zmemN {w : Cond} (i : Nat) (h : lw_tbl[i]? = some w) (g : zNb w = true) : w ∈ zNB := List.mem_filter.mpr ⟨List.mem_of_getElem? h, g⟩
def zNf (U : State) : Prop := ∀ w ∈ zNB, va_Nw w U
theorem zNf.same {u U : State} (h : u.vm = U.vm) (hN : zNf u) : zNf U := by
  intro w hw
  have h1 := (List.mem_filter.mp hw).2
  have h2 := hN w hw
  cases w <;> first | (exact va_Nw.same rfl h h2) | (simp [zNb] at h1)
theorem zNf.warm {s U : State} (hW : s.WarmedH U.vm) (hN : zNf s) : zNf U := by
  intro w hw
  have h1 := (List.mem_filter.mp hw).2
  have h2 := hN w hw
  cases w <;> first | (exact va_Nw.warmF hW h2) | (exact va_Nw.warmM hW h2) | (simp [zNb] at h1)
abbrev zC (D : va_G) (cy : Nat → ClassId) (ad : Nat → Nat) (n : Nat) (K N : Nat → Nat) (G : zG) : zO := (D, cy, ad, List.range n, K, N, G)
def zWF (n : Nat) (K : Nat → Nat) (G : zG) : Prop := ∀ w, w < n → (∀ k c, (zrt (K w))[k]? = some (some c) → G w k = none ∨ ∃ v, G w k = some v ∧ v < n ∧ K v = c) ∧ (K w = 104 → ∀ i, G w i = none ∨ ∃ v, G w i = some v ∧ v < n ∧ K v = 5)
def RXc (M : zM) (D : va_G) (cy : Nat → ClassId) (ad : Nat → Nat) (n : Nat) (K N : Nat → Nat) (G : zG) (cc : ByteArray) (nL : Nat) (own : String) (fr lo : Nat) : Prop := RX M (zC D cy ad n K N G) cc nL own fr lo ∧ zNf M.2.2.2.2.1 ∧ zWF n K G
theorem zWF.get {n : Nat} {K : Nat → Nat} {G : zG} (h : zWF n K G) {w ci k c v : Nat} (hw : w < n ∧ K w = ci) (hr : (zrt ci)[k]? = some (some c)) (hG : G w k = some v) : v < n ∧ K v = c := by
  rcases (h w hw.1).1 k c (by rw [hw.2]; exact hr) with h1 | ⟨u, h1, h2, h3⟩
  · rw [h1] at hG; cases hG
  · rw [h1] at hG; cases hG; exact ⟨h2, h3⟩
theorem zC_nd {D : va_G} {cy : Nat → ClassId} {ad : Nat → Nat} {n : Nat} {K N : Nat → Nat} {G : zG} (i j w : Nat) (h1 : (z_P (zC D cy ad n K N G))[i]? = some w) (h2 : (z_P (zC D cy ad n K N G))[j]? = some w) : i = j := by
  obtain ⟨_, e1⟩ := List.getElem?_eq_some_iff.mp h1
  obtain ⟨_, e2⟩ := List.getElem?_eq_some_iff.mp h2
  simp only [z_P, List.getElem_range] at e1 e2
  omega
def zLk (own : String) (idx : Nat) (C nm d : String) : Prop := Cond.fieldLink own idx C nm d ∈ zTB ∨ ∃ h : String, Cond.fieldLinkNest own idx C nm d h ∈ zNB
def zMk (own : String) (idx : Nat) (y : MethodName) : Prop := Cond.methodLink own idx y ∈ zTB ∨ ∃ h : String, Cond.methodLinkNest own idx y h ∈ zNB
theorem c_geti {M : zM} {D : va_G} {cy : Nat → ClassId} {ad : Nat → Nat} {n : Nat} {K N : Nat → Nat} {G : zG} {V : zI} {L : zL} {cc : ByteArray} {nL : Nat} {own : String} {fr lo pc : Nat} {ls : Array Slot} {st : List Value} {w ci k0 idx Nf : Nat} {C : String} {T : u_T} (X : RXc M D cy ad n K N G cc nL own fr lo) (hw : w < n ∧ K w = ci) (f : ((zcl[ci]? = some (C, T, Nf) ∧ ci < 100 ∧ ∀ q ∈ u_ws C T Nf, q ∈ zTB) ∧ k0 < Nf ∧ (zft ci)[k0]? = some 0 ∧ (T k0).1 = C) ∧ zLk own idx C (T k0).2.1 (T k0).2.2.1) (d : decode cc pc = .ok (.getfield idx, 3)) (k : RG M (zC D cy ad n K N G) V L (pc + 3) ls (.int (V w k0) :: st)) : RG M (zC D cy ad n K N G) V L pc ls (.ref (ad w) :: st) := by
  rcases f.2 with h | ⟨host, h⟩
  · exact z_geti (O := (zC D cy ad n K N G)) (w := w) X.1 (List.mem_range.mpr hw.1) hw.2 f.1.1.2.1 f.1.1.1 f.1.1.2.2 f.1.2.1 f.1.2.2.2 h f.1.2.2.1 d k
  · have hN := X.2.1 _ h
    have X0 := X.1
    obtain ⟨p, l, e, Ro, s, m, args, below, meth, c, Q, A, cells, slots⟩ := M
    intro H locs hP hD hS
    obtain ⟨q, hq, he⟩ := z_at (O := (zC D cy ad n K N G)) (V := V) (L := L) (w := w) (List.mem_range.mpr hw.1)
    rw [z_cellO (O := (zC D cy ad n K N G)) hw.2 f.1.1.2.1] at he
    exact va_getN X0.1.1.1 X0.1.1.2.1 X0.1.1.2.2.2.2 f.1.1.2.2 X0.1.1.2.2.2.1 X0.1.2.1 hP q he f.1.1.1 k0 f.1.2.1 (va_Nw.use rfl hN) (fun x h => by rw [← f.1.2.2.2]; exact h) (v := .int (V w k0)) (by rw [List.getElem?_mapIdx, f.1.2.2.1]; simp [z_fv]) d (k H locs hP hD hS)
theorem c_getl {M : zM} {D : va_G} {cy : Nat → ClassId} {ad : Nat → Nat} {n : Nat} {K N : Nat → Nat} {G : zG} {V : zI} {L : zL} {cc : ByteArray} {nL : Nat} {own : String} {fr lo pc : Nat} {ls : Array Slot} {st : List Value} {w ci k0 idx Nf : Nat} {C : String} {T : u_T} (X : RXc M D cy ad n K N G cc nL own fr lo) (hw : w < n ∧ K w = ci) (f : ((zcl[ci]? = some (C, T, Nf) ∧ ci < 100 ∧ ∀ q ∈ u_ws C T Nf, q ∈ zTB) ∧ k0 < Nf ∧ (zft ci)[k0]? = some 1 ∧ (T k0).1 = C) ∧ zLk own idx C (T k0).2.1 (T k0).2.2.1) (d : decode cc pc = .ok (.getfield idx, 3)) (k : RG M (zC D cy ad n K N G) V L (pc + 3) ls (.long (L w k0) :: st)) : RG M (zC D cy ad n K N G) V L pc ls (.ref (ad w) :: st) := by
  rcases f.2 with h | ⟨host, h⟩
  · exact z_getl (O := (zC D cy ad n K N G)) (w := w) X.1 (List.mem_range.mpr hw.1) hw.2 f.1.1.2.1 f.1.1.1 f.1.1.2.2 f.1.2.1 f.1.2.2.2 h f.1.2.2.1 d k
  · have hN := X.2.1 _ h
    have X0 := X.1
    obtain ⟨p, l, e, Ro, s, m, args, below, meth, c, Q, A, cells, slots⟩ := M
    intro H locs hP hD hS
    obtain ⟨q, hq, he⟩ := z_at (O := (zC D cy ad n K N G)) (V := V) (L := L) (w := w) (List.mem_range.mpr hw.1)
    rw [z_cellO (O := (zC D cy ad n K N G)) hw.2 f.1.1.2.1] at he
    exact va_getN X0.1.1.1 X0.1.1.2.1 X0.1.1.2.2.2.2 f.1.1.2.2 X0.1.1.2.2.2.1 X0.1.2.1 hP q he f.1.1.1 k0 f.1.2.1 (va_Nw.use rfl hN) (fun x h => by rw [← f.1.2.2.2]; exact h) (v := .long (L w k0)) (by rw [List.getElem?_mapIdx, f.1.2.2.1]; simp [z_fv]) d (k H locs hP hD hS)
theorem c_geta {M : zM} {D : va_G} {cy : Nat → ClassId} {ad : Nat → Nat} {n : Nat} {K N : Nat → Nat} {G : zG} {V : zI} {L : zL} {cc : ByteArray} {nL : Nat} {own : String} {fr lo pc : Nat} {ls : Array Slot} {st : List Value} {w ci k0 idx Nf : Nat} {C : String} {T : u_T} {v : Nat} (X : RXc M D cy ad n K N G cc nL own fr lo) (hw : w < n ∧ K w = ci) (f : ((zcl[ci]? = some (C, T, Nf) ∧ ci < 100 ∧ ∀ q ∈ u_ws C T Nf, q ∈ zTB) ∧ k0 < Nf ∧ (zft ci)[k0]? = some 2 ∧ (T k0).1 = C) ∧ zLk own idx C (T k0).2.1 (T k0).2.2.1) (hG : G w k0 = some v) (d : decode cc pc = .ok (.getfield idx, 3)) (k : RG M (zC D cy ad n K N G) V L (pc + 3) ls (.ref (ad v) :: st)) : RG M (zC D cy ad n K N G) V L pc ls (.ref (ad w) :: st) := by
  rcases f.2 with h | ⟨host, h⟩
  · exact z_geta (O := (zC D cy ad n K N G)) (w := w) X.1 (List.mem_range.mpr hw.1) hw.2 f.1.1.2.1 f.1.1.1 f.1.1.2.2 f.1.2.1 f.1.2.2.2 h f.1.2.2.1 hG d k
  · have hN := X.2.1 _ h
    have X0 := X.1
    obtain ⟨p, l, e, Ro, s, m, args, below, meth, c, Q, A, cells, slots⟩ := M
    intro H locs hP hD hS
    obtain ⟨q, hq, he⟩ := z_at (O := (zC D cy ad n K N G)) (V := V) (L := L) (w := w) (List.mem_range.mpr hw.1)
    rw [z_cellO (O := (zC D cy ad n K N G)) hw.2 f.1.1.2.1] at he
    exact va_getN X0.1.1.1 X0.1.1.2.1 X0.1.1.2.2.2.2 f.1.1.2.2 X0.1.1.2.2.2.1 X0.1.2.1 hP q he f.1.1.1 k0 f.1.2.1 (va_Nw.use rfl hN) (fun x h => by rw [← f.1.2.2.2]; exact h) (v := .ref (ad v)) (by rw [List.getElem?_mapIdx, f.1.2.2.1]; show some (z_fv ad (V w) (L w) (G w) k0 2) = _; simp [z_fv, hG, va_rf]) d (k H locs hP hD hS)
theorem c_getn {M : zM} {D : va_G} {cy : Nat → ClassId} {ad : Nat → Nat} {n : Nat} {K N : Nat → Nat} {G : zG} {V : zI} {L : zL} {cc : ByteArray} {nL : Nat} {own : String} {fr lo pc : Nat} {ls : Array Slot} {st : List Value} {w ci k0 idx Nf : Nat} {C : String} {T : u_T} (X : RXc M D cy ad n K N G cc nL own fr lo) (hw : w < n ∧ K w = ci) (f : ((zcl[ci]? = some (C, T, Nf) ∧ ci < 100 ∧ ∀ q ∈ u_ws C T Nf, q ∈ zTB) ∧ k0 < Nf ∧ (zft ci)[k0]? = some 2 ∧ (T k0).1 = C) ∧ zLk own idx C (T k0).2.1 (T k0).2.2.1) (hG : G w k0 = none) (d : decode cc pc = .ok (.getfield idx, 3)) (k : RG M (zC D cy ad n K N G) V L (pc + 3) ls (.null :: st)) : RG M (zC D cy ad n K N G) V L pc ls (.ref (ad w) :: st) := by
  have X0 := X.1
  have XN := X.2.1
  obtain ⟨p, l, e, Ro, s, m, args, below, meth, c, Q, A, cells, slots⟩ := M
  intro H locs hP hD hS
  obtain ⟨q, hq, he⟩ := z_at (O := (zC D cy ad n K N G)) (V := V) (L := L) (w := w) (List.mem_range.mpr hw.1)
  rw [z_cellO (O := (zC D cy ad n K N G)) hw.2 f.1.1.2.1] at he
  rcases f.2 with h | ⟨host, h⟩
  · exact va_get X0.1.1.1 X0.1.1.2.1 X0.1.1.2.2.2.2 f.1.1.2.2 X0.1.1.2.2.2.1 X0.1.2.1 hP q he f.1.1.1 k0 f.1.2.1 (X0.1.1.2.2.2.2 _ h) (fun x h => by rw [← f.1.2.2.2]; exact h) (v := .null) (by rw [List.getElem?_mapIdx, f.1.2.2.1]; show some (z_fv ad (V w) (L w) (G w) k0 2) = _; simp [z_fv, hG, va_rf]) d (k H locs hP hD hS)
  · exact va_getN X0.1.1.1 X0.1.1.2.1 X0.1.1.2.2.2.2 f.1.1.2.2 X0.1.1.2.2.2.1 X0.1.2.1 hP q he f.1.1.1 k0 f.1.2.1 (va_Nw.use rfl (XN _ h)) (fun x h => by rw [← f.1.2.2.2]; exact h) (v := .null) (by rw [List.getElem?_mapIdx, f.1.2.2.1]; show some (z_fv ad (V w) (L w) (G w) k0 2) = _; simp [z_fv, hG, va_rf]) d (k H locs hP hD hS)
theorem c_puti {M : zM} {D : va_G} {cy : Nat → ClassId} {ad : Nat → Nat} {n : Nat} {K N : Nat → Nat} {G : zG} {V : zI} {L : zL} {cc : ByteArray} {nL : Nat} {own : String} {fr lo pc : Nat} {ls : Array Slot} {st : List Value} {w ci k0 idx Nf : Nat} {C : String} {T : u_T} {x : Int32} {ty : FieldType} {ty0 : Nat → FieldType} (X : RXc M D cy ad n K N G cc nL own fr lo) (hw : w < n ∧ K w = ci) (f : ((zcl[ci]? = some (C, T, Nf) ∧ ci < 100 ∧ ∀ q ∈ u_ws C T Nf, q ∈ zTB) ∧ k0 < Nf ∧ (zft ci)[k0]? = some 0 ∧ (T k0).1 = C) ∧ zLk own idx C (T k0).2.1 (T k0).2.2.1) (g : (∀ k, k < Nf → parseFieldDescriptor (T k).2.2.1 = some (ty0 k)) ∧ (∀ a, a < Nf → ∀ b, b < Nf → a ≠ b → (T a).2.1 ≠ (T b).2.1)) (g2 : (T k0).2.2.2 = false ∧ parseFieldDescriptor (T k0).2.2.1 = some ty) (hn : narrow ty (.int x) = .int x) (hfit : fits ty (.int x) = true) (d : decode cc pc = .ok (.putfield idx, 3)) (k : RG M (zC D cy ad n K N G) (z_uI V w k0 x) L (pc + 3) ls st) : RG M (zC D cy ad n K N G) V L pc ls (.int x :: .ref (ad w) :: st) := by
  rcases f.2 with h | ⟨host, h⟩
  · exact z_puti (O := (zC D cy ad n K N G)) (w := w) X.1 (List.mem_range.mpr hw.1) hw.2 f.1.1.2.1 f.1.1.1 f.1.1.2.2 f.1.2.1 f.1.2.2.2 h f.1.2.2.1 g.1 g.2 g2.1 g2.2 hn hfit d k
  · have hN := X.2.1 _ h
    have X := X.1
    have hw0 : w ∈ z_P (zC D cy ad n K N G) := List.mem_range.mpr hw.1
    obtain ⟨p, l, e, Ro, s, m, args, below, meth, c, Q, A, cells, slots⟩ := M
    intro H locs hP hD hS
    obtain ⟨q, hq, he⟩ := z_at (O := (zC D cy ad n K N G)) (V := V) (L := L) (w := w) hw0
    rw [z_cellO (O := (zC D cy ad n K N G)) hw.2 f.1.1.2.1] at he
    have hlen : k0 < ((zft ci).mapIdx (fun k t => z_fv ad (V w) (L w) (G w) k t)).length := by
      rw [List.length_mapIdx]; exact (List.getElem?_eq_some_iff.mp f.1.2.2.1).1
    refine va_putN X.1.1.1 X.1.1.2.1 X.1.1.2.2.2.2 f.1.1.2.2 ty0 g.1 g.2 X.1.1.2.2.2.1 X.1.2.1 hP hD hS q he f.1.1.1 k0 f.1.2.1 (va_Nw.use rfl hN) (fun x h => by rw [← f.1.2.2.2]; exact h) g2.1 g2.2 hn hfit hlen d (fun H1 locs1 hP hD hS => ?_)
    have hset : (z_w (zC D cy ad n K N G) V L).set q (ad w, .inr (ci, ((zft ci).mapIdx (fun k t => z_fv ad (V w) (L w) (G w) k t)).set k0 (.int x))) = z_w (zC D cy ad n K N G) (z_uI V w k0 x) L := by
      rw [z_fset (V' := (z_uI V w k0 x) w) (L' := L w) f.1.2.2.1 (by simp [z_fv, z_uI_eq, z_uL_eq, upd, vp_updL]) (fun j t hj => by simp [z_fv, z_uI_eq, z_uL_eq, upd, vp_updL, hj])]
      rw [← z_cellO (O := (zC D cy ad n K N G)) (V := (z_uI V w k0 x)) (L := L) hw.2 f.1.1.2.1]
      exact z_mapset (f := fun u => (z_ad (zC D cy ad n K N G) u, z_cell (zC D cy ad n K N G) V L u)) (g := fun u => (z_ad (zC D cy ad n K N G) u, z_cell (zC D cy ad n K N G) (z_uI V w k0 x) L u)) hq X.1.2.2.2 (fun v hv => by rw [z_cell_ne (O := (zC D cy ad n K N G)) (V := V) (V' := (z_uI V w k0 x)) (L := L) (L' := L) (z_uI_ne hv) rfl])
    rw [hset] at hP hD
    exact k H1 locs1 hP hD hS
theorem c_putl {M : zM} {D : va_G} {cy : Nat → ClassId} {ad : Nat → Nat} {n : Nat} {K N : Nat → Nat} {G : zG} {V : zI} {L : zL} {cc : ByteArray} {nL : Nat} {own : String} {fr lo pc : Nat} {ls : Array Slot} {st : List Value} {w ci k0 idx Nf : Nat} {C : String} {T : u_T} {x : Int64} {ty : FieldType} {ty0 : Nat → FieldType} (X : RXc M D cy ad n K N G cc nL own fr lo) (hw : w < n ∧ K w = ci) (f : ((zcl[ci]? = some (C, T, Nf) ∧ ci < 100 ∧ ∀ q ∈ u_ws C T Nf, q ∈ zTB) ∧ k0 < Nf ∧ (zft ci)[k0]? = some 1 ∧ (T k0).1 = C) ∧ zLk own idx C (T k0).2.1 (T k0).2.2.1) (g : (∀ k, k < Nf → parseFieldDescriptor (T k).2.2.1 = some (ty0 k)) ∧ (∀ a, a < Nf → ∀ b, b < Nf → a ≠ b → (T a).2.1 ≠ (T b).2.1)) (g2 : (T k0).2.2.2 = false ∧ parseFieldDescriptor (T k0).2.2.1 = some ty) (hn : narrow ty (.long x) = .long x) (hfit : fits ty (.long x) = true) (d : decode cc pc = .ok (.putfield idx, 3)) (k : RG M (zC D cy ad n K N G) V (z_uL L w k0 x) (pc + 3) ls st) : RG M (zC D cy ad n K N G) V L pc ls (.long x :: .ref (ad w) :: st) := by
  rcases f.2 with h | ⟨host, h⟩
  · exact z_putl (O := (zC D cy ad n K N G)) (w := w) X.1 (List.mem_range.mpr hw.1) hw.2 f.1.1.2.1 f.1.1.1 f.1.1.2.2 f.1.2.1 f.1.2.2.2 h f.1.2.2.1 g.1 g.2 g2.1 g2.2 hn hfit d k
  · have hN := X.2.1 _ h
    have X := X.1
    have hw0 : w ∈ z_P (zC D cy ad n K N G) := List.mem_range.mpr hw.1
    obtain ⟨p, l, e, Ro, s, m, args, below, meth, c, Q, A, cells, slots⟩ := M
    intro H locs hP hD hS
    obtain ⟨q, hq, he⟩ := z_at (O := (zC D cy ad n K N G)) (V := V) (L := L) (w := w) hw0
    rw [z_cellO (O := (zC D cy ad n K N G)) hw.2 f.1.1.2.1] at he
    have hlen : k0 < ((zft ci).mapIdx (fun k t => z_fv ad (V w) (L w) (G w) k t)).length := by
      rw [List.length_mapIdx]; exact (List.getElem?_eq_some_iff.mp f.1.2.2.1).1
    refine va_putN X.1.1.1 X.1.1.2.1 X.1.1.2.2.2.2 f.1.1.2.2 ty0 g.1 g.2 X.1.1.2.2.2.1 X.1.2.1 hP hD hS q he f.1.1.1 k0 f.1.2.1 (va_Nw.use rfl hN) (fun x h => by rw [← f.1.2.2.2]; exact h) g2.1 g2.2 hn hfit hlen d (fun H1 locs1 hP hD hS => ?_)
    have hset : (z_w (zC D cy ad n K N G) V L).set q (ad w, .inr (ci, ((zft ci).mapIdx (fun k t => z_fv ad (V w) (L w) (G w) k t)).set k0 (.long x))) = z_w (zC D cy ad n K N G) V (z_uL L w k0 x) := by
      rw [z_fset (V' := V w) (L' := (z_uL L w k0 x) w) f.1.2.2.1 (by simp [z_fv, z_uI_eq, z_uL_eq, upd, vp_updL]) (fun j t hj => by simp [z_fv, z_uI_eq, z_uL_eq, upd, vp_updL, hj])]
      rw [← z_cellO (O := (zC D cy ad n K N G)) (V := V) (L := (z_uL L w k0 x)) hw.2 f.1.1.2.1]
      exact z_mapset (f := fun u => (z_ad (zC D cy ad n K N G) u, z_cell (zC D cy ad n K N G) V L u)) (g := fun u => (z_ad (zC D cy ad n K N G) u, z_cell (zC D cy ad n K N G) V (z_uL L w k0 x) u)) hq X.1.2.2.2 (fun v hv => by rw [z_cell_ne (O := (zC D cy ad n K N G)) (V := V) (V' := V) (L := L) (L' := (z_uL L w k0 x)) rfl (z_uL_ne hv)])
    rw [hset] at hP hD
    exact k H1 locs1 hP hD hS
theorem c_iald {M : zM} {D : va_G} {cy : Nat → ClassId} {ad : Nat → Nat} {n : Nat} {K N : Nat → Nat} {G : zG} {V : zI} {L : zL} {cc : ByteArray} {nL : Nat} {own : String} {fr lo pc : Nat} {ls : Array Slot} {st : List Value} {w : Nat} {i : Int32} (X : RXc M D cy ad n K N G cc nL own fr lo) (hw : w < n ∧ K w = 100) (h : inB i (N w)) (d : decode cc pc = .ok (.iaload, 1)) (k : RG M (zC D cy ad n K N G) V L (pc + 1) ls (.int (V w i.toNatClampNeg) :: st)) : RG M (zC D cy ad n K N G) V L pc ls (.int i :: .ref (ad w) :: st) :=
  z_iald (O := (zC D cy ad n K N G)) (w := w) X.1 (List.mem_range.mpr hw.1) hw.2 rfl h d k
theorem c_iast {M : zM} {D : va_G} {cy : Nat → ClassId} {ad : Nat → Nat} {n : Nat} {K N : Nat → Nat} {G : zG} {V : zI} {L : zL} {cc : ByteArray} {nL : Nat} {own : String} {fr lo pc : Nat} {ls : Array Slot} {st : List Value} {w : Nat} {i : Int32} {x : Int32} (X : RXc M D cy ad n K N G cc nL own fr lo) (hw : w < n ∧ K w = 100) (h : inB i (N w)) (d : decode cc pc = .ok (.iastore, 1)) (k : RG M (zC D cy ad n K N G) (z_uI V w i.toNatClampNeg x) L (pc + 1) ls (st)) : RG M (zC D cy ad n K N G) V L pc ls (.int x :: .int i :: .ref (ad w) :: st) :=
  z_iast (O := (zC D cy ad n K N G)) (w := w) X.1 (List.mem_range.mpr hw.1) hw.2 rfl h d k
theorem c_bald {M : zM} {D : va_G} {cy : Nat → ClassId} {ad : Nat → Nat} {n : Nat} {K N : Nat → Nat} {G : zG} {V : zI} {L : zL} {cc : ByteArray} {nL : Nat} {own : String} {fr lo pc : Nat} {ls : Array Slot} {st : List Value} {w : Nat} {i : Int32} (X : RXc M D cy ad n K N G cc nL own fr lo) (hw : w < n ∧ K w = 101) (h : inB i (N w)) (d : decode cc pc = .ok (.baload, 1)) (k : RG M (zC D cy ad n K N G) V L (pc + 1) ls (.int (V w i.toNatClampNeg) :: st)) : RG M (zC D cy ad n K N G) V L pc ls (.int i :: .ref (ad w) :: st) :=
  z_bald (O := (zC D cy ad n K N G)) (w := w) X.1 (List.mem_range.mpr hw.1) hw.2 rfl h d k
theorem c_bast {M : zM} {D : va_G} {cy : Nat → ClassId} {ad : Nat → Nat} {n : Nat} {K N : Nat → Nat} {G : zG} {V : zI} {L : zL} {cc : ByteArray} {nL : Nat} {own : String} {fr lo pc : Nat} {ls : Array Slot} {st : List Value} {w : Nat} {i : Int32} {x : Int32} (X : RXc M D cy ad n K N G cc nL own fr lo) (hw : w < n ∧ K w = 101) (h : inB i (N w)) (d : decode cc pc = .ok (.bastore, 1)) (k : RG M (zC D cy ad n K N G) (z_uI V w i.toNatClampNeg (vp_nar .byte x)) L (pc + 1) ls (st)) : RG M (zC D cy ad n K N G) V L pc ls (.int x :: .int i :: .ref (ad w) :: st) :=
  z_bast (O := (zC D cy ad n K N G)) (w := w) X.1 (List.mem_range.mpr hw.1) hw.2 rfl h d k
theorem c_zald {M : zM} {D : va_G} {cy : Nat → ClassId} {ad : Nat → Nat} {n : Nat} {K N : Nat → Nat} {G : zG} {V : zI} {L : zL} {cc : ByteArray} {nL : Nat} {own : String} {fr lo pc : Nat} {ls : Array Slot} {st : List Value} {w : Nat} {i : Int32} (X : RXc M D cy ad n K N G cc nL own fr lo) (hw : w < n ∧ K w = 102) (h : inB i (N w)) (d : decode cc pc = .ok (.baload, 1)) (k : RG M (zC D cy ad n K N G) V L (pc + 1) ls (.int (V w i.toNatClampNeg) :: st)) : RG M (zC D cy ad n K N G) V L pc ls (.int i :: .ref (ad w) :: st) :=
  z_zald (O := (zC D cy ad n K N G)) (w := w) X.1 (List.mem_range.mpr hw.1) hw.2 rfl h d k
theorem c_zast {M : zM} {D : va_G} {cy : Nat → ClassId} {ad : Nat → Nat} {n : Nat} {K N : Nat → Nat} {G : zG} {V : zI} {L : zL} {cc : ByteArray} {nL : Nat} {own : String} {fr lo pc : Nat} {ls : Array Slot} {st : List Value} {w : Nat} {i : Int32} {x : Int32} (X : RXc M D cy ad n K N G cc nL own fr lo) (hw : w < n ∧ K w = 102) (h : inB i (N w)) (d : decode cc pc = .ok (.bastore, 1)) (k : RG M (zC D cy ad n K N G) (z_uI V w i.toNatClampNeg (vp_nar .boolean x)) L (pc + 1) ls (st)) : RG M (zC D cy ad n K N G) V L pc ls (.int x :: .int i :: .ref (ad w) :: st) :=
  z_zast (O := (zC D cy ad n K N G)) (w := w) X.1 (List.mem_range.mpr hw.1) hw.2 rfl h d k
theorem c_lald {M : zM} {D : va_G} {cy : Nat → ClassId} {ad : Nat → Nat} {n : Nat} {K N : Nat → Nat} {G : zG} {V : zI} {L : zL} {cc : ByteArray} {nL : Nat} {own : String} {fr lo pc : Nat} {ls : Array Slot} {st : List Value} {w : Nat} {i : Int32} (X : RXc M D cy ad n K N G cc nL own fr lo) (hw : w < n ∧ K w = 103) (h : inB i (N w)) (d : decode cc pc = .ok (.laload, 1)) (k : RG M (zC D cy ad n K N G) V L (pc + 1) ls (.long (L w i.toNatClampNeg) :: st)) : RG M (zC D cy ad n K N G) V L pc ls (.int i :: .ref (ad w) :: st) :=
  z_lald (O := (zC D cy ad n K N G)) (w := w) X.1 (List.mem_range.mpr hw.1) hw.2 rfl h d k
theorem c_last {M : zM} {D : va_G} {cy : Nat → ClassId} {ad : Nat → Nat} {n : Nat} {K N : Nat → Nat} {G : zG} {V : zI} {L : zL} {cc : ByteArray} {nL : Nat} {own : String} {fr lo pc : Nat} {ls : Array Slot} {st : List Value} {w : Nat} {i : Int32} {x : Int64} (X : RXc M D cy ad n K N G cc nL own fr lo) (hw : w < n ∧ K w = 103) (h : inB i (N w)) (d : decode cc pc = .ok (.lastore, 1)) (k : RG M (zC D cy ad n K N G) V (z_uL L w i.toNatClampNeg x) (pc + 1) ls (st)) : RG M (zC D cy ad n K N G) V L pc ls (.long x :: .int i :: .ref (ad w) :: st) :=
  z_last (O := (zC D cy ad n K N G)) (w := w) X.1 (List.mem_range.mpr hw.1) hw.2 rfl h d k
theorem c_alen100 {M : zM} {D : va_G} {cy : Nat → ClassId} {ad : Nat → Nat} {n : Nat} {K N : Nat → Nat} {G : zG} {V : zI} {L : zL} {cc : ByteArray} {nL : Nat} {own : String} {fr lo pc : Nat} {ls : Array Slot} {st : List Value} {w : Nat} (X : RXc M D cy ad n K N G cc nL own fr lo) (hw : w < n ∧ K w = 100) (d : decode cc pc = .ok (.arraylength, 1)) (k : RG M (zC D cy ad n K N G) V L (pc + 1) ls (.int (Int32.ofNat (N w)) :: st)) : RG M (zC D cy ad n K N G) V L pc ls (.ref (ad w) :: st) := by
  have X0 := X.1
  obtain ⟨p, l, e, Ro, s, m, args, below, meth, c, Q, A, cells, slots⟩ := M
  intro H locs hP hD hS
  obtain ⟨q, hq, he⟩ := z_at (O := (zC D cy ad n K N G)) (V := V) (L := L) (w := w) (List.mem_range.mpr hw.1)
  rw [z_cellI (O := (zC D cy ad n K N G)) hw.2 (Or.inl rfl)] at he
  exact va_alen X0.1.1.1 X0.1.1.2.1 X0.1.2.1 hP q 0 he rfl rfl d (k H locs hP hD hS)
theorem c_alen101 {M : zM} {D : va_G} {cy : Nat → ClassId} {ad : Nat → Nat} {n : Nat} {K N : Nat → Nat} {G : zG} {V : zI} {L : zL} {cc : ByteArray} {nL : Nat} {own : String} {fr lo pc : Nat} {ls : Array Slot} {st : List Value} {w : Nat} (X : RXc M D cy ad n K N G cc nL own fr lo) (hw : w < n ∧ K w = 101) (d : decode cc pc = .ok (.arraylength, 1)) (k : RG M (zC D cy ad n K N G) V L (pc + 1) ls (.int (Int32.ofNat (N w)) :: st)) : RG M (zC D cy ad n K N G) V L pc ls (.ref (ad w) :: st) := by
  have X0 := X.1
  obtain ⟨p, l, e, Ro, s, m, args, below, meth, c, Q, A, cells, slots⟩ := M
  intro H locs hP hD hS
  obtain ⟨q, hq, he⟩ := z_at (O := (zC D cy ad n K N G)) (V := V) (L := L) (w := w) (List.mem_range.mpr hw.1)
  rw [z_cellI (O := (zC D cy ad n K N G)) hw.2 (Or.inr (Or.inl rfl))] at he
  exact va_alen X0.1.1.1 X0.1.1.2.1 X0.1.2.1 hP q 1 he rfl rfl d (k H locs hP hD hS)
theorem c_ifnull {M : zM} {D : va_G} {cy : Nat → ClassId} {ad : Nat → Nat} {n : Nat} {K N : Nat → Nat} {G : zG} {V : zI} {L : zL} {cc : ByteArray} {nL : Nat} {own : String} {fr lo pc : Nat} {ls : Array Slot} {st : List Value} {off : Int} {x : Nat} (X : RXc M D cy ad n K N G cc nL own fr lo) (d : decode cc pc = .ok (.ifnull off, 3)) (k : RG M (zC D cy ad n K N G) V L (pc + 3) ls (st)) : RG M (zC D cy ad n K N G) V L pc ls (.ref x :: st) := by
  have X0 := X.1
  obtain ⟨p, l, e, Ro, s, m, args, below, meth, c, Q, A, cells, slots⟩ := M
  exact fun H locs hP hD hS => lv_ifnull X0.1.1.1 X0.1.1.2.1 d (k H locs hP hD hS)
theorem c_ifnullN {M : zM} {D : va_G} {cy : Nat → ClassId} {ad : Nat → Nat} {n : Nat} {K N : Nat → Nat} {G : zG} {V : zI} {L : zL} {cc : ByteArray} {nL : Nat} {own : String} {fr lo pc : Nat} {ls : Array Slot} {st : List Value} {off : Int} {tgt : Nat} (X : RXc M D cy ad n K N G cc nL own fr lo) (d : decode cc pc = .ok (.ifnull off, 3)) (ht : (pc : Int) + off = (tgt : Int)) (k : RG M (zC D cy ad n K N G) V L tgt ls (st)) : RG M (zC D cy ad n K N G) V L pc ls (.null :: st) := by
  have X0 := X.1
  obtain ⟨p, l, e, Ro, s, m, args, below, meth, c, Q, A, cells, slots⟩ := M
  exact fun H locs hP hD hS => lv_ifnullN X0.1.1.1 X0.1.1.2.1 d ht (k H locs hP hD hS)
theorem c_ifnonnull {M : zM} {D : va_G} {cy : Nat → ClassId} {ad : Nat → Nat} {n : Nat} {K N : Nat → Nat} {G : zG} {V : zI} {L : zL} {cc : ByteArray} {nL : Nat} {own : String} {fr lo pc : Nat} {ls : Array Slot} {st : List Value} {off : Int} {tgt x : Nat} (X : RXc M D cy ad n K N G cc nL own fr lo) (d : decode cc pc = .ok (.ifnonnull off, 3)) (ht : (pc : Int) + off = (tgt : Int)) (k : RG M (zC D cy ad n K N G) V L tgt ls (st)) : RG M (zC D cy ad n K N G) V L pc ls (.ref x :: st) := by
  have X0 := X.1
  obtain ⟨p, l, e, Ro, s, m, args, below, meth, c, Q, A, cells, slots⟩ := M
  exact fun H locs hP hD hS => lv_ifnonnull X0.1.1.1 X0.1.1.2.1 d ht (k H locs hP hD hS)
theorem c_ifnonnullN {M : zM} {D : va_G} {cy : Nat → ClassId} {ad : Nat → Nat} {n : Nat} {K N : Nat → Nat} {G : zG} {V : zI} {L : zL} {cc : ByteArray} {nL : Nat} {own : String} {fr lo pc : Nat} {ls : Array Slot} {st : List Value} {off : Int} (X : RXc M D cy ad n K N G cc nL own fr lo) (d : decode cc pc = .ok (.ifnonnull off, 3)) (k : RG M (zC D cy ad n K N G) V L (pc + 3) ls (st)) : RG M (zC D cy ad n K N G) V L pc ls (.null :: st) := by
  have X0 := X.1
  obtain ⟨p, l, e, Ro, s, m, args, below, meth, c, Q, A, cells, slots⟩ := M
  exact fun H locs hP hD hS => lv_ifnonnullN X0.1.1.1 X0.1.1.2.1 d (k H locs hP hD hS)
theorem c_null {M : zM} {D : va_G} {cy : Nat → ClassId} {ad : Nat → Nat} {n : Nat} {K N : Nat → Nat} {G : zG} {V : zI} {L : zL} {cc : ByteArray} {nL : Nat} {own : String} {fr lo pc : Nat} {ls : Array Slot} {st : List Value}  (X : RXc M D cy ad n K N G cc nL own fr lo) (d : decode cc pc = .ok (.aconst_null, 1)) (k : RG M (zC D cy ad n K N G) V L (pc + 1) ls (.null :: st)) : RG M (zC D cy ad n K N G) V L pc ls (st) := by
  have X0 := X.1
  obtain ⟨p, l, e, Ro, s, m, args, below, meth, c, Q, A, cells, slots⟩ := M
  exact fun H locs hP hD hS => lv_null X0.1.1.1 X0.1.1.2.1 d (k H locs hP hD hS)
theorem c_aload_nN {M : zM} {D : va_G} {cy : Nat → ClassId} {ad : Nat → Nat} {n : Nat} {K N : Nat → Nat} {G : zG} {V : zI} {L : zL} {cc : ByteArray} {nL : Nat} {own : String} {fr lo pc : Nat} {ls : Array Slot} {st : List Value} {k0 : Fin 4} {i : Nat} (X : RXc M D cy ad n K N G cc nL own fr lo) (d : decode cc pc = .ok (.aload_n k0, 1)) (hi : (k0 : Nat) = i) (hl : ls[i]? = some (.val .null)) (k : RG M (zC D cy ad n K N G) V L (pc + 1) ls (.null :: st)) : RG M (zC D cy ad n K N G) V L pc ls st := by
  have X0 := X.1
  obtain ⟨p, l, e, Ro, s, m, args, below, meth, c, Q, A, cells, slots⟩ := M
  exact fun H locs hP hD hS => lv_aload_nN X0.1.1.1 X0.1.1.2.1 d hi hl (k H locs hP hD hS)
theorem c_astore_n {M : zM} {D : va_G} {cy : Nat → ClassId} {ad : Nat → Nat} {n : Nat} {K N : Nat → Nat} {G : zG} {V : zI} {L : zL} {cc : ByteArray} {nL : Nat} {own : String} {fr lo pc : Nat} {ls : Array Slot} {st : List Value} {k0 : Fin 4} {i x : Nat} {lv lv' : List (Nat × Value)} (X : RXc M D cy ad n K N G cc nL own fr lo) (d : decode cc pc = .ok (.astore_n k0, 1)) (hi : (k0 : Nat) = i) (h : lv_has ls nL lv) (hn : i < nL) (hl : (i, Value.ref x) :: lv.filter (fun q => !(q.1 == i) && !(q.1 + 1 == i && q.2.category == 2)) = lv') (k : ∀ ls' : Array Slot, lv_has ls' nL lv' → RG M (zC D cy ad n K N G) V L (pc + 1) ls' st) : RG M (zC D cy ad n K N G) V L pc ls (.ref x :: st) := by
  have X0 := X.1
  obtain ⟨p, l, e, Ro, s, m, args, below, meth, c, Q, A, cells, slots⟩ := M
  exact fun H locs hP hD hS => lv_astore_n X0.1.1.1 X0.1.1.2.1 d hi h hn hl (fun ls' h' => k ls' h' H locs hP hD hS)
theorem c_astore {M : zM} {D : va_G} {cy : Nat → ClassId} {ad : Nat → Nat} {n : Nat} {K N : Nat → Nat} {G : zG} {V : zI} {L : zL} {cc : ByteArray} {nL : Nat} {own : String} {fr lo pc : Nat} {ls : Array Slot} {st : List Value} {i x : Nat} {lv lv' : List (Nat × Value)} (X : RXc M D cy ad n K N G cc nL own fr lo) (d : decode cc pc = .ok (.astore i, 2)) (h : lv_has ls nL lv) (hn : i < nL) (hl : (i, Value.ref x) :: lv.filter (fun q => !(q.1 == i) && !(q.1 + 1 == i && q.2.category == 2)) = lv') (k : ∀ ls' : Array Slot, lv_has ls' nL lv' → RG M (zC D cy ad n K N G) V L (pc + 2) ls' st) : RG M (zC D cy ad n K N G) V L pc ls (.ref x :: st) := by
  have X0 := X.1
  obtain ⟨p, l, e, Ro, s, m, args, below, meth, c, Q, A, cells, slots⟩ := M
  exact fun H locs hP hD hS => lv_astore X0.1.1.1 X0.1.1.2.1 d h hn hl (fun ls' h' => k ls' h' H locs hP hD hS)
def c_Pre (O : zO) (As : List Value) (V : zI) (L : zL) (sz : Nat) : Array Value → State → Prop := va_Pc As (fun U => U.heap.size = sz ∧ va_P O.1 zcl (z_w O V L) U.heap ∧ va_K O.1 zcl (z_tys O) U ∧ va_D (fun _ => True) (z_w O V L) ∧ zNf U)
def RCi (O : zO) (y : MethodName) (cc : ByteArray) (n : Nat) (ty : FieldType) (fr lo : Nat) (As : List Value) (V : zI) (L : zL) (v : Int32) (V' : zI) (L' : zL) : Prop := ∀ (l : Launch) (sz : Nat), Met l y (.code y cc n (some ty) :: zTB) (z_rm fr lo) (c_Pre O As V L sz) (va_Qi (fun r (_ : Unit) => r = v) (z_B O (va_A (z_w O V L) sz) V' L') (va_A (z_w O V L) sz)) 0 0 (va_A (z_w O V L) sz)
def RCl (O : zO) (y : MethodName) (cc : ByteArray) (n : Nat) (fr lo : Nat) (As : List Value) (V : zI) (L : zL) (v : Int64) (V' : zI) (L' : zL) : Prop := ∀ (l : Launch) (sz : Nat), Met l y (.code y cc n (some .long) :: zTB) (z_rm fr lo) (c_Pre O As V L sz) (va_Ql (fun r (_ : Unit) => r = v) (z_B O (va_A (z_w O V L) sz) V' L') (va_A (z_w O V L) sz)) 0 0 (va_A (z_w O V L) sz)
def RCv (O : zO) (y : MethodName) (cc : ByteArray) (n : Nat) (fr lo : Nat) (As : List Value) (V : zI) (L : zL) (V' : zI) (L' : zL) : Prop := ∀ (l : Launch) (sz : Nat), Met l y (.code y cc n (none) :: zTB) (z_rm fr lo) (c_Pre O As V L sz) (va_Qv (fun (_ : Unit) => True) (z_B O (va_A (z_w O V L) sz) V' L') (va_A (z_w O V L) sz)) 0 0 (va_A (z_w O V L) sz)
theorem RCi.of {D : va_G} {cy : Nat → ClassId} {ad : Nat → Nat} {n : Nat} {K N : Nat → Nat} {G : zG} {y : MethodName} {cc : ByteArray} {nL : Nat} {ty : FieldType} {fr lo : Nat} {As : List Value} {V : zI} {L : zL} {v : Int32} {V' : zI} {L' : zL} (hy : plainName y.cls = true) (hWF : zWF n K G) (hlen : (lg_sl As).length ≤ nL)
    (body : ∀ (M : zM), RXc M D cy ad n K N G cc nL y.cls fr lo → RZi M (zC D cy ad n K N G) ty v V' L' → ∀ ls : Array Slot, lv_has ls nL (lv_args 0 As) → RG M (zC D cy ad n K N G) V L 0 ls []) : RCi (zC D cy ad n K N G) y cc nL ty fr lo As V L v V' L' := by
  intro l sz
  refine Met.ofW (cc := cc) (maxL := nL) (ret := some ty) hy rfl ?_
  intro p e s m args below meth c s₁ B hml hv
  obtain ⟨rfl, hsz, hP, hK, hD0, hNf⟩ := hv
  have hts := atoms_spec (ws := .code y cc nL (some ty) :: zTB) B.pre
  have hown : s.vm.findClass y.cls = some m.cls := findClass_of_methodNamed B.named
  subst hsz
  have hD := hD0.self (sz := s.heap.size)
  have hl := lv_entry As (n := nL) hlen
  rw [lg_entry_eq]
  generalize (lg_sl As ++ List.replicate (nL - (lg_sl As).length) Slot.unset).toArray = ls at hl ⊢
  exact body (p, l, e, (headSpec (.code y cc nL (some ty) :: zTB) (z_rm fr lo)).room, s, m, As.toArray, below, meth, c, _, va_A (z_w (zC D cy ad n K N G) V L) s.heap.size, 0, 0) ⟨⟨⟨⟨B.exec, B.bytes, hml, hown, fun w hw => hts w (List.mem_cons_of_mem _ hw)⟩, hK, fun q h => Or.inr h, zC_nd⟩, ⟨Nat.le_refl _, Nat.le_refl _⟩, ⟨Nat.zero_le _, Nat.zero_le _⟩⟩, hNf, hWF⟩ ⟨B.returns, B.notSynchronized, rfl⟩ ls hl s.heap [] hP hD va_S.rf
theorem RCl.of {D : va_G} {cy : Nat → ClassId} {ad : Nat → Nat} {n : Nat} {K N : Nat → Nat} {G : zG} {y : MethodName} {cc : ByteArray} {nL : Nat} {fr lo : Nat} {As : List Value} {V : zI} {L : zL} {v : Int64} {V' : zI} {L' : zL} (hy : plainName y.cls = true) (hWF : zWF n K G) (hlen : (lg_sl As).length ≤ nL)
    (body : ∀ (M : zM), RXc M D cy ad n K N G cc nL y.cls fr lo → RZl M (zC D cy ad n K N G) v V' L' → ∀ ls : Array Slot, lv_has ls nL (lv_args 0 As) → RG M (zC D cy ad n K N G) V L 0 ls []) : RCl (zC D cy ad n K N G) y cc nL fr lo As V L v V' L' := by
  intro l sz
  refine Met.ofW (cc := cc) (maxL := nL) (ret := some .long) hy rfl ?_
  intro p e s m args below meth c s₁ B hml hv
  obtain ⟨rfl, hsz, hP, hK, hD0, hNf⟩ := hv
  have hts := atoms_spec (ws := .code y cc nL (some .long) :: zTB) B.pre
  have hown : s.vm.findClass y.cls = some m.cls := findClass_of_methodNamed B.named
  subst hsz
  have hD := hD0.self (sz := s.heap.size)
  have hl := lv_entry As (n := nL) hlen
  rw [lg_entry_eq]
  generalize (lg_sl As ++ List.replicate (nL - (lg_sl As).length) Slot.unset).toArray = ls at hl ⊢
  exact body (p, l, e, (headSpec (.code y cc nL (some .long) :: zTB) (z_rm fr lo)).room, s, m, As.toArray, below, meth, c, _, va_A (z_w (zC D cy ad n K N G) V L) s.heap.size, 0, 0) ⟨⟨⟨⟨B.exec, B.bytes, hml, hown, fun w hw => hts w (List.mem_cons_of_mem _ hw)⟩, hK, fun q h => Or.inr h, zC_nd⟩, ⟨Nat.le_refl _, Nat.le_refl _⟩, ⟨Nat.zero_le _, Nat.zero_le _⟩⟩, hNf, hWF⟩ ⟨B.returns, B.notSynchronized, rfl⟩ ls hl s.heap [] hP hD va_S.rf
theorem RCv.of {D : va_G} {cy : Nat → ClassId} {ad : Nat → Nat} {n : Nat} {K N : Nat → Nat} {G : zG} {y : MethodName} {cc : ByteArray} {nL : Nat} {fr lo : Nat} {As : List Value} {V : zI} {L : zL} {V' : zI} {L' : zL} (hy : plainName y.cls = true) (hWF : zWF n K G) (hlen : (lg_sl As).length ≤ nL)
    (body : ∀ (M : zM), RXc M D cy ad n K N G cc nL y.cls fr lo → RZv M (zC D cy ad n K N G) V' L' → ∀ ls : Array Slot, lv_has ls nL (lv_args 0 As) → RG M (zC D cy ad n K N G) V L 0 ls []) : RCv (zC D cy ad n K N G) y cc nL fr lo As V L V' L' := by
  intro l sz
  refine Met.ofW (cc := cc) (maxL := nL) (ret := none) hy rfl ?_
  intro p e s m args below meth c s₁ B hml hv
  obtain ⟨rfl, hsz, hP, hK, hD0, hNf⟩ := hv
  have hts := atoms_spec (ws := .code y cc nL (none) :: zTB) B.pre
  have hown : s.vm.findClass y.cls = some m.cls := findClass_of_methodNamed B.named
  subst hsz
  have hD := hD0.self (sz := s.heap.size)
  have hl := lv_entry As (n := nL) hlen
  rw [lg_entry_eq]
  generalize (lg_sl As ++ List.replicate (nL - (lg_sl As).length) Slot.unset).toArray = ls at hl ⊢
  exact body (p, l, e, (headSpec (.code y cc nL (none) :: zTB) (z_rm fr lo)).room, s, m, As.toArray, below, meth, c, _, va_A (z_w (zC D cy ad n K N G) V L) s.heap.size, 0, 0) ⟨⟨⟨⟨B.exec, B.bytes, hml, hown, fun w hw => hts w (List.mem_cons_of_mem _ hw)⟩, hK, fun q h => Or.inr h, zC_nd⟩, ⟨Nat.le_refl _, Nat.le_refl _⟩, ⟨Nat.zero_le _, Nat.zero_le _⟩⟩, hNf, hWF⟩ ⟨B.returns, B.notSynchronized, rfl⟩ ls hl s.heap [] hP hD va_S.rf
theorem z_goodC {n : Nat} {y : MethodName} {cc : ByteArray} {ret : Option FieldType} (h5 : Cond.code y cc n ret ∈ zTB) : GoodIn zTB (.code y cc n ret :: zTB) := by
  intro w hw
  have hm : w ∈ zTB := by
    rcases List.mem_cons.mp hw with rfl | h
    · exact h5
    · exact h
  exact ⟨hm, good_of_word (goodTB w hm)⟩
theorem c_callVi {M : zM} {D : va_G} {cy : Nat → ClassId} {ad : Nat → Nat} {n : Nat} {K N : Nat → Nat} {G : zG} {V V1 : zI} {L L1 : zL} {cc : ByteArray} {nL : Nat} {own : String} {fr lo pc : Nat} {ls : Array Slot} {st : List Value} {cc2 : ByteArray} {stk : List Value} {fr2 lo2 n2 idx np : Nat} {w ci Nf : Nat} {T : u_T} {y : MethodName} {ty : FieldType} {v : Int32} (As : List Value) (X : RXc M D cy ad n K N G cc nL own fr lo) (hls : ls.size = nL) (hM : RCi (zC D cy ad n K N G) y cc2 n2 ty fr2 lo2 (.ref (ad w) :: As) V L v V1 L1) (hw : w < n ∧ K w = ci) (hc : ci < 100 ∧ zcl[ci]? = some (y.cls, T, Nf)) (hlk : zMk own idx y) (gc : Cond.code y cc2 n2 (some ty) ∈ zTB ∧ Cond.initialized y.cls ∈ zTB ∧ Cond.instanceMethod y ∈ zTB ∧ Cond.selects y.cls y y ∈ zTB) (hnp : As.length = np) (hd : (y.cls ≠ "java/lang/invoke/MethodHandle" ∧ y.cls ≠ "java/lang/invoke/VarHandle") ∧ (parseMethodDescriptor y.desc).map (fun d => d.parameters.length) = some np) (hR : fr2 + 1 ≤ fr ∧ 8 + (n2 + 11) + lo2 ≤ lo) (hroom : (st.map fun v => v.category).sum ≤ 8) (hstk : stk = As.reverse ++ .ref (ad w) :: st) (d : decode cc pc = .ok (.invokevirtual idx, 3)) (k : RG M (zC D cy ad n K N G) V1 L1 (pc + 3) ls (.int v :: st)) : RG M (zC D cy ad n K N G) V L pc ls stk := by
  have X0 := X.1
  have XN := X.2.1
  obtain ⟨p, l, e, Ro, s, m, args, below, meth, c, Q, A, cells, slots⟩ := M
  intro H locs hP hD hS
  subst hstk
  obtain ⟨q, hq, he⟩ := z_at (O := (zC D cy ad n K N G)) (V := V) (L := L) (w := w) (List.mem_range.mpr hw.1)
  rw [z_cellO (O := (zC D cy ad n K N G)) hw.2 hc.1] at he
  have hF : ∀ q : Nat, va_A (z_w (zC D cy ad n K N G) V L) H.size q → A q := by
    intro q h
    rcases h with ⟨k, e, h⟩ | h
    · exact hD.2 k (q, e) h
    · exact X0.1.2.2.1 q (Nat.le_trans hS.1 h)
  have hrun : va_Run p l e Ro s m args below meth c H locs cells slots 0 0 (F0 m pc ls (As.reverse ++ .ref (ad w) :: st)) st (va_Qi (fun r (_ : Unit) => r = v) (z_B (zC D cy ad n K N G) (va_A (z_w (zC D cy ad n K N G) V L) H.size) V1 L1) (va_A (z_w (zC D cy ad n K N G) V L) H.size) ((.ref (ad w) :: As)).toArray) (va_A (z_w (zC D cy ad n K N G) V L) H.size) := by
    rcases hlk with h | ⟨host, h⟩
    · exact va_runV (As := As) (rest := st) X0.1.1 (hM l H.size) ⟨callB_of np X0.1.1.2.2.2.2 (z_goodC gc.1) rfl rfl rfl (X0.1.1.2.2.2.2 _ gc.2.1) (X0.1.1.2.2.2.2 _ h) ⟨hd.1.1, hd.1.2, hd.2⟩ ⟨Nat.le_trans hR.1 X0.2.1.1, Nat.le_trans hR.2 X0.2.1.2⟩, ⟨X0.1.1.2.2.2.2 _ gc.2.2.1, X0.1.1.2.2.2.2 _ gc.2.2.2⟩⟩ ⟨fun a U g mk q => by obtain ⟨q0, q1, qP, qK, qD, qN⟩ := q; exact ⟨q0, q1, qP, va_K.moved (u := U) (U := U.calling g mk a) (Vm.Alike.refl U.vm) qK, qD, zNf.same (u := U) (U := U.calling g mk a) rfl qN⟩, va_recv X0.1.2.1 hP (ci := ci) (q0 := q) hc.2 he, fun U hU hW => ⟨rfl, by rw [hU], by rw [hU]; exact hP, va_K.moved hW.alike X0.1.2.1, hD.weaken (fun _ _ _ _ => trivial), zNf.warm hW XN⟩⟩ rfl hnp hls rfl (lv_room hroom) d ⟨X0.2.2.1, X0.2.2.2⟩
    · exact va_runVN (As := As) (rest := st) X0.1.1 (hM l H.size) ⟨va_cnB np X0.1.1.2.2.2.2 (z_goodC gc.1) rfl rfl rfl (XN _ h) (X0.1.1.2.2.2.2 _ gc.2.1) ⟨hd.1.1, hd.1.2, hd.2⟩ ⟨Nat.le_trans hR.1 X0.2.1.1, Nat.le_trans hR.2 X0.2.1.2⟩, ⟨X0.1.1.2.2.2.2 _ gc.2.2.1, X0.1.1.2.2.2.2 _ gc.2.2.2⟩⟩ ⟨fun a U g mk q => by obtain ⟨q0, q1, qP, qK, qD, qN⟩ := q; exact ⟨q0, q1, qP, va_K.moved (u := U) (U := U.calling g mk a) (Vm.Alike.refl U.vm) qK, qD, zNf.same (u := U) (U := U.calling g mk a) rfl qN⟩, va_recv X0.1.2.1 hP (ci := ci) (q0 := q) hc.2 he, fun U hU hW => ⟨rfl, by rw [hU], by rw [hU]; exact hP, va_K.moved hW.alike X0.1.2.1, hD.weaken (fun _ _ _ _ => trivial), zNf.warm hW XN⟩⟩ rfl hnp hls rfl (lv_room hroom) d ⟨X0.2.2.1, X0.2.2.2⟩
  refine va_calli hrun hS (fun q _ h => hF q h) hF (fun r u t H1 locs1 ht hvm hw2 hB hz1 hk1 hS => ?_)
  obtain ⟨hP1, -, hD1⟩ := hB
  rw [ht] at hP1
  subst hw2
  exact k H1 locs1 hP1 (hD1.weaken (fun _ q _ h => hF q.1 h)) hS
theorem c_callVl {M : zM} {D : va_G} {cy : Nat → ClassId} {ad : Nat → Nat} {n : Nat} {K N : Nat → Nat} {G : zG} {V V1 : zI} {L L1 : zL} {cc : ByteArray} {nL : Nat} {own : String} {fr lo pc : Nat} {ls : Array Slot} {st : List Value} {cc2 : ByteArray} {stk : List Value} {fr2 lo2 n2 idx np : Nat} {w ci Nf : Nat} {T : u_T} {y : MethodName} {v : Int64} (As : List Value) (X : RXc M D cy ad n K N G cc nL own fr lo) (hls : ls.size = nL) (hM : RCl (zC D cy ad n K N G) y cc2 n2 fr2 lo2 (.ref (ad w) :: As) V L v V1 L1) (hw : w < n ∧ K w = ci) (hc : ci < 100 ∧ zcl[ci]? = some (y.cls, T, Nf)) (hlk : zMk own idx y) (gc : Cond.code y cc2 n2 (some .long) ∈ zTB ∧ Cond.initialized y.cls ∈ zTB ∧ Cond.instanceMethod y ∈ zTB ∧ Cond.selects y.cls y y ∈ zTB) (hnp : As.length = np) (hd : (y.cls ≠ "java/lang/invoke/MethodHandle" ∧ y.cls ≠ "java/lang/invoke/VarHandle") ∧ (parseMethodDescriptor y.desc).map (fun d => d.parameters.length) = some np) (hR : fr2 + 1 ≤ fr ∧ 8 + (n2 + 11) + lo2 ≤ lo) (hroom : (st.map fun v => v.category).sum ≤ 8) (hstk : stk = As.reverse ++ .ref (ad w) :: st) (d : decode cc pc = .ok (.invokevirtual idx, 3)) (k : RG M (zC D cy ad n K N G) V1 L1 (pc + 3) ls (.long v :: st)) : RG M (zC D cy ad n K N G) V L pc ls stk := by
  have X0 := X.1
  have XN := X.2.1
  obtain ⟨p, l, e, Ro, s, m, args, below, meth, c, Q, A, cells, slots⟩ := M
  intro H locs hP hD hS
  subst hstk
  obtain ⟨q, hq, he⟩ := z_at (O := (zC D cy ad n K N G)) (V := V) (L := L) (w := w) (List.mem_range.mpr hw.1)
  rw [z_cellO (O := (zC D cy ad n K N G)) hw.2 hc.1] at he
  have hF : ∀ q : Nat, va_A (z_w (zC D cy ad n K N G) V L) H.size q → A q := by
    intro q h
    rcases h with ⟨k, e, h⟩ | h
    · exact hD.2 k (q, e) h
    · exact X0.1.2.2.1 q (Nat.le_trans hS.1 h)
  have hrun : va_Run p l e Ro s m args below meth c H locs cells slots 0 0 (F0 m pc ls (As.reverse ++ .ref (ad w) :: st)) st (va_Ql (fun r (_ : Unit) => r = v) (z_B (zC D cy ad n K N G) (va_A (z_w (zC D cy ad n K N G) V L) H.size) V1 L1) (va_A (z_w (zC D cy ad n K N G) V L) H.size) ((.ref (ad w) :: As)).toArray) (va_A (z_w (zC D cy ad n K N G) V L) H.size) := by
    rcases hlk with h | ⟨host, h⟩
    · exact va_runV (As := As) (rest := st) X0.1.1 (hM l H.size) ⟨callB_of np X0.1.1.2.2.2.2 (z_goodC gc.1) rfl rfl rfl (X0.1.1.2.2.2.2 _ gc.2.1) (X0.1.1.2.2.2.2 _ h) ⟨hd.1.1, hd.1.2, hd.2⟩ ⟨Nat.le_trans hR.1 X0.2.1.1, Nat.le_trans hR.2 X0.2.1.2⟩, ⟨X0.1.1.2.2.2.2 _ gc.2.2.1, X0.1.1.2.2.2.2 _ gc.2.2.2⟩⟩ ⟨fun a U g mk q => by obtain ⟨q0, q1, qP, qK, qD, qN⟩ := q; exact ⟨q0, q1, qP, va_K.moved (u := U) (U := U.calling g mk a) (Vm.Alike.refl U.vm) qK, qD, zNf.same (u := U) (U := U.calling g mk a) rfl qN⟩, va_recv X0.1.2.1 hP (ci := ci) (q0 := q) hc.2 he, fun U hU hW => ⟨rfl, by rw [hU], by rw [hU]; exact hP, va_K.moved hW.alike X0.1.2.1, hD.weaken (fun _ _ _ _ => trivial), zNf.warm hW XN⟩⟩ rfl hnp hls rfl (lv_room hroom) d ⟨X0.2.2.1, X0.2.2.2⟩
    · exact va_runVN (As := As) (rest := st) X0.1.1 (hM l H.size) ⟨va_cnB np X0.1.1.2.2.2.2 (z_goodC gc.1) rfl rfl rfl (XN _ h) (X0.1.1.2.2.2.2 _ gc.2.1) ⟨hd.1.1, hd.1.2, hd.2⟩ ⟨Nat.le_trans hR.1 X0.2.1.1, Nat.le_trans hR.2 X0.2.1.2⟩, ⟨X0.1.1.2.2.2.2 _ gc.2.2.1, X0.1.1.2.2.2.2 _ gc.2.2.2⟩⟩ ⟨fun a U g mk q => by obtain ⟨q0, q1, qP, qK, qD, qN⟩ := q; exact ⟨q0, q1, qP, va_K.moved (u := U) (U := U.calling g mk a) (Vm.Alike.refl U.vm) qK, qD, zNf.same (u := U) (U := U.calling g mk a) rfl qN⟩, va_recv X0.1.2.1 hP (ci := ci) (q0 := q) hc.2 he, fun U hU hW => ⟨rfl, by rw [hU], by rw [hU]; exact hP, va_K.moved hW.alike X0.1.2.1, hD.weaken (fun _ _ _ _ => trivial), zNf.warm hW XN⟩⟩ rfl hnp hls rfl (lv_room hroom) d ⟨X0.2.2.1, X0.2.2.2⟩
  refine va_calll hrun hS (fun q _ h => hF q h) hF (fun r u t H1 locs1 ht hvm hw2 hB hz1 hk1 hS => ?_)
  obtain ⟨hP1, -, hD1⟩ := hB
  rw [ht] at hP1
  subst hw2
  exact k H1 locs1 hP1 (hD1.weaken (fun _ q _ h => hF q.1 h)) hS
theorem c_callVv {M : zM} {D : va_G} {cy : Nat → ClassId} {ad : Nat → Nat} {n : Nat} {K N : Nat → Nat} {G : zG} {V V1 : zI} {L L1 : zL} {cc : ByteArray} {nL : Nat} {own : String} {fr lo pc : Nat} {ls : Array Slot} {st : List Value} {cc2 : ByteArray} {stk : List Value} {fr2 lo2 n2 idx np : Nat} {w ci Nf : Nat} {T : u_T} {y : MethodName} (As : List Value) (X : RXc M D cy ad n K N G cc nL own fr lo) (hls : ls.size = nL) (hM : RCv (zC D cy ad n K N G) y cc2 n2 fr2 lo2 (.ref (ad w) :: As) V L V1 L1) (hw : w < n ∧ K w = ci) (hc : ci < 100 ∧ zcl[ci]? = some (y.cls, T, Nf)) (hlk : zMk own idx y) (gc : Cond.code y cc2 n2 (none) ∈ zTB ∧ Cond.initialized y.cls ∈ zTB ∧ Cond.instanceMethod y ∈ zTB ∧ Cond.selects y.cls y y ∈ zTB) (hnp : As.length = np) (hd : (y.cls ≠ "java/lang/invoke/MethodHandle" ∧ y.cls ≠ "java/lang/invoke/VarHandle") ∧ (parseMethodDescriptor y.desc).map (fun d => d.parameters.length) = some np) (hR : fr2 + 1 ≤ fr ∧ 8 + (n2 + 11) + lo2 ≤ lo) (hroom : (st.map fun v => v.category).sum ≤ 8) (hstk : stk = As.reverse ++ .ref (ad w) :: st) (d : decode cc pc = .ok (.invokevirtual idx, 3)) (k : RG M (zC D cy ad n K N G) V1 L1 (pc + 3) ls (st)) : RG M (zC D cy ad n K N G) V L pc ls stk := by
  have X0 := X.1
  have XN := X.2.1
  obtain ⟨p, l, e, Ro, s, m, args, below, meth, c, Q, A, cells, slots⟩ := M
  intro H locs hP hD hS
  subst hstk
  obtain ⟨q, hq, he⟩ := z_at (O := (zC D cy ad n K N G)) (V := V) (L := L) (w := w) (List.mem_range.mpr hw.1)
  rw [z_cellO (O := (zC D cy ad n K N G)) hw.2 hc.1] at he
  have hF : ∀ q : Nat, va_A (z_w (zC D cy ad n K N G) V L) H.size q → A q := by
    intro q h
    rcases h with ⟨k, e, h⟩ | h
    · exact hD.2 k (q, e) h
    · exact X0.1.2.2.1 q (Nat.le_trans hS.1 h)
  have hrun : va_Run p l e Ro s m args below meth c H locs cells slots 0 0 (F0 m pc ls (As.reverse ++ .ref (ad w) :: st)) st (va_Qv (fun (_ : Unit) => True) (z_B (zC D cy ad n K N G) (va_A (z_w (zC D cy ad n K N G) V L) H.size) V1 L1) (va_A (z_w (zC D cy ad n K N G) V L) H.size) ((.ref (ad w) :: As)).toArray) (va_A (z_w (zC D cy ad n K N G) V L) H.size) := by
    rcases hlk with h | ⟨host, h⟩
    · exact va_runV (As := As) (rest := st) X0.1.1 (hM l H.size) ⟨callB_of np X0.1.1.2.2.2.2 (z_goodC gc.1) rfl rfl rfl (X0.1.1.2.2.2.2 _ gc.2.1) (X0.1.1.2.2.2.2 _ h) ⟨hd.1.1, hd.1.2, hd.2⟩ ⟨Nat.le_trans hR.1 X0.2.1.1, Nat.le_trans hR.2 X0.2.1.2⟩, ⟨X0.1.1.2.2.2.2 _ gc.2.2.1, X0.1.1.2.2.2.2 _ gc.2.2.2⟩⟩ ⟨fun a U g mk q => by obtain ⟨q0, q1, qP, qK, qD, qN⟩ := q; exact ⟨q0, q1, qP, va_K.moved (u := U) (U := U.calling g mk a) (Vm.Alike.refl U.vm) qK, qD, zNf.same (u := U) (U := U.calling g mk a) rfl qN⟩, va_recv X0.1.2.1 hP (ci := ci) (q0 := q) hc.2 he, fun U hU hW => ⟨rfl, by rw [hU], by rw [hU]; exact hP, va_K.moved hW.alike X0.1.2.1, hD.weaken (fun _ _ _ _ => trivial), zNf.warm hW XN⟩⟩ rfl hnp hls rfl (lv_room hroom) d ⟨X0.2.2.1, X0.2.2.2⟩
    · exact va_runVN (As := As) (rest := st) X0.1.1 (hM l H.size) ⟨va_cnB np X0.1.1.2.2.2.2 (z_goodC gc.1) rfl rfl rfl (XN _ h) (X0.1.1.2.2.2.2 _ gc.2.1) ⟨hd.1.1, hd.1.2, hd.2⟩ ⟨Nat.le_trans hR.1 X0.2.1.1, Nat.le_trans hR.2 X0.2.1.2⟩, ⟨X0.1.1.2.2.2.2 _ gc.2.2.1, X0.1.1.2.2.2.2 _ gc.2.2.2⟩⟩ ⟨fun a U g mk q => by obtain ⟨q0, q1, qP, qK, qD, qN⟩ := q; exact ⟨q0, q1, qP, va_K.moved (u := U) (U := U.calling g mk a) (Vm.Alike.refl U.vm) qK, qD, zNf.same (u := U) (U := U.calling g mk a) rfl qN⟩, va_recv X0.1.2.1 hP (ci := ci) (q0 := q) hc.2 he, fun U hU hW => ⟨rfl, by rw [hU], by rw [hU]; exact hP, va_K.moved hW.alike X0.1.2.1, hD.weaken (fun _ _ _ _ => trivial), zNf.warm hW XN⟩⟩ rfl hnp hls rfl (lv_room hroom) d ⟨X0.2.2.1, X0.2.2.2⟩
  refine va_callv hrun hS (fun q _ h => hF q h) hF (fun  u t H1 locs1 ht hvm hw2 hB hz1 hk1 hS => ?_)
  obtain ⟨hP1, -, hD1⟩ := hB
  rw [ht] at hP1
  clear hw2
  exact k H1 locs1 hP1 (hD1.weaken (fun _ q _ h => hF q.1 h)) hS
theorem c_callSi {M : zM} {D : va_G} {cy : Nat → ClassId} {ad : Nat → Nat} {n : Nat} {K N : Nat → Nat} {G : zG} {V V1 : zI} {L L1 : zL} {cc : ByteArray} {nL : Nat} {own : String} {fr lo pc : Nat} {ls : Array Slot} {st : List Value} {cc2 : ByteArray} {stk : List Value} {fr2 lo2 n2 idx np : Nat} {y : MethodName} {ty : FieldType} {v : Int32} (As : List Value) (X : RXc M D cy ad n K N G cc nL own fr lo) (hls : ls.size = nL) (hM : RCi (zC D cy ad n K N G) y cc2 n2 ty fr2 lo2 As V L v V1 L1) (hlk : zMk own idx y) (gc : Cond.code y cc2 n2 (some ty) ∈ zTB ∧ Cond.initialized y.cls ∈ zTB ∧ Cond.static y ∈ zTB) (hnp : As.length = np) (hd : (y.cls ≠ "java/lang/invoke/MethodHandle" ∧ y.cls ≠ "java/lang/invoke/VarHandle") ∧ (parseMethodDescriptor y.desc).map (fun d => d.parameters.length) = some np) (hR : fr2 + 1 ≤ fr ∧ 8 + (n2 + 11) + lo2 ≤ lo) (hroom : (st.map fun v => v.category).sum ≤ 8) (hstk : stk = As.reverse ++ st) (d : decode cc pc = .ok (.invokestatic idx, 3)) (k : RG M (zC D cy ad n K N G) V1 L1 (pc + 3) ls (.int v :: st)) : RG M (zC D cy ad n K N G) V L pc ls stk := by
  have X0 := X.1
  have XN := X.2.1
  obtain ⟨p, l, e, Ro, s, m, args, below, meth, c, Q, A, cells, slots⟩ := M
  intro H locs hP hD hS
  subst hstk
  have hF : ∀ q : Nat, va_A (z_w (zC D cy ad n K N G) V L) H.size q → A q := by
    intro q h
    rcases h with ⟨k, e, h⟩ | h
    · exact hD.2 k (q, e) h
    · exact X0.1.2.2.1 q (Nat.le_trans hS.1 h)
  have hrun : va_Run p l e Ro s m args below meth c H locs cells slots 0 0 (F0 m pc ls (As.reverse ++ st)) st (va_Qi (fun r (_ : Unit) => r = v) (z_B (zC D cy ad n K N G) (va_A (z_w (zC D cy ad n K N G) V L) H.size) V1 L1) (va_A (z_w (zC D cy ad n K N G) V L) H.size) (As).toArray) (va_A (z_w (zC D cy ad n K N G) V L) H.size) := by
    rcases hlk with h | ⟨host, h⟩
    · exact va_runS (As := As) (rest := st) X0.1.1 (hM l H.size) ⟨callB_of np X0.1.1.2.2.2.2 (z_goodC gc.1) rfl rfl rfl (X0.1.1.2.2.2.2 _ gc.2.1) (X0.1.1.2.2.2.2 _ h) ⟨hd.1.1, hd.1.2, hd.2⟩ ⟨Nat.le_trans hR.1 X0.2.1.1, Nat.le_trans hR.2 X0.2.1.2⟩, X0.1.1.2.2.2.2 _ gc.2.2⟩ ⟨fun a U g mk q => by obtain ⟨q0, q1, qP, qK, qD, qN⟩ := q; exact ⟨q0, q1, qP, va_K.moved (u := U) (U := U.calling g mk a) (Vm.Alike.refl U.vm) qK, qD, zNf.same (u := U) (U := U.calling g mk a) rfl qN⟩, fun U hU hW => ⟨rfl, by rw [hU], by rw [hU]; exact hP, va_K.moved hW.alike X0.1.2.1, hD.weaken (fun _ _ _ _ => trivial), zNf.warm hW XN⟩⟩ rfl hnp hls rfl (lv_room hroom) d ⟨X0.2.2.1, X0.2.2.2⟩
    · exact va_runSN (As := As) (rest := st) X0.1.1 (hM l H.size) ⟨va_cnB np X0.1.1.2.2.2.2 (z_goodC gc.1) rfl rfl rfl (XN _ h) (X0.1.1.2.2.2.2 _ gc.2.1) ⟨hd.1.1, hd.1.2, hd.2⟩ ⟨Nat.le_trans hR.1 X0.2.1.1, Nat.le_trans hR.2 X0.2.1.2⟩, ⟨X0.1.1.2.2.2.2 _ gc.2.2, trivial⟩⟩ ⟨fun a U g mk q => by obtain ⟨q0, q1, qP, qK, qD, qN⟩ := q; exact ⟨q0, q1, qP, va_K.moved (u := U) (U := U.calling g mk a) (Vm.Alike.refl U.vm) qK, qD, zNf.same (u := U) (U := U.calling g mk a) rfl qN⟩, fun U hU hW => ⟨rfl, by rw [hU], by rw [hU]; exact hP, va_K.moved hW.alike X0.1.2.1, hD.weaken (fun _ _ _ _ => trivial), zNf.warm hW XN⟩⟩ rfl hnp hls rfl (lv_room hroom) d ⟨X0.2.2.1, X0.2.2.2⟩
  refine va_calli hrun hS (fun q _ h => hF q h) hF (fun r u t H1 locs1 ht hvm hw2 hB hz1 hk1 hS => ?_)
  obtain ⟨hP1, -, hD1⟩ := hB
  rw [ht] at hP1
  subst hw2
  exact k H1 locs1 hP1 (hD1.weaken (fun _ q _ h => hF q.1 h)) hS
theorem c_callSl {M : zM} {D : va_G} {cy : Nat → ClassId} {ad : Nat → Nat} {n : Nat} {K N : Nat → Nat} {G : zG} {V V1 : zI} {L L1 : zL} {cc : ByteArray} {nL : Nat} {own : String} {fr lo pc : Nat} {ls : Array Slot} {st : List Value} {cc2 : ByteArray} {stk : List Value} {fr2 lo2 n2 idx np : Nat} {y : MethodName} {v : Int64} (As : List Value) (X : RXc M D cy ad n K N G cc nL own fr lo) (hls : ls.size = nL) (hM : RCl (zC D cy ad n K N G) y cc2 n2 fr2 lo2 As V L v V1 L1) (hlk : zMk own idx y) (gc : Cond.code y cc2 n2 (some .long) ∈ zTB ∧ Cond.initialized y.cls ∈ zTB ∧ Cond.static y ∈ zTB) (hnp : As.length = np) (hd : (y.cls ≠ "java/lang/invoke/MethodHandle" ∧ y.cls ≠ "java/lang/invoke/VarHandle") ∧ (parseMethodDescriptor y.desc).map (fun d => d.parameters.length) = some np) (hR : fr2 + 1 ≤ fr ∧ 8 + (n2 + 11) + lo2 ≤ lo) (hroom : (st.map fun v => v.category).sum ≤ 8) (hstk : stk = As.reverse ++ st) (d : decode cc pc = .ok (.invokestatic idx, 3)) (k : RG M (zC D cy ad n K N G) V1 L1 (pc + 3) ls (.long v :: st)) : RG M (zC D cy ad n K N G) V L pc ls stk := by
  have X0 := X.1
  have XN := X.2.1
  obtain ⟨p, l, e, Ro, s, m, args, below, meth, c, Q, A, cells, slots⟩ := M
  intro H locs hP hD hS
  subst hstk
  have hF : ∀ q : Nat, va_A (z_w (zC D cy ad n K N G) V L) H.size q → A q := by
    intro q h
    rcases h with ⟨k, e, h⟩ | h
    · exact hD.2 k (q, e) h
    · exact X0.1.2.2.1 q (Nat.le_trans hS.1 h)
  have hrun : va_Run p l e Ro s m args below meth c H locs cells slots 0 0 (F0 m pc ls (As.reverse ++ st)) st (va_Ql (fun r (_ : Unit) => r = v) (z_B (zC D cy ad n K N G) (va_A (z_w (zC D cy ad n K N G) V L) H.size) V1 L1) (va_A (z_w (zC D cy ad n K N G) V L) H.size) (As).toArray) (va_A (z_w (zC D cy ad n K N G) V L) H.size) := by
    rcases hlk with h | ⟨host, h⟩
    · exact va_runS (As := As) (rest := st) X0.1.1 (hM l H.size) ⟨callB_of np X0.1.1.2.2.2.2 (z_goodC gc.1) rfl rfl rfl (X0.1.1.2.2.2.2 _ gc.2.1) (X0.1.1.2.2.2.2 _ h) ⟨hd.1.1, hd.1.2, hd.2⟩ ⟨Nat.le_trans hR.1 X0.2.1.1, Nat.le_trans hR.2 X0.2.1.2⟩, X0.1.1.2.2.2.2 _ gc.2.2⟩ ⟨fun a U g mk q => by obtain ⟨q0, q1, qP, qK, qD, qN⟩ := q; exact ⟨q0, q1, qP, va_K.moved (u := U) (U := U.calling g mk a) (Vm.Alike.refl U.vm) qK, qD, zNf.same (u := U) (U := U.calling g mk a) rfl qN⟩, fun U hU hW => ⟨rfl, by rw [hU], by rw [hU]; exact hP, va_K.moved hW.alike X0.1.2.1, hD.weaken (fun _ _ _ _ => trivial), zNf.warm hW XN⟩⟩ rfl hnp hls rfl (lv_room hroom) d ⟨X0.2.2.1, X0.2.2.2⟩
    · exact va_runSN (As := As) (rest := st) X0.1.1 (hM l H.size) ⟨va_cnB np X0.1.1.2.2.2.2 (z_goodC gc.1) rfl rfl rfl (XN _ h) (X0.1.1.2.2.2.2 _ gc.2.1) ⟨hd.1.1, hd.1.2, hd.2⟩ ⟨Nat.le_trans hR.1 X0.2.1.1, Nat.le_trans hR.2 X0.2.1.2⟩, ⟨X0.1.1.2.2.2.2 _ gc.2.2, trivial⟩⟩ ⟨fun a U g mk q => by obtain ⟨q0, q1, qP, qK, qD, qN⟩ := q; exact ⟨q0, q1, qP, va_K.moved (u := U) (U := U.calling g mk a) (Vm.Alike.refl U.vm) qK, qD, zNf.same (u := U) (U := U.calling g mk a) rfl qN⟩, fun U hU hW => ⟨rfl, by rw [hU], by rw [hU]; exact hP, va_K.moved hW.alike X0.1.2.1, hD.weaken (fun _ _ _ _ => trivial), zNf.warm hW XN⟩⟩ rfl hnp hls rfl (lv_room hroom) d ⟨X0.2.2.1, X0.2.2.2⟩
  refine va_calll hrun hS (fun q _ h => hF q h) hF (fun r u t H1 locs1 ht hvm hw2 hB hz1 hk1 hS => ?_)
  obtain ⟨hP1, -, hD1⟩ := hB
  rw [ht] at hP1
  subst hw2
  exact k H1 locs1 hP1 (hD1.weaken (fun _ q _ h => hF q.1 h)) hS
theorem c_callSv {M : zM} {D : va_G} {cy : Nat → ClassId} {ad : Nat → Nat} {n : Nat} {K N : Nat → Nat} {G : zG} {V V1 : zI} {L L1 : zL} {cc : ByteArray} {nL : Nat} {own : String} {fr lo pc : Nat} {ls : Array Slot} {st : List Value} {cc2 : ByteArray} {stk : List Value} {fr2 lo2 n2 idx np : Nat} {y : MethodName} (As : List Value) (X : RXc M D cy ad n K N G cc nL own fr lo) (hls : ls.size = nL) (hM : RCv (zC D cy ad n K N G) y cc2 n2 fr2 lo2 As V L V1 L1) (hlk : zMk own idx y) (gc : Cond.code y cc2 n2 (none) ∈ zTB ∧ Cond.initialized y.cls ∈ zTB ∧ Cond.static y ∈ zTB) (hnp : As.length = np) (hd : (y.cls ≠ "java/lang/invoke/MethodHandle" ∧ y.cls ≠ "java/lang/invoke/VarHandle") ∧ (parseMethodDescriptor y.desc).map (fun d => d.parameters.length) = some np) (hR : fr2 + 1 ≤ fr ∧ 8 + (n2 + 11) + lo2 ≤ lo) (hroom : (st.map fun v => v.category).sum ≤ 8) (hstk : stk = As.reverse ++ st) (d : decode cc pc = .ok (.invokestatic idx, 3)) (k : RG M (zC D cy ad n K N G) V1 L1 (pc + 3) ls (st)) : RG M (zC D cy ad n K N G) V L pc ls stk := by
  have X0 := X.1
  have XN := X.2.1
  obtain ⟨p, l, e, Ro, s, m, args, below, meth, c, Q, A, cells, slots⟩ := M
  intro H locs hP hD hS
  subst hstk
  have hF : ∀ q : Nat, va_A (z_w (zC D cy ad n K N G) V L) H.size q → A q := by
    intro q h
    rcases h with ⟨k, e, h⟩ | h
    · exact hD.2 k (q, e) h
    · exact X0.1.2.2.1 q (Nat.le_trans hS.1 h)
  have hrun : va_Run p l e Ro s m args below meth c H locs cells slots 0 0 (F0 m pc ls (As.reverse ++ st)) st (va_Qv (fun (_ : Unit) => True) (z_B (zC D cy ad n K N G) (va_A (z_w (zC D cy ad n K N G) V L) H.size) V1 L1) (va_A (z_w (zC D cy ad n K N G) V L) H.size) (As).toArray) (va_A (z_w (zC D cy ad n K N G) V L) H.size) := by
    rcases hlk with h | ⟨host, h⟩
    · exact va_runS (As := As) (rest := st) X0.1.1 (hM l H.size) ⟨callB_of np X0.1.1.2.2.2.2 (z_goodC gc.1) rfl rfl rfl (X0.1.1.2.2.2.2 _ gc.2.1) (X0.1.1.2.2.2.2 _ h) ⟨hd.1.1, hd.1.2, hd.2⟩ ⟨Nat.le_trans hR.1 X0.2.1.1, Nat.le_trans hR.2 X0.2.1.2⟩, X0.1.1.2.2.2.2 _ gc.2.2⟩ ⟨fun a U g mk q => by obtain ⟨q0, q1, qP, qK, qD, qN⟩ := q; exact ⟨q0, q1, qP, va_K.moved (u := U) (U := U.calling g mk a) (Vm.Alike.refl U.vm) qK, qD, zNf.same (u := U) (U := U.calling g mk a) rfl qN⟩, fun U hU hW => ⟨rfl, by rw [hU], by rw [hU]; exact hP, va_K.moved hW.alike X0.1.2.1, hD.weaken (fun _ _ _ _ => trivial), zNf.warm hW XN⟩⟩ rfl hnp hls rfl (lv_room hroom) d ⟨X0.2.2.1, X0.2.2.2⟩
    · exact va_runSN (As := As) (rest := st) X0.1.1 (hM l H.size) ⟨va_cnB np X0.1.1.2.2.2.2 (z_goodC gc.1) rfl rfl rfl (XN _ h) (X0.1.1.2.2.2.2 _ gc.2.1) ⟨hd.1.1, hd.1.2, hd.2⟩ ⟨Nat.le_trans hR.1 X0.2.1.1, Nat.le_trans hR.2 X0.2.1.2⟩, ⟨X0.1.1.2.2.2.2 _ gc.2.2, trivial⟩⟩ ⟨fun a U g mk q => by obtain ⟨q0, q1, qP, qK, qD, qN⟩ := q; exact ⟨q0, q1, qP, va_K.moved (u := U) (U := U.calling g mk a) (Vm.Alike.refl U.vm) qK, qD, zNf.same (u := U) (U := U.calling g mk a) rfl qN⟩, fun U hU hW => ⟨rfl, by rw [hU], by rw [hU]; exact hP, va_K.moved hW.alike X0.1.2.1, hD.weaken (fun _ _ _ _ => trivial), zNf.warm hW XN⟩⟩ rfl hnp hls rfl (lv_room hroom) d ⟨X0.2.2.1, X0.2.2.2⟩
  refine va_callv hrun hS (fun q _ h => hF q h) hF (fun  u t H1 locs1 ht hvm hw2 hB hz1 hk1 hS => ?_)
  obtain ⟨hP1, -, hD1⟩ := hB
  rw [ht] at hP1
  clear hw2
  exact k H1 locs1 hP1 (hD1.weaken (fun _ q _ h => hF q.1 h)) hS
