theorem a_new {M : zM} {D : va_G} {cy : Nat → ClassId} {ad : Nat → Nat} {n c q : Nat} {K N : Nat → Nat} {G : zG} {V : zI} {L : zL} {cc : ByteArray} {nL : Nat} {own : String} {fr lo pc : Nat} {ls : Array Slot} {st : List Value} {ci idx Nf : Nat} {C : String} {T : u_T} {ty0 : Nat → FieldType} (X : RXA M D cy ad n c q K N G cc nL own fr lo) (f : zcl[ci]? = some (C, T, Nf) ∧ ci < 100 ∧ ∀ q ∈ u_ws C T Nf, q ∈ zTB) (hty : ∀ k, k < Nf → parseFieldDescriptor (T k).2.2.1 = some (ty0 k)) (hdv : ∀ j, j < Nf → defaultValue (ty0 j) = vp_V ((zft ci).mapIdx (fun k t => z_fv (fun _ => 0) (fun _ => 0) (fun _ => 0) zn0 k t)) j) (g : Cond.classLink own idx C ∈ zTB ∧ Cond.instantiable C Nf ∈ zTB ∧ Cond.initialized C ∈ zTB) (hR : c + 1 ≤ M.2.2.2.1.cells ∧ q + Nf ≤ M.2.2.2.1.slots) (d : decode cc pc = .ok (.new idx, 3))
    (k : ∀ ad' : Nat → Nat, (∀ w, w < n → ad' w = ad w) → RXA M D cy ad' (n + 1) (c + 1) (q + Nf) (kU K n ci) N (kU G n zn0) cc nL own fr lo → RG (zMb M (c + 1) (q + Nf)) (zC D cy ad' (n + 1) (kU K n ci) N (kU G n zn0)) (kU V n (fun _ => 0)) (kU L n (fun _ => 0)) (pc + 3) ls (.ref (ad' n) :: st)) : RG (zMb M c q) (zC D cy ad n K N G) V L pc ls st := by
  have X0 := X.1.1
  have XN := X.1.2.1
  have XW := X.1.2.2
  have XS := X.2
  obtain ⟨p, l, e, Ro, s, m, args, below, meth, co, Q, A, c00, q00⟩ := M
  intro H locs hP hD hS
  refine va_new (ci := ci) (fs := ((zft ci).mapIdx (fun k t => z_fv (fun _ => 0) (fun _ => 0) (fun _ => 0) zn0 k t))) X0.1.1.1 X0.1.1.2.1 X0.1.1.2.2.2.2 f.2.2 ty0 hty X0.1.1.2.2.2.1 (X0.1.1.2.2.2.2 _ g.1) (X0.1.1.2.2.2.2 _ g.2.1) (X0.1.1.2.2.2.2 _ g.2.2) X0.1.2.1 hP hD hS X0.1.2.2.1 f.1 hdv hR.1 hR.2 d (fun a H1 hP hD hS => ?_)
  have had : ∀ w, w < n → (fun w => if w = n then a else ad w) w = ad w := fun w h => if_neg (by omega)
  have hz := z_push (D := D) (cy := cy) (ad' := fun w => if w = n then a else ad w) (K' := (kU K n ci)) (N' := N) (G' := (kU G n zn0)) (V := V) (V' := (kU V n (fun _ => 0))) (L := L) (L' := (kU L n (fun _ => 0))) (N := N) XW had (fun w h => kU_ne (by omega)) (fun w h => rfl) (fun w h => kU_ne (by omega)) (fun w h => kU_ne (by omega)) (fun w h => kU_ne (by omega))
  have hc1 : z_cell (zC D cy (fun w => if w = n then a else ad w) (n + 1) (kU K n ci) N (kU G n zn0)) (kU V n (fun _ => 0)) (kU L n (fun _ => 0)) n = .inr (ci, ((zft ci).mapIdx (fun k t => z_fv (fun _ => 0) (fun _ => 0) (fun _ => 0) zn0 k t))) := by
    rw [z_cellO (ci := ci) (by exact kU_eq) f.2.1]
    have e : (zft ci).mapIdx (fun k t => z_fv (fun w => if w = n then a else ad w) ((kU V n (fun _ => 0)) n) ((kU L n (fun _ => 0)) n) ((kU G n zn0) n) k t) = ((zft ci).mapIdx (fun k t => z_fv (fun _ => 0) (fun _ => 0) (fun _ => 0) zn0 k t)) := by
      rw [kU_eq, kU_eq, kU_eq]
      congr 1
    exact congrArg (fun x => (Sum.inr (ci, x) : va_E)) e
  rw [hc1] at hz
  have hz : z_w (zC D cy ad n K N G) V L ++ [(a, .inr (ci, ((zft ci).mapIdx (fun k t => z_fv (fun _ => 0) (fun _ => 0) (fun _ => 0) zn0 k t))))] = z_w (zC D cy (fun w => if w = n then a else ad w) (n + 1) (kU K n ci) N (kU G n zn0)) (kU V n (fun _ => 0)) (kU L n (fun _ => 0)) := by
    rw [← hz]
    simp
  rw [hz] at hP hD
  have hk := k (fun w => if w = n then a else ad w) had ⟨⟨⟨⟨X0.1.1, X0.1.2.1, X0.1.2.2.1, zC_nd⟩, X0.2.1, ⟨hR.1, hR.2⟩⟩, XN, XW.push ci⟩, XS⟩ H1 locs hP hD hS
  have e1 : (if n = n then a else ad n) = a := if_pos rfl
  simp only [e1] at hk
  exact hk
theorem a_obj {M : zM} {D : va_G} {cy : Nat → ClassId} {ad : Nat → Nat} {n c q : Nat} {K N : Nat → Nat} {G : zG} {V : zI} {L : zL} {cc : ByteArray} {nL : Nat} {own : String} {fr lo pc : Nat} {ls : Array Slot} {st : List Value} {idx x : Nat} (X : RXA M D cy ad n c q K N G cc nL own fr lo) (hls : ls.size = nL) (g : Cond.methodLink own idx Lib.objectInit ∈ zTB ∧ Cond.instanceMethod Lib.objectInit ∈ zTB ∧ Cond.code Lib.objectInit ⟨#[0xb1]⟩ 1 none ∈ zTB) (hR : 1 ≤ fr ∧ (st.map fun v => v.category).sum + 12 ≤ lo) (d : decode cc pc = .ok (.invokespecial idx, 3)) (k : RG (zMb M c q) (zC D cy ad n K N G) V L (pc + 3) ls st) : RG (zMb M c q) (zC D cy ad n K N G) V L pc ls (.ref x :: st) := by
  have X0 := X.1.1
  obtain ⟨p, l, e, Ro, s, m, args, below, meth, co, Q, A, c00, q00⟩ := M
  intro H locs hP hD hS
  refine W.objInit X0.1.1.1 X0.1.1.2.1 X0.1.1.2.2.2.1 (X0.1.1.2.2.2.2 _ g.1) (X0.1.1.2.2.2.2 _ g.2.1) (X0.1.1.2.2.2.2 _ g.2.2) rfl (hls.trans X0.1.1.2.2.1.symm) rfl d (Nat.le_trans hR.1 X0.2.1.1) (Nat.le_trans (by show 2 * 0 + _ + 12 ≤ lo; omega) X0.2.1.2) ?_
  exact k H locs hP hD hS
theorem gS_ne {G : zG} {w k a : Nat} {o : Option Nat} (h : a ≠ w) : gS G w k o a = G a := if_neg h
theorem gS_eq {G : zG} {w k : Nat} {o : Option Nat} : gS G w k o w = fun j => if j = k then o else G w j := if_pos rfl
theorem z_fsetG {ad : Nat → Nat} {V : Nat → Int32} {L : Nat → Int64} {G : Nat → Option Nat} {ts : List Nat} {k : Nat} {o : Option Nat} (ht : ts[k]? = some 2) : (ts.mapIdx (fun k t => z_fv ad V L G k t)).set k (va_rf (o.map ad)) = ts.mapIdx (fun j t => z_fv ad V L (fun j => if j = k then o else G j) j t) := by
  apply List.ext_getElem?
  intro j
  rw [List.getElem?_set]
  by_cases hj : k = j
  · subst hj
    have hlt : k < ts.length := (List.getElem?_eq_some_iff.mp ht).1
    rw [if_pos rfl, List.length_mapIdx, if_pos hlt, List.getElem?_mapIdx, ht]
    simp [z_fv]
  · simp only [if_neg hj, List.getElem?_mapIdx]
    cases hv : ts[j]? with
    | none => rfl
    | some v =>
      have hne : ¬ j = k := fun e => hj e.symm
      simp [z_fv, hne]
theorem zWF.setG {n : Nat} {K : Nat → Nat} {G : zG} (h : zWF n K G) {w k ci cv : Nat} {o : Option Nat} (hw : w < n ∧ K w = ci) (h100 : ci < 100) (hr : (zrt ci)[k]? = some (some cv)) (ho : o = none ∨ ∃ v, o = some v ∧ v < n ∧ K v = cv) : zWF n K (gS G w k o) := by
  intro a ha
  by_cases e : a = w
  · subst e
    rw [gS_eq]
    refine ⟨fun j c hj => ?_, fun h104 => by omega⟩
    by_cases ej : j = k
    · subst ej
      rw [hw.2, hr] at hj
      cases hj
      simp only [if_pos]
      exact ho
    · simp only [if_neg ej]
      exact (h a ha).1 j c hj
  · rw [gS_ne e]
    exact h a ha
theorem a_put {M : zM} {D : va_G} {cy : Nat → ClassId} {ad : Nat → Nat} {n c q : Nat} {K N : Nat → Nat} {G : zG} {V : zI} {L : zL} {cc : ByteArray} {nL : Nat} {own : String} {fr lo pc : Nat} {ls : Array Slot} {st : List Value} {w ci k0 idx Nf cv : Nat} {o : Option Nat} {C : String} {T : u_T} {ty : FieldType} {ty0 : Nat → FieldType} (X : RXA M D cy ad n c q K N G cc nL own fr lo) (hw : w < n ∧ K w = ci) (f : ((zcl[ci]? = some (C, T, Nf) ∧ ci < 100 ∧ ∀ q ∈ u_ws C T Nf, q ∈ zTB) ∧ k0 < Nf ∧ (zft ci)[k0]? = some 2 ∧ (T k0).1 = C) ∧ zLk own idx C (T k0).2.1 (T k0).2.2.1) (g : (∀ k, k < Nf → parseFieldDescriptor (T k).2.2.1 = some (ty0 k)) ∧ (∀ a, a < Nf → ∀ b, b < Nf → a ≠ b → (T a).2.1 ≠ (T b).2.1)) (hfin : (T k0).2.2.2 = false) (hr : (zrt ci)[k0]? = some (some cv)) (ho : o = none ∨ ∃ v, o = some v ∧ v < n ∧ K v = cv) (hd : parseFieldDescriptor (T k0).2.2.1 = some ty) (hn : narrow ty (va_rf (o.map ad)) = va_rf (o.map ad)) (hfit : fits ty (va_rf (o.map ad)) = true) (d : decode cc pc = .ok (.putfield idx, 3)) (k : RXA M D cy ad n c q K N (gS G w k0 o) cc nL own fr lo → RG (zMb M c q) (zC D cy ad n K N (gS G w k0 o)) V L (pc + 3) ls st) : RG (zMb M c q) (zC D cy ad n K N G) V L pc ls (va_rf (o.map ad) :: .ref (ad w) :: st) := by
  have X0 := X.1.1
  have XN := X.1.2.1
  have XW := X.1.2.2
  have XS := X.2
  obtain ⟨p, l, e, Ro, s, m, args, below, meth, co, Q, A, c00, q00⟩ := M
  intro H locs hP hD hS
  obtain ⟨qq, hq, he⟩ := z_at (O := (zC D cy ad n K N G)) (V := V) (L := L) (w := w) (List.mem_range.mpr hw.1)
  rw [z_cellO (O := (zC D cy ad n K N G)) hw.2 f.1.1.2.1] at he
  have hlen : k0 < ((zft ci).mapIdx (fun k t => z_fv ad (V w) (L w) (G w) k t)).length := by
    rw [List.length_mapIdx]; exact (List.getElem?_eq_some_iff.mp f.1.2.2.1).1
  have hset : (z_w (zC D cy ad n K N G) V L).set qq (ad w, .inr (ci, ((zft ci).mapIdx (fun k t => z_fv ad (V w) (L w) (G w) k t)).set k0 (va_rf (o.map ad)))) = z_w (zC D cy ad n K N (gS G w k0 o)) V L := by
    rw [z_fsetG f.1.2.2.1]
    have h1 := z_cellO (O := (zC D cy ad n K N (gS G w k0 o))) (V := V) (L := L) hw.2 f.1.1.2.1
    have h1 : z_cell (zC D cy ad n K N (gS G w k0 o)) V L w = .inr (ci, (zft ci).mapIdx (fun j t => z_fv ad (V w) (L w) (gS G w k0 o w) j t)) := h1
    rw [gS_eq] at h1
    rw [← h1]
    exact z_mapset (f := fun u => (z_ad (zC D cy ad n K N G) u, z_cell (zC D cy ad n K N G) V L u)) (g := fun u => (z_ad (zC D cy ad n K N (gS G w k0 o)) u, z_cell (zC D cy ad n K N (gS G w k0 o)) V L u)) hq X0.1.2.2.2 (fun v hv => by simp only [z_cell, gS_ne hv])
  rcases f.2 with h | ⟨host, h⟩
  · refine va_put X0.1.1.1 X0.1.1.2.1 X0.1.1.2.2.2.2 f.1.1.2.2 ty0 g.1 g.2 X0.1.1.2.2.2.1 X0.1.2.1 hP hD hS qq he f.1.1.1 k0 f.1.2.1 (X0.1.1.2.2.2.2 _ h) (fun x h => by rw [← f.1.2.2.2]; exact h) hfin hd hn hfit hlen d (fun H1 locs1 hP hD hS => ?_)
    rw [hset] at hP hD
    exact k ⟨⟨⟨⟨X0.1.1, X0.1.2.1, X0.1.2.2.1, zC_nd⟩, X0.2.1, X0.2.2⟩, XN, XW.setG hw f.1.1.2.1 hr ho⟩, XS⟩ H1 locs1 hP hD hS
  · refine va_putN X0.1.1.1 X0.1.1.2.1 X0.1.1.2.2.2.2 f.1.1.2.2 ty0 g.1 g.2 X0.1.1.2.2.2.1 X0.1.2.1 hP hD hS qq he f.1.1.1 k0 f.1.2.1 (va_Nw.use rfl (XN _ h)) (fun x h => by rw [← f.1.2.2.2]; exact h) hfin hd hn hfit hlen d (fun H1 locs1 hP hD hS => ?_)
    rw [hset] at hP hD
    exact k ⟨⟨⟨⟨X0.1.1, X0.1.2.1, X0.1.2.2.1, zC_nd⟩, X0.2.1, X0.2.2⟩, XN, XW.setG hw f.1.1.2.1 hr ho⟩, XS⟩ H1 locs1 hP hD hS
theorem a_putF {M : zM} {D : va_G} {cy : Nat → ClassId} {ad : Nat → Nat} {n c q : Nat} {K N : Nat → Nat} {G : zG} {V : zI} {L : zL} {cc : ByteArray} {nL : Nat} {own : String} {fr lo pc : Nat} {ls : Array Slot} {st : List Value} {w ci k0 idx Nf cv : Nat} {o : Option Nat} {C : String} {T : u_T} {ty : FieldType} {ty0 : Nat → FieldType} (X : RXA M D cy ad n c q K N G cc nL own fr lo) (hw : w < n ∧ K w = ci) (f : ((zcl[ci]? = some (C, T, Nf) ∧ ci < 100 ∧ ∀ q ∈ u_ws C T Nf, q ∈ zTB) ∧ k0 < Nf ∧ (zft ci)[k0]? = some 2 ∧ (T k0).1 = C) ∧ Cond.fieldLink own idx C (T k0).2.1 (T k0).2.2.1 ∈ zTB) (g : (∀ k, k < Nf → parseFieldDescriptor (T k).2.2.1 = some (ty0 k)) ∧ (∀ a, a < Nf → ∀ b, b < Nf → a ≠ b → (T a).2.1 ≠ (T b).2.1)) (hfin : (T k0).2.2.2 = true) (hin : M.2.2.2.2.2.2.2.2.1.name = "<init>") (hCo : C = own) (hr : (zrt ci)[k0]? = some (some cv)) (ho : o = none ∨ ∃ v, o = some v ∧ v < n ∧ K v = cv) (hd : parseFieldDescriptor (T k0).2.2.1 = some ty) (hn : narrow ty (va_rf (o.map ad)) = va_rf (o.map ad)) (hfit : fits ty (va_rf (o.map ad)) = true) (d : decode cc pc = .ok (.putfield idx, 3)) (k : RXA M D cy ad n c q K N (gS G w k0 o) cc nL own fr lo → RG (zMb M c q) (zC D cy ad n K N (gS G w k0 o)) V L (pc + 3) ls st) : RG (zMb M c q) (zC D cy ad n K N G) V L pc ls (va_rf (o.map ad) :: .ref (ad w) :: st) := by
  have X0 := X.1.1
  have XN := X.1.2.1
  have XW := X.1.2.2
  have XS := X.2
  obtain ⟨p, l, e, Ro, s, m, args, below, meth, co, Q, A, c00, q00⟩ := M
  intro H locs hP hD hS
  obtain ⟨qq, hq, he⟩ := z_at (O := (zC D cy ad n K N G)) (V := V) (L := L) (w := w) (List.mem_range.mpr hw.1)
  rw [z_cellO (O := (zC D cy ad n K N G)) hw.2 f.1.1.2.1] at he
  have hlen : k0 < ((zft ci).mapIdx (fun k t => z_fv ad (V w) (L w) (G w) k t)).length := by
    rw [List.length_mapIdx]; exact (List.getElem?_eq_some_iff.mp f.1.2.2.1).1
  have hset : (z_w (zC D cy ad n K N G) V L).set qq (ad w, .inr (ci, ((zft ci).mapIdx (fun k t => z_fv ad (V w) (L w) (G w) k t)).set k0 (va_rf (o.map ad)))) = z_w (zC D cy ad n K N (gS G w k0 o)) V L := by
    rw [z_fsetG f.1.2.2.1]
    have h1 := z_cellO (O := (zC D cy ad n K N (gS G w k0 o))) (V := V) (L := L) hw.2 f.1.1.2.1
    have h1 : z_cell (zC D cy ad n K N (gS G w k0 o)) V L w = .inr (ci, (zft ci).mapIdx (fun j t => z_fv ad (V w) (L w) (gS G w k0 o w) j t)) := h1
    rw [gS_eq] at h1
    rw [← h1]
    exact z_mapset (f := fun u => (z_ad (zC D cy ad n K N G) u, z_cell (zC D cy ad n K N G) V L u)) (g := fun u => (z_ad (zC D cy ad n K N (gS G w k0 o)) u, z_cell (zC D cy ad n K N (gS G w k0 o)) V L u)) hq X0.1.2.2.2 (fun v hv => by simp only [z_cell, gS_ne hv])
  · refine va_putF X0.1.1.1 X0.1.1.2.1 X0.1.1.2.2.2.2 f.1.1.2.2 ty0 g.1 g.2 X0.1.1.2.2.2.1 X0.1.2.1 hP hD hS qq he f.1.1.1 k0 f.1.2.1 (X0.1.1.2.2.2.2 _ f.2) (fun x h => by rw [← f.1.2.2.2]; exact h) hfin hin (f.1.2.2.2.trans hCo) hd hn hfit hlen d (fun H1 locs1 hP hD hS => ?_)
    rw [hset] at hP hD
    exact k ⟨⟨⟨⟨X0.1.1, X0.1.2.1, X0.1.2.2.1, zC_nd⟩, X0.2.1, X0.2.2⟩, XN, XW.setG hw f.1.1.2.1 hr ho⟩, XS⟩ H1 locs1 hP hD hS
