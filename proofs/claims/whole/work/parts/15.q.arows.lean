theorem a_newi {M : zM} {D : va_G} {cy : Nat → ClassId} {ad : Nat → Nat} {n c q : Nat} {K N : Nat → Nat} {G : zG} {V : zI} {L : zL} {cc : ByteArray} {nL : Nat} {own : String} {fr lo pc : Nat} {ls : Array Slot} {st : List Value} {i : Int32} (X : RXA M D cy ad n c q K N G cc nL own fr lo) (hi : ¬ i < 0 ∧ i.toNatClampNeg ≤ 100000) (hw : Cond.arrayClass .int ∈ zTB) (hR : c + 1 ≤ M.2.2.2.1.cells ∧ q + i.toNatClampNeg ≤ M.2.2.2.1.slots) (d : decode cc pc = .ok (.newarray .int, 2))
    (k : ∀ ad' : Nat → Nat, (∀ w, w < n → ad' w = ad w) → RXA M D cy ad' (n + 1) (c + 1) (q + i.toNatClampNeg) (kU K n 100) (kU N n i.toNatClampNeg) (kU G n zn0) cc nL own fr lo → RG (zMb M (c + 1) (q + i.toNatClampNeg)) (zC D cy ad' (n + 1) (kU K n 100) (kU N n i.toNatClampNeg) (kU G n zn0)) (kU V n (fun _ => 0)) (kU L n (fun _ => 0)) (pc + 2) ls (.ref (ad' n) :: st)) : RG (zMb M c q) (zC D cy ad n K N G) V L pc ls (.int i :: st) := by
  have X0 := X.1.1
  have XN := X.1.2.1
  have XW := X.1.2.2
  have XS := X.2
  obtain ⟨p, l, e, Ro, s, m, args, below, meth, co, Q, A, c00, q00⟩ := M
  intro H locs hP hD hS
  refine va_newa (atype := .int) X0.1.1.1 X0.1.1.2.1 (X0.1.1.2.2.2.2 _ hw) (ty := .int) rfl X0.1.2.1 hP hD hS X0.1.2.2.1 (a0 := (i.toNatClampNeg, .inl (fun _ => 0))) (fun cA => by rw [vp_cell_i]; rfl) hi.1 rfl (by show i.toNatClampNeg * 4 ≤ _; omega) hR.1 hR.2 d (fun a cA H1 hK hP hD hS => ?_)
  have hcA : cA = cy 100 := by
    have h1 := (hK.2 4 (cA, .int) rfl).2
    have h2 := (X0.1.2.1.2 0 (cy 100, .int) rfl).2
    exact Option.some.inj (h1.symm.trans h2)
  subst hcA
  have had : ∀ w, w < n → (fun w => if w = n then a else ad w) w = ad w := fun w h => if_neg (by omega)
  have hz := z_push (D := D) (cy := cy) (ad' := fun w => if w = n then a else ad w) (K' := (kU K n 100)) (N' := (kU N n i.toNatClampNeg)) (G' := (kU G n zn0)) (V := V) (V' := (kU V n (fun _ => 0))) (L := L) (L' := (kU L n (fun _ => 0))) (N := N) XW had (fun w h => kU_ne (by omega)) (fun w h => kU_ne (by omega)) (fun w h => kU_ne (by omega)) (fun w h => kU_ne (by omega)) (fun w h => kU_ne (by omega))
  have hc1 : z_cell (zC D cy (fun w => if w = n then a else ad w) (n + 1) (kU K n 100) (kU N n i.toNatClampNeg) (kU G n zn0)) (kU V n (fun _ => 0)) (kU L n (fun _ => 0)) n = .inl (cy 100, i.toNatClampNeg, .inl (fun _ => 0)) := by
    rw [z_cellI (kd := 100) (by exact kU_eq) (by decide)]
    show (Sum.inl (cy 100, (kU N n i.toNatClampNeg) n, .inl ((kU V n (fun _ => 0)) n)) : va_E) = _
    rw [kU_eq, kU_eq]
  rw [hc1] at hz
  have hz : z_w (zC D cy ad n K N G) V L ++ [(a, .inl (cy 100, i.toNatClampNeg, .inl (fun _ => 0)))] = z_w (zC D cy (fun w => if w = n then a else ad w) (n + 1) (kU K n 100) (kU N n i.toNatClampNeg) (kU G n zn0)) (kU V n (fun _ => 0)) (kU L n (fun _ => 0)) := by
    rw [← hz]
    simp
  rw [hz] at hP hD
  have hk := k (fun w => if w = n then a else ad w) had ⟨⟨⟨⟨X0.1.1, X0.1.2.1, X0.1.2.2.1, zC_nd⟩, X0.2.1, ⟨hR.1, hR.2⟩⟩, XN, XW.push 100⟩, XS⟩ H1 locs hP hD hS
  have e1 : (if n = n then a else ad n) = a := if_pos rfl
  simp only [e1] at hk
  exact hk
theorem a_newz {M : zM} {D : va_G} {cy : Nat → ClassId} {ad : Nat → Nat} {n c q : Nat} {K N : Nat → Nat} {G : zG} {V : zI} {L : zL} {cc : ByteArray} {nL : Nat} {own : String} {fr lo pc : Nat} {ls : Array Slot} {st : List Value} {i : Int32} (X : RXA M D cy ad n c q K N G cc nL own fr lo) (hi : ¬ i < 0 ∧ i.toNatClampNeg ≤ 100000) (hw : Cond.arrayClass .boolean ∈ zTB) (hR : c + 1 ≤ M.2.2.2.1.cells ∧ q + i.toNatClampNeg ≤ M.2.2.2.1.slots) (d : decode cc pc = .ok (.newarray .boolean, 2))
    (k : ∀ ad' : Nat → Nat, (∀ w, w < n → ad' w = ad w) → RXA M D cy ad' (n + 1) (c + 1) (q + i.toNatClampNeg) (kU K n 102) (kU N n i.toNatClampNeg) (kU G n zn0) cc nL own fr lo → RG (zMb M (c + 1) (q + i.toNatClampNeg)) (zC D cy ad' (n + 1) (kU K n 102) (kU N n i.toNatClampNeg) (kU G n zn0)) (kU V n (fun _ => 0)) (kU L n (fun _ => 0)) (pc + 2) ls (.ref (ad' n) :: st)) : RG (zMb M c q) (zC D cy ad n K N G) V L pc ls (.int i :: st) := by
  have X0 := X.1.1
  have XN := X.1.2.1
  have XW := X.1.2.2
  have XS := X.2
  obtain ⟨p, l, e, Ro, s, m, args, below, meth, co, Q, A, c00, q00⟩ := M
  intro H locs hP hD hS
  refine va_newa (atype := .boolean) X0.1.1.1 X0.1.1.2.1 (X0.1.1.2.2.2.2 _ hw) (ty := .boolean) rfl X0.1.2.1 hP hD hS X0.1.2.2.1 (a0 := (i.toNatClampNeg, .inl (fun _ => 0))) (fun cA => by rw [vp_cell_i]; rfl) hi.1 rfl (by show i.toNatClampNeg * 1 ≤ _; omega) hR.1 hR.2 d (fun a cA H1 hK hP hD hS => ?_)
  have hcA : cA = cy 102 := by
    have h1 := (hK.2 4 (cA, .boolean) rfl).2
    have h2 := (X0.1.2.1.2 2 (cy 102, .boolean) rfl).2
    exact Option.some.inj (h1.symm.trans h2)
  subst hcA
  have had : ∀ w, w < n → (fun w => if w = n then a else ad w) w = ad w := fun w h => if_neg (by omega)
  have hz := z_push (D := D) (cy := cy) (ad' := fun w => if w = n then a else ad w) (K' := (kU K n 102)) (N' := (kU N n i.toNatClampNeg)) (G' := (kU G n zn0)) (V := V) (V' := (kU V n (fun _ => 0))) (L := L) (L' := (kU L n (fun _ => 0))) (N := N) XW had (fun w h => kU_ne (by omega)) (fun w h => kU_ne (by omega)) (fun w h => kU_ne (by omega)) (fun w h => kU_ne (by omega)) (fun w h => kU_ne (by omega))
  have hc1 : z_cell (zC D cy (fun w => if w = n then a else ad w) (n + 1) (kU K n 102) (kU N n i.toNatClampNeg) (kU G n zn0)) (kU V n (fun _ => 0)) (kU L n (fun _ => 0)) n = .inl (cy 102, i.toNatClampNeg, .inl (fun _ => 0)) := by
    rw [z_cellI (kd := 102) (by exact kU_eq) (by decide)]
    show (Sum.inl (cy 102, (kU N n i.toNatClampNeg) n, .inl ((kU V n (fun _ => 0)) n)) : va_E) = _
    rw [kU_eq, kU_eq]
  rw [hc1] at hz
  have hz : z_w (zC D cy ad n K N G) V L ++ [(a, .inl (cy 102, i.toNatClampNeg, .inl (fun _ => 0)))] = z_w (zC D cy (fun w => if w = n then a else ad w) (n + 1) (kU K n 102) (kU N n i.toNatClampNeg) (kU G n zn0)) (kU V n (fun _ => 0)) (kU L n (fun _ => 0)) := by
    rw [← hz]
    simp
  rw [hz] at hP hD
  have hk := k (fun w => if w = n then a else ad w) had ⟨⟨⟨⟨X0.1.1, X0.1.2.1, X0.1.2.2.1, zC_nd⟩, X0.2.1, ⟨hR.1, hR.2⟩⟩, XN, XW.push 102⟩, XS⟩ H1 locs hP hD hS
  have e1 : (if n = n then a else ad n) = a := if_pos rfl
  simp only [e1] at hk
  exact hk
theorem a_newb {M : zM} {D : va_G} {cy : Nat → ClassId} {ad : Nat → Nat} {n c q : Nat} {K N : Nat → Nat} {G : zG} {V : zI} {L : zL} {cc : ByteArray} {nL : Nat} {own : String} {fr lo pc : Nat} {ls : Array Slot} {st : List Value} {i : Int32} (X : RXA M D cy ad n c q K N G cc nL own fr lo) (hi : ¬ i < 0 ∧ i.toNatClampNeg ≤ 100000) (hw : Cond.arrayClass .byte ∈ zTB) (hR : c + 1 ≤ M.2.2.2.1.cells ∧ q + i.toNatClampNeg ≤ M.2.2.2.1.slots) (d : decode cc pc = .ok (.newarray .byte, 2))
    (k : ∀ ad' : Nat → Nat, (∀ w, w < n → ad' w = ad w) → RXA M D cy ad' (n + 1) (c + 1) (q + i.toNatClampNeg) (kU K n 101) (kU N n i.toNatClampNeg) (kU G n zn0) cc nL own fr lo → RG (zMb M (c + 1) (q + i.toNatClampNeg)) (zC D cy ad' (n + 1) (kU K n 101) (kU N n i.toNatClampNeg) (kU G n zn0)) (kU V n (fun _ => 0)) (kU L n (fun _ => 0)) (pc + 2) ls (.ref (ad' n) :: st)) : RG (zMb M c q) (zC D cy ad n K N G) V L pc ls (.int i :: st) := by
  have X0 := X.1.1
  have XN := X.1.2.1
  have XW := X.1.2.2
  have XS := X.2
  obtain ⟨p, l, e, Ro, s, m, args, below, meth, co, Q, A, c00, q00⟩ := M
  intro H locs hP hD hS
  refine va_newa (atype := .byte) X0.1.1.1 X0.1.1.2.1 (X0.1.1.2.2.2.2 _ hw) (ty := .byte) rfl X0.1.2.1 hP hD hS X0.1.2.2.1 (a0 := (i.toNatClampNeg, .inl (fun _ => 0))) (fun cA => by rw [vp_cell_i]; rfl) hi.1 rfl (by show i.toNatClampNeg * 1 ≤ _; omega) hR.1 hR.2 d (fun a cA H1 hK hP hD hS => ?_)
  have hcA : cA = cy 101 := by
    have h1 := (hK.2 4 (cA, .byte) rfl).2
    have h2 := (X0.1.2.1.2 1 (cy 101, .byte) rfl).2
    exact Option.some.inj (h1.symm.trans h2)
  subst hcA
  have had : ∀ w, w < n → (fun w => if w = n then a else ad w) w = ad w := fun w h => if_neg (by omega)
  have hz := z_push (D := D) (cy := cy) (ad' := fun w => if w = n then a else ad w) (K' := (kU K n 101)) (N' := (kU N n i.toNatClampNeg)) (G' := (kU G n zn0)) (V := V) (V' := (kU V n (fun _ => 0))) (L := L) (L' := (kU L n (fun _ => 0))) (N := N) XW had (fun w h => kU_ne (by omega)) (fun w h => kU_ne (by omega)) (fun w h => kU_ne (by omega)) (fun w h => kU_ne (by omega)) (fun w h => kU_ne (by omega))
  have hc1 : z_cell (zC D cy (fun w => if w = n then a else ad w) (n + 1) (kU K n 101) (kU N n i.toNatClampNeg) (kU G n zn0)) (kU V n (fun _ => 0)) (kU L n (fun _ => 0)) n = .inl (cy 101, i.toNatClampNeg, .inl (fun _ => 0)) := by
    rw [z_cellI (kd := 101) (by exact kU_eq) (by decide)]
    show (Sum.inl (cy 101, (kU N n i.toNatClampNeg) n, .inl ((kU V n (fun _ => 0)) n)) : va_E) = _
    rw [kU_eq, kU_eq]
  rw [hc1] at hz
  have hz : z_w (zC D cy ad n K N G) V L ++ [(a, .inl (cy 101, i.toNatClampNeg, .inl (fun _ => 0)))] = z_w (zC D cy (fun w => if w = n then a else ad w) (n + 1) (kU K n 101) (kU N n i.toNatClampNeg) (kU G n zn0)) (kU V n (fun _ => 0)) (kU L n (fun _ => 0)) := by
    rw [← hz]
    simp
  rw [hz] at hP hD
  have hk := k (fun w => if w = n then a else ad w) had ⟨⟨⟨⟨X0.1.1, X0.1.2.1, X0.1.2.2.1, zC_nd⟩, X0.2.1, ⟨hR.1, hR.2⟩⟩, XN, XW.push 101⟩, XS⟩ H1 locs hP hD hS
  have e1 : (if n = n then a else ad n) = a := if_pos rfl
  simp only [e1] at hk
  exact hk
theorem a_newl {M : zM} {D : va_G} {cy : Nat → ClassId} {ad : Nat → Nat} {n c q : Nat} {K N : Nat → Nat} {G : zG} {V : zI} {L : zL} {cc : ByteArray} {nL : Nat} {own : String} {fr lo pc : Nat} {ls : Array Slot} {st : List Value} {i : Int32} (X : RXA M D cy ad n c q K N G cc nL own fr lo) (hi : ¬ i < 0 ∧ i.toNatClampNeg ≤ 100000) (hw : Cond.arrayClass .long ∈ zTB) (hR : c + 1 ≤ M.2.2.2.1.cells ∧ q + i.toNatClampNeg ≤ M.2.2.2.1.slots) (d : decode cc pc = .ok (.newarray .long, 2))
    (k : ∀ ad' : Nat → Nat, (∀ w, w < n → ad' w = ad w) → RXA M D cy ad' (n + 1) (c + 1) (q + i.toNatClampNeg) (kU K n 103) (kU N n i.toNatClampNeg) (kU G n zn0) cc nL own fr lo → RG (zMb M (c + 1) (q + i.toNatClampNeg)) (zC D cy ad' (n + 1) (kU K n 103) (kU N n i.toNatClampNeg) (kU G n zn0)) (kU V n (fun _ => 0)) (kU L n (fun _ => 0)) (pc + 2) ls (.ref (ad' n) :: st)) : RG (zMb M c q) (zC D cy ad n K N G) V L pc ls (.int i :: st) := by
  have X0 := X.1.1
  have XN := X.1.2.1
  have XW := X.1.2.2
  have XS := X.2
  obtain ⟨p, l, e, Ro, s, m, args, below, meth, co, Q, A, c00, q00⟩ := M
  intro H locs hP hD hS
  refine va_newa (atype := .long) X0.1.1.1 X0.1.1.2.1 (X0.1.1.2.2.2.2 _ hw) (ty := .long) rfl X0.1.2.1 hP hD hS X0.1.2.2.1 (a0 := (i.toNatClampNeg, .inr (.inl (fun _ => 0)))) (fun cA => by rw [vp_cell_l]; rfl) hi.1 rfl (by show i.toNatClampNeg * 8 ≤ _; omega) hR.1 hR.2 d (fun a cA H1 hK hP hD hS => ?_)
  have hcA : cA = cy 103 := by
    have h1 := (hK.2 4 (cA, .long) rfl).2
    have h2 := (X0.1.2.1.2 3 (cy 103, .long) rfl).2
    exact Option.some.inj (h1.symm.trans h2)
  subst hcA
  have had : ∀ w, w < n → (fun w => if w = n then a else ad w) w = ad w := fun w h => if_neg (by omega)
  have hz := z_push (D := D) (cy := cy) (ad' := fun w => if w = n then a else ad w) (K' := (kU K n 103)) (N' := (kU N n i.toNatClampNeg)) (G' := (kU G n zn0)) (V := V) (V' := (kU V n (fun _ => 0))) (L := L) (L' := (kU L n (fun _ => 0))) (N := N) XW had (fun w h => kU_ne (by omega)) (fun w h => kU_ne (by omega)) (fun w h => kU_ne (by omega)) (fun w h => kU_ne (by omega)) (fun w h => kU_ne (by omega))
  have hc1 : z_cell (zC D cy (fun w => if w = n then a else ad w) (n + 1) (kU K n 103) (kU N n i.toNatClampNeg) (kU G n zn0)) (kU V n (fun _ => 0)) (kU L n (fun _ => 0)) n = .inl (cy 103, i.toNatClampNeg, .inr (.inl (fun _ => 0))) := by
    rw [z_cellL (by exact kU_eq)]
    show (Sum.inl (cy 103, (kU N n i.toNatClampNeg) n, .inr (.inl ((kU L n (fun _ => 0)) n))) : va_E) = _
    rw [kU_eq, kU_eq]
  rw [hc1] at hz
  have hz : z_w (zC D cy ad n K N G) V L ++ [(a, .inl (cy 103, i.toNatClampNeg, .inr (.inl (fun _ => 0))))] = z_w (zC D cy (fun w => if w = n then a else ad w) (n + 1) (kU K n 103) (kU N n i.toNatClampNeg) (kU G n zn0)) (kU V n (fun _ => 0)) (kU L n (fun _ => 0)) := by
    rw [← hz]
    simp
  rw [hz] at hP hD
  have hk := k (fun w => if w = n then a else ad w) had ⟨⟨⟨⟨X0.1.1, X0.1.2.1, X0.1.2.2.1, zC_nd⟩, X0.2.1, ⟨hR.1, hR.2⟩⟩, XN, XW.push 103⟩, XS⟩ H1 locs hP hD hS
  have e1 : (if n = n then a else ad n) = a := if_pos rfl
  simp only [e1] at hk
  exact hk
