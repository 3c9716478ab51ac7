def z_row (V : zI) (w : Nat) (f : Nat → Int32) : zI := fun a => if a = w then f else V a
theorem z_row_ne {V : zI} {w v : Nat} {f : Nat → Int32} (h : v ≠ w) : z_row V w f v = V v := if_neg h
theorem z_row_eq {V : zI} {w : Nat} {f : Nat → Int32} : z_row V w f w = f := if_pos rfl
theorem c_max {M : zM} {D : va_G} {cy : Nat → ClassId} {ad : Nat → Nat} {n : Nat} {K N : Nat → Nat} {G : zG} {V : zI} {L : zL} {cc : ByteArray} {nL : Nat} {own : String} {fr lo pc : Nat} {ls : Array Slot} {st : List Value} {idx : Nat} {x y : Int32} (X : RXc M D cy ad n K N G cc nL own fr lo) (hls : ls.size = nL) (g : Cond.methodLink own idx Lib.Math.max.name ∈ zTB ∧ Cond.static Lib.Math.max.name ∈ zTB ∧ Cond.initialized "java/lang/Math" ∈ zTB ∧ Cond.code Lib.Math.max.name Lib.Math.max.code 2 (some .int) ∈ zTB) (hR : 1 ≤ fr ∧ (st.map fun v => v.category).sum + 13 ≤ lo) (d : decode cc pc = .ok (.invokestatic idx, 3)) (k : RG M (zC D cy ad n K N G) V L (pc + 3) ls (.int (if x < y then y else x) :: st)) : RG M (zC D cy ad n K N G) V L pc ls (.int y :: .int x :: st) := by
  have X0 := X.1
  obtain ⟨p, l, e, Ro, s, m, args, below, meth, c, Q, A, cells, slots⟩ := M
  exact fun H locs hP hD hS => va_mmax X0.1.1.1 X0.1.1.2.1 (X0.1.1.2.2.1.trans hls.symm) X0.1.1.2.2.2.1 (X0.1.1.2.2.2.2 _ g.1) (X0.1.1.2.2.2.2 _ g.2.1) (X0.1.1.2.2.2.2 _ g.2.2.1) (X0.1.1.2.2.2.2 _ g.2.2.2) (Nat.le_trans hR.1 X0.2.1.1) (Nat.le_trans hR.2 X0.2.1.2) X0.2.2.1 X0.2.2.2 d (k H locs hP hD hS)
theorem c_min {M : zM} {D : va_G} {cy : Nat → ClassId} {ad : Nat → Nat} {n : Nat} {K N : Nat → Nat} {G : zG} {V : zI} {L : zL} {cc : ByteArray} {nL : Nat} {own : String} {fr lo pc : Nat} {ls : Array Slot} {st : List Value} {idx : Nat} {x y : Int32} (X : RXc M D cy ad n K N G cc nL own fr lo) (hls : ls.size = nL) (g : Cond.methodLink own idx Lib.Math.min.name ∈ zTB ∧ Cond.static Lib.Math.min.name ∈ zTB ∧ Cond.initialized "java/lang/Math" ∈ zTB ∧ Cond.code Lib.Math.min.name Lib.Math.min.code 2 (some .int) ∈ zTB) (hR : 1 ≤ fr ∧ (st.map fun v => v.category).sum + 13 ≤ lo) (d : decode cc pc = .ok (.invokestatic idx, 3)) (k : RG M (zC D cy ad n K N G) V L (pc + 3) ls (.int (if y < x then y else x) :: st)) : RG M (zC D cy ad n K N G) V L pc ls (.int y :: .int x :: st) := by
  have X0 := X.1
  obtain ⟨p, l, e, Ro, s, m, args, below, meth, c, Q, A, cells, slots⟩ := M
  exact fun H locs hP hD hS => va_mmin X0.1.1.1 X0.1.1.2.1 (X0.1.1.2.2.1.trans hls.symm) X0.1.1.2.2.2.1 (X0.1.1.2.2.2.2 _ g.1) (X0.1.1.2.2.2.2 _ g.2.1) (X0.1.1.2.2.2.2 _ g.2.2.1) (X0.1.1.2.2.2.2 _ g.2.2.2) (Nat.le_trans hR.1 X0.2.1.1) (Nat.le_trans hR.2 X0.2.1.2) X0.2.2.1 X0.2.2.2 d (k H locs hP hD hS)
theorem c_maxl {M : zM} {D : va_G} {cy : Nat → ClassId} {ad : Nat → Nat} {n : Nat} {K N : Nat → Nat} {G : zG} {V : zI} {L : zL} {cc : ByteArray} {nL : Nat} {own : String} {fr lo pc : Nat} {ls : Array Slot} {st : List Value} {idx : Nat} {x y : Int64} (X : RXc M D cy ad n K N G cc nL own fr lo) (hls : ls.size = nL) (g : Cond.methodLink own idx Lib.MathLoose.max_long.x ∈ zTB ∧ Cond.static Lib.MathLoose.max_long.x ∈ zTB ∧ Cond.initialized "java/lang/Math" ∈ zTB ∧ Cond.code Lib.MathLoose.max_long.x Lib.MathLoose.max_long.code 4 (some .long) ∈ zTB) (hR : 1 ≤ fr ∧ (st.map fun v => v.category).sum + 15 ≤ lo) (d : decode cc pc = .ok (.invokestatic idx, 3)) (k : RG M (zC D cy ad n K N G) V L (pc + 3) ls (.long (if y < x then x else y) :: st)) : RG M (zC D cy ad n K N G) V L pc ls (.long y :: .long x :: st) := by
  have X0 := X.1
  obtain ⟨p, l, e, Ro, s, m, args, below, meth, c, Q, A, cells, slots⟩ := M
  exact fun H locs hP hD hS => va_mmax_long X0.1.1.1 X0.1.1.2.1 (X0.1.1.2.2.1.trans hls.symm) X0.1.1.2.2.2.1 (X0.1.1.2.2.2.2 _ g.1) (X0.1.1.2.2.2.2 _ g.2.1) (X0.1.1.2.2.2.2 _ g.2.2.1) (X0.1.1.2.2.2.2 _ g.2.2.2) (Nat.le_trans hR.1 X0.2.1.1) (Nat.le_trans hR.2 X0.2.1.2) X0.2.2.1 X0.2.2.2 d (k H locs hP hD hS)
theorem c_minl {M : zM} {D : va_G} {cy : Nat → ClassId} {ad : Nat → Nat} {n : Nat} {K N : Nat → Nat} {G : zG} {V : zI} {L : zL} {cc : ByteArray} {nL : Nat} {own : String} {fr lo pc : Nat} {ls : Array Slot} {st : List Value} {idx : Nat} {x y : Int64} (X : RXc M D cy ad n K N G cc nL own fr lo) (hls : ls.size = nL) (g : Cond.methodLink own idx Lib.MathLoose.min_long.x ∈ zTB ∧ Cond.static Lib.MathLoose.min_long.x ∈ zTB ∧ Cond.initialized "java/lang/Math" ∈ zTB ∧ Cond.code Lib.MathLoose.min_long.x Lib.MathLoose.min_long.code 4 (some .long) ∈ zTB) (hR : 1 ≤ fr ∧ (st.map fun v => v.category).sum + 15 ≤ lo) (d : decode cc pc = .ok (.invokestatic idx, 3)) (k : RG M (zC D cy ad n K N G) V L (pc + 3) ls (.long (if y < x then y else x) :: st)) : RG M (zC D cy ad n K N G) V L pc ls (.long y :: .long x :: st) := by
  have X0 := X.1
  obtain ⟨p, l, e, Ro, s, m, args, below, meth, c, Q, A, cells, slots⟩ := M
  exact fun H locs hP hD hS => va_mmin_long X0.1.1.1 X0.1.1.2.1 (X0.1.1.2.2.1.trans hls.symm) X0.1.1.2.2.2.1 (X0.1.1.2.2.2.2 _ g.1) (X0.1.1.2.2.2.2 _ g.2.1) (X0.1.1.2.2.2.2 _ g.2.2.1) (X0.1.1.2.2.2.2 _ g.2.2.2) (Nat.le_trans hR.1 X0.2.1.1) (Nat.le_trans hR.2 X0.2.1.2) X0.2.2.1 X0.2.2.2 d (k H locs hP hD hS)
theorem c_copy {M : zM} {D : va_G} {cy : Nat → ClassId} {ad : Nat → Nat} {n : Nat} {K N : Nat → Nat} {G : zG} {V : zI} {L : zL} {cc : ByteArray} {nL : Nat} {own : String} {fr lo pc : Nat} {ls : Array Slot} {st : List Value} {idx w0 w1 : Nat} {sp dp cn : Int32} (X : RXc M D cy ad n K N G cc nL own fr lo) (hls : ls.size = nL) (g : Cond.methodLink own idx arraycopyName ∈ zTB ∧ Cond.native arraycopyName ∈ zTB ∧ Cond.static arraycopyName ∈ zTB ∧ Cond.initialized "java/lang/System" ∈ zTB) (hw0 : w0 < n ∧ K w0 = 100) (hw1 : w1 < n ∧ K w1 = 100) (hb : ¬ sp < 0 ∧ ¬ dp < 0 ∧ ¬ cn < 0 ∧ sp.toNatClampNeg + cn.toNatClampNeg ≤ N w0 ∧ dp.toNatClampNeg + cn.toNatClampNeg ≤ N w1) (hR : 1 ≤ fr ∧ (st.map fun v => v.category).sum + (nativeFrameWords "java/lang/System" "arraycopy" 5 + 11) ≤ lo) (d : decode cc pc = .ok (.invokestatic idx, 3)) (k : RG M (zC D cy ad n K N G) (z_row V w1 (va_cpy (V w0) (V w1) sp.toNatClampNeg dp.toNatClampNeg cn.toNatClampNeg)) L (pc + 3) ls st) : RG M (zC D cy ad n K N G) V L pc ls (.int cn :: .int dp :: .ref (ad w1) :: .int sp :: .ref (ad w0) :: st) := by
  have X := X.1
  obtain ⟨p, l, e, Ro, s, m, args, below, meth, c, Q, A, cells, slots⟩ := M
  intro H locs hP hD hS
  obtain ⟨q0, hq0, he0⟩ := z_at (O := (zC D cy ad n K N G)) (V := V) (L := L) (w := w0) (List.mem_range.mpr hw0.1)
  obtain ⟨q, hq, he⟩ := z_at (O := (zC D cy ad n K N G)) (V := V) (L := L) (w := w1) (List.mem_range.mpr hw1.1)
  rw [z_cellI (O := (zC D cy ad n K N G)) hw0.2 (Or.inl rfl)] at he0
  rw [z_cellI (O := (zC D cy ad n K N G)) hw1.2 (Or.inl rfl)] at he
  refine va_copyi X.1.1.1 X.1.1.2.1 (X.1.1.2.2.1.trans hls.symm) X.1.1.2.2.2.1 (X.1.1.2.2.2.2 _ g.1) (X.1.1.2.2.2.2 _ g.2.1) (X.1.1.2.2.2.2 _ g.2.2.1) (X.1.1.2.2.2.2 _ g.2.2.2) X.1.2.1 hP hD hS q0 q 0 0 he0 he rfl rfl rfl hb.1 hb.2.1 hb.2.2.1 hb.2.2.2.1 hb.2.2.2.2 (fun i hi => rfl) (Nat.le_trans hR.1 X.2.1.1) (Nat.le_trans hR.2 X.2.1.2) d (fun H1 locs1 hP hD hS => ?_)
  have hset : (z_w (zC D cy ad n K N G) V L).set q (ad w1, .inl (cy 100, N w1, .inl (va_cpy (V w0) (V w1) sp.toNatClampNeg dp.toNatClampNeg cn.toNatClampNeg))) = z_w (zC D cy ad n K N G) (z_row V w1 (va_cpy (V w0) (V w1) sp.toNatClampNeg dp.toNatClampNeg cn.toNatClampNeg)) L := by
    have h1 := z_cellI (O := (zC D cy ad n K N G)) (V := z_row V w1 (va_cpy (V w0) (V w1) sp.toNatClampNeg dp.toNatClampNeg cn.toNatClampNeg)) (L := L) hw1.2 (Or.inl rfl)
    rw [z_row_eq] at h1
    have h2 : (Sum.inl (cy 100, N w1, Sum.inl (va_cpy (V w0) (V w1) sp.toNatClampNeg dp.toNatClampNeg cn.toNatClampNeg)) : va_E) = z_cell (zC D cy ad n K N G) (z_row V w1 (va_cpy (V w0) (V w1) sp.toNatClampNeg dp.toNatClampNeg cn.toNatClampNeg)) L w1 := h1.symm
    rw [h2]
    exact z_mapset (f := fun u => (z_ad (zC D cy ad n K N G) u, z_cell (zC D cy ad n K N G) V L u)) (g := fun u => (z_ad (zC D cy ad n K N G) u, z_cell (zC D cy ad n K N G) (z_row V w1 (va_cpy (V w0) (V w1) sp.toNatClampNeg dp.toNatClampNeg cn.toNatClampNeg)) L u)) hq X.1.2.2.2 (fun v hv => by rw [z_cell_ne (O := (zC D cy ad n K N G)) (V := V) (V' := z_row V w1 (va_cpy (V w0) (V w1) sp.toNatClampNeg dp.toNatClampNeg cn.toNatClampNeg)) (L := L) (L' := L) (z_row_ne hv) rfl])
  rw [hset] at hP hD
  exact k H1 locs1 hP hD hS
theorem RCi.ofF {D : va_G} {cy : Nat → ClassId} {ad : Nat → Nat} {n : Nat} {K N : Nat → Nat} {G : zG} {y : MethodName} {cc : ByteArray} {nL : Nat} {ty : FieldType} {fr lo : Nat} {As : List Value} {V : zI} {L : zL} {v : Int32} {V' : zI} {L' : zL} (hy : plainFor y = true) (hWF : zWF n K G) (hlen : (lg_sl As).length ≤ nL)
    (body : ∀ (M : zM), RXc M D cy ad n K N G cc nL y.cls fr lo → RZi M (zC D cy ad n K N G) ty v V' L' → ∀ ls : Array Slot, lv_has ls nL (lv_args 0 As) → RG M (zC D cy ad n K N G) V L 0 ls []) : RCi (zC D cy ad n K N G) y cc nL ty fr lo As V L v V' L' := by
  intro l sz
  refine va_MetF (cc := cc) (maxL := nL) (ret := some ty) hy rfl ?_
  intro p e s m args below meth c s₁ B hml hv
  obtain ⟨rfl, hsz, hP, hK, hD0, hNf⟩ := hv
  have hts := atoms_spec (ws := .code y cc nL (some ty) :: zTB) B.pre
  have hown : s.vm.findClass y.cls = some m.cls := findClass_of_methodNamed B.named
  subst hsz
  have hD := hD0.self (sz := s.heap.size)
  have hl := lv_entry As (n := nL) hlen
  rw [lg_entry_eq]
  generalize (lg_sl As ++ List.replicate (nL - (lg_sl As).length) Slot.unset).toArray = ls at hl ⊢
  exact body (p, l, e, (headSpec (.code y cc nL (some ty) :: zTB) (z_rm fr lo)).room, s, m, As.toArray, below, meth, c, _, va_A (z_w (zC D cy ad n K N G) V L) s.heap.size, 0, 0) ⟨⟨⟨⟨B.exec, B.bytes, hml, hown, fun w hw => hts w (List.mem_cons_of_mem _ hw)⟩, hK, fun q h => Or.inr h, zC_nd⟩, ⟨Nat.le_refl _, Nat.le_refl _⟩, ⟨Nat.zero_le _, Nat.zero_le _⟩⟩, hNf, hWF⟩ ⟨B.returns, B.notSynchronized, rfl⟩ ls hl s.heap [] hP hD va_S.rf
def zopt {α : Type} (o : Option Nat) (a : α) (f : Nat → α) : α := match o with
  | none => a
  | some v => f v
theorem z_optE {α : Type} {o : Option Nat} {a : Option α} {f : Nat → Option α} {r : α} (h : zopt o a f = some r) : (o = none ∧ a = some r) ∨ ∃ v, o = some v ∧ f v = some r := by
  cases o with
  | none => exact Or.inl ⟨rfl, h⟩
  | some v => exact Or.inr ⟨v, rfl, h⟩
theorem c_iret {M : zM} {D : va_G} {cy : Nat → ClassId} {ad : Nat → Nat} {n : Nat} {K N : Nat → Nat} {G : zG} {V : zI} {L : zL} {cc : ByteArray} {nL : Nat} {own : String} {fr lo pc : Nat} {ls : Array Slot} {ty : FieldType} {v : Int32} {r' : Int32 × zI × zL} (X : RXc M D cy ad n K N G cc nL own fr lo) (Z : RZi M (zC D cy ad n K N G) ty r'.1 r'.2.1 r'.2.2) (hf : some (v, V, L) = some r') (hn : narrow ty (.int v) = .int v) (d : decode cc pc = .ok (.ireturn, 1)) : RG M (zC D cy ad n K N G) V L pc ls [.int v] := by
  cases hf
  exact z_iret X.1 Z hn d
theorem c_lret {M : zM} {D : va_G} {cy : Nat → ClassId} {ad : Nat → Nat} {n : Nat} {K N : Nat → Nat} {G : zG} {V : zI} {L : zL} {cc : ByteArray} {nL : Nat} {own : String} {fr lo pc : Nat} {ls : Array Slot} {v : Int64} {r' : Int64 × zI × zL} (X : RXc M D cy ad n K N G cc nL own fr lo) (Z : RZl M (zC D cy ad n K N G) r'.1 r'.2.1 r'.2.2) (hf : some (v, V, L) = some r') (d : decode cc pc = .ok (.lreturn, 1)) : RG M (zC D cy ad n K N G) V L pc ls [.long v] := by
  cases hf
  exact z_lret X.1 Z d
theorem c_vret {M : zM} {D : va_G} {cy : Nat → ClassId} {ad : Nat → Nat} {n : Nat} {K N : Nat → Nat} {G : zG} {V : zI} {L : zL} {cc : ByteArray} {nL : Nat} {own : String} {fr lo pc : Nat} {ls : Array Slot} {r' : zI × zL} (X : RXc M D cy ad n K N G cc nL own fr lo) (Z : RZv M (zC D cy ad n K N G) r'.1 r'.2) (hf : some (V, L) = some r') (d : decode cc pc = .ok (.return_, 1)) : RG M (zC D cy ad n K N G) V L pc ls [] := by
  cases hf
  exact z_vret X.1 Z d
theorem c_iretS {M : zM} {D : va_G} {cy : Nat → ClassId} {ad : Nat → Nat} {n : Nat} {K N : Nat → Nat} {G : zG} {V : zI} {L : zL} {cc : ByteArray} {nL : Nat} {own : String} {fr lo pc : Nat} {ls : Array Slot} {ty : FieldType} {v r' : Int32} (X : RXc M D cy ad n K N G cc nL own fr lo) (Z : RZi M (zC D cy ad n K N G) ty r' V L) (hf : some v = some r') (hn : narrow ty (.int v) = .int v) (d : decode cc pc = .ok (.ireturn, 1)) : RG M (zC D cy ad n K N G) V L pc ls [.int v] := by
  cases hf
  exact z_iret X.1 Z hn d
theorem c_lretS {M : zM} {D : va_G} {cy : Nat → ClassId} {ad : Nat → Nat} {n : Nat} {K N : Nat → Nat} {G : zG} {V : zI} {L : zL} {cc : ByteArray} {nL : Nat} {own : String} {fr lo pc : Nat} {ls : Array Slot} {v r' : Int64} (X : RXc M D cy ad n K N G cc nL own fr lo) (Z : RZl M (zC D cy ad n K N G) r' V L) (hf : some v = some r') (d : decode cc pc = .ok (.lreturn, 1)) : RG M (zC D cy ad n K N G) V L pc ls [.long v] := by
  cases hf
  exact z_lret X.1 Z d
