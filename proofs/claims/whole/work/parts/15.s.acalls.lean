def a_Pre (D : va_G) (cy : Nat → ClassId) (O : zO) (As : List Value) (V : zI) (L : zL) (sz : Nat) : Array Value → State → Prop := va_Pc As (fun U => U.heap.size = sz ∧ va_P O.1 zcl (z_w O V L) U.heap ∧ va_K O.1 zcl (z_tys O) U ∧ va_D (fun _ => True) (z_w O V L) ∧ zNf U ∧ zSt U cy)
def a_B (D : va_G) (cy : Nat → ClassId) (ad : Nat → Nat) (n : Nat) (K : Nat → Nat) (r : zS) (A : Nat → Prop) : (Nat → Nat) → State → Prop := fun ad' t => ((∀ w, w < n → ad' w = ad w) ∧ zWF r.1 r.2.2.2.1 r.2.2.2.2.2.1 ∧ n ≤ r.1 ∧ ∀ w, w < n → r.2.2.2.1 w = K w) ∧ va_P D zcl (z_w (zC D cy ad' r.1 r.2.2.2.1 r.2.2.2.2.1 r.2.2.2.2.2.1) r.2.2.2.2.2.2.1 r.2.2.2.2.2.2.2) t.heap ∧ va_D A (z_w (zC D cy ad' r.1 r.2.2.2.1 r.2.2.2.2.1 r.2.2.2.2.2.1) r.2.2.2.2.2.2.1 r.2.2.2.2.2.2.2)
def a_rm (fr lo c q : Nat) : Room := { frames := fr, cells := c, slots := q, locals := lo }
def RAv (D : va_G) (cy : Nat → ClassId) (ad : Nat → Nat) (n : Nat) (K N : Nat → Nat) (G : zG) (y : MethodName) (cc : ByteArray) (nL : Nat) (fr lo : Nat) (As : List Value) (V : zI) (L : zL) (r : zS) : Prop := ∀ (l : Launch) (sz : Nat), Met l y (.code y cc nL (none) :: zTB) (a_rm fr lo r.2.1 r.2.2.1) (a_Pre D cy (zC D cy ad n K N G) As V L sz) (va_Qv (fun (_ : Nat → Nat) => True) (a_B D cy ad n K r (va_A (z_w (zC D cy ad n K N G) V L) sz)) (va_A (z_w (zC D cy ad n K N G) V L) sz)) r.2.1 r.2.2.1 (va_A (z_w (zC D cy ad n K N G) V L) sz)
def RZAv (M : zM) (D : va_G) (cy : Nat → ClassId) (ad : Nat → Nat) (n : Nat) (K : Nat → Nat) (r : zS) : Prop := match M with
  | (_, _, _, _, s, _, args, below, meth, _, Q, A, _, _) => meth.sig.returnType = none ∧ meth.locks = false ∧ Q = MQ below (va_Qv (fun (_ : Nat → Nat) => True) (a_B D cy ad n K r A) A) args s r.2.1 r.2.2.1 A
theorem RAv.of {D : va_G} {cy : Nat → ClassId} {ad : Nat → Nat} {n : Nat} {K N : Nat → Nat} {G : zG} {y : MethodName} {cc : ByteArray} {nL : Nat} {fr lo : Nat} {As : List Value} {V : zI} {L : zL} {r : zS} (hy : plainName y.cls = true) (hWF : zWF n K G) (hlen : (lg_sl As).length ≤ nL)
    (body : ∀ (M : zM), RXA M D cy ad n 0 0 K N G cc nL y.cls fr lo → RZAv M D cy ad n K r → (M.2.2.2.1.cells = r.2.1 ∧ M.2.2.2.1.slots = r.2.2.1) → M.2.2.2.2.2.2.2.2.1.name = y.name → ∀ ls : Array Slot, lv_has ls nL (lv_args 0 As) → RG (zMb M 0 0) (zC D cy ad n K N G) V L 0 ls []) : RAv D cy ad n K N G y cc nL fr lo As V L r := by
  intro l sz
  refine Met.ofW (cc := cc) (maxL := nL) (ret := none) hy rfl ?_
  intro p e s m args below meth c s₁ B hml hv
  obtain ⟨rfl, hsz, hP, hK, hD0, hNf, hSt⟩ := hv
  have hts := atoms_spec (ws := .code y cc nL (none) :: zTB) B.pre
  have hown : s.vm.findClass y.cls = some m.cls := findClass_of_methodNamed B.named
  have hnm : meth.name = y.name := (name_of_methodNamed B.named B.method).1
  subst hsz
  have hD := hD0.self (sz := s.heap.size)
  have hl := lv_entry As (n := nL) hlen
  rw [lg_entry_eq]
  generalize (lg_sl As ++ List.replicate (nL - (lg_sl As).length) Slot.unset).toArray = ls at hl ⊢
  exact body (p, l, e, (headSpec (.code y cc nL (none) :: zTB) (a_rm fr lo r.2.1 r.2.2.1)).room, s, m, As.toArray, below, meth, c, _, va_A (z_w (zC D cy ad n K N G) V L) s.heap.size, 0, 0) ⟨⟨⟨⟨⟨B.exec, B.bytes, hml, hown, fun w hw => hts w (List.mem_cons_of_mem _ hw)⟩, hK, fun q h => Or.inr h, zC_nd⟩, ⟨Nat.le_refl _, Nat.le_refl _⟩, ⟨Nat.zero_le _, Nat.zero_le _⟩⟩, hNf, hWF⟩, hSt⟩ ⟨B.returns, B.notSynchronized, rfl⟩ ⟨rfl, rfl⟩ hnm ls hl s.heap [] hP hD va_S.rf
def RAi (D : va_G) (cy : Nat → ClassId) (ad : Nat → Nat) (n : Nat) (K N : Nat → Nat) (G : zG) (y : MethodName) (cc : ByteArray) (nL : Nat) (ty : FieldType) (fr lo : Nat) (As : List Value) (V : zI) (L : zL) (v : Int32) (r : zS) : Prop := ∀ (l : Launch) (sz : Nat), Met l y (.code y cc nL (some ty) :: zTB) (a_rm fr lo r.2.1 r.2.2.1) (a_Pre D cy (zC D cy ad n K N G) As V L sz) (va_Qi (fun x (_ : Nat → Nat) => x = v) (a_B D cy ad n K r (va_A (z_w (zC D cy ad n K N G) V L) sz)) (va_A (z_w (zC D cy ad n K N G) V L) sz)) r.2.1 r.2.2.1 (va_A (z_w (zC D cy ad n K N G) V L) sz)
def RZAi (M : zM) (D : va_G) (cy : Nat → ClassId) (ad : Nat → Nat) (n : Nat) (K : Nat → Nat) (ty : FieldType) (v : Int32) (r : zS) : Prop := match M with
  | (_, _, _, _, s, _, args, below, meth, _, Q, A, _, _) => meth.sig.returnType = some ty ∧ meth.locks = false ∧ Q = MQ below (va_Qi (fun x (_ : Nat → Nat) => x = v) (a_B D cy ad n K r A) A) args s r.2.1 r.2.2.1 A
theorem RAi.of {D : va_G} {cy : Nat → ClassId} {ad : Nat → Nat} {n : Nat} {K N : Nat → Nat} {G : zG} {y : MethodName} {cc : ByteArray} {nL : Nat} {ty : FieldType} {fr lo : Nat} {As : List Value} {V : zI} {L : zL} {v : Int32} {r : zS} (hy : plainName y.cls = true) (hWF : zWF n K G) (hlen : (lg_sl As).length ≤ nL)
    (body : ∀ (M : zM), RXA M D cy ad n 0 0 K N G cc nL y.cls fr lo → RZAi M D cy ad n K ty v r → (M.2.2.2.1.cells = r.2.1 ∧ M.2.2.2.1.slots = r.2.2.1) → M.2.2.2.2.2.2.2.2.1.name = y.name → ∀ ls : Array Slot, lv_has ls nL (lv_args 0 As) → RG (zMb M 0 0) (zC D cy ad n K N G) V L 0 ls []) : RAi D cy ad n K N G y cc nL ty fr lo As V L v r := by
  intro l sz
  refine Met.ofW (cc := cc) (maxL := nL) (ret := some ty) hy rfl ?_
  intro p e s m args below meth c s₁ B hml hv
  obtain ⟨rfl, hsz, hP, hK, hD0, hNf, hSt⟩ := hv
  have hts := atoms_spec (ws := .code y cc nL (some ty) :: zTB) B.pre
  have hown : s.vm.findClass y.cls = some m.cls := findClass_of_methodNamed B.named
  have hnm : meth.name = y.name := (name_of_methodNamed B.named B.method).1
  subst hsz
  have hD := hD0.self (sz := s.heap.size)
  have hl := lv_entry As (n := nL) hlen
  rw [lg_entry_eq]
  generalize (lg_sl As ++ List.replicate (nL - (lg_sl As).length) Slot.unset).toArray = ls at hl ⊢
  exact body (p, l, e, (headSpec (.code y cc nL (some ty) :: zTB) (a_rm fr lo r.2.1 r.2.2.1)).room, s, m, As.toArray, below, meth, c, _, va_A (z_w (zC D cy ad n K N G) V L) s.heap.size, 0, 0) ⟨⟨⟨⟨⟨B.exec, B.bytes, hml, hown, fun w hw => hts w (List.mem_cons_of_mem _ hw)⟩, hK, fun q h => Or.inr h, zC_nd⟩, ⟨Nat.le_refl _, Nat.le_refl _⟩, ⟨Nat.zero_le _, Nat.zero_le _⟩⟩, hNf, hWF⟩, hSt⟩ ⟨B.returns, B.notSynchronized, rfl⟩ ⟨rfl, rfl⟩ hnm ls hl s.heap [] hP hD va_S.rf
def RAr (D : va_G) (cy : Nat → ClassId) (ad : Nat → Nat) (n : Nat) (K N : Nat → Nat) (G : zG) (y : MethodName) (cc : ByteArray) (nL : Nat) (fr lo : Nat) (As : List Value) (V : zI) (L : zL) (v : Nat) (r : zS) : Prop := ∀ (l : Launch) (sz : Nat), Met l y (.code y cc nL (some (.array .int)) :: zTB) (a_rm fr lo r.2.1 r.2.2.1) (a_Pre D cy (zC D cy ad n K N G) As V L sz) (va_Qr (fun (_ : Nat → Nat) => True) (fun u a t => (a = u v ∧ v < r.1 ∧ r.2.2.2.1 v = 100) ∧ a_B D cy ad n K r (va_A (z_w (zC D cy ad n K N G) V L) sz) u t) (va_A (z_w (zC D cy ad n K N G) V L) sz)) r.2.1 r.2.2.1 (va_A (z_w (zC D cy ad n K N G) V L) sz)
def RZAr (M : zM) (D : va_G) (cy : Nat → ClassId) (ad : Nat → Nat) (n : Nat) (K : Nat → Nat) (v : Nat) (r : zS) : Prop := match M with
  | (_, _, _, _, s, _, args, below, meth, _, Q, A, _, _) => meth.sig.returnType = some (.array .int) ∧ meth.locks = false ∧ Q = MQ below (va_Qr (fun (_ : Nat → Nat) => True) (fun u a t => (a = u v ∧ v < r.1 ∧ r.2.2.2.1 v = 100) ∧ a_B D cy ad n K r A u t) A) args s r.2.1 r.2.2.1 A
theorem RAr.of {D : va_G} {cy : Nat → ClassId} {ad : Nat → Nat} {n : Nat} {K N : Nat → Nat} {G : zG} {y : MethodName} {cc : ByteArray} {nL : Nat} {fr lo : Nat} {As : List Value} {V : zI} {L : zL} {v : Nat} {r : zS} (hy : plainName y.cls = true) (hWF : zWF n K G) (hlen : (lg_sl As).length ≤ nL)
    (body : ∀ (M : zM), RXA M D cy ad n 0 0 K N G cc nL y.cls fr lo → RZAr M D cy ad n K v r → (M.2.2.2.1.cells = r.2.1 ∧ M.2.2.2.1.slots = r.2.2.1) → M.2.2.2.2.2.2.2.2.1.name = y.name → ∀ ls : Array Slot, lv_has ls nL (lv_args 0 As) → RG (zMb M 0 0) (zC D cy ad n K N G) V L 0 ls []) : RAr D cy ad n K N G y cc nL fr lo As V L v r := by
  intro l sz
  refine Met.ofW (cc := cc) (maxL := nL) (ret := some (.array .int)) hy rfl ?_
  intro p e s m args below meth c s₁ B hml hv
  obtain ⟨rfl, hsz, hP, hK, hD0, hNf, hSt⟩ := hv
  have hts := atoms_spec (ws := .code y cc nL (some (.array .int)) :: zTB) B.pre
  have hown : s.vm.findClass y.cls = some m.cls := findClass_of_methodNamed B.named
  have hnm : meth.name = y.name := (name_of_methodNamed B.named B.method).1
  subst hsz
  have hD := hD0.self (sz := s.heap.size)
  have hl := lv_entry As (n := nL) hlen
  rw [lg_entry_eq]
  generalize (lg_sl As ++ List.replicate (nL - (lg_sl As).length) Slot.unset).toArray = ls at hl ⊢
  exact body (p, l, e, (headSpec (.code y cc nL (some (.array .int)) :: zTB) (a_rm fr lo r.2.1 r.2.2.1)).room, s, m, As.toArray, below, meth, c, _, va_A (z_w (zC D cy ad n K N G) V L) s.heap.size, 0, 0) ⟨⟨⟨⟨⟨B.exec, B.bytes, hml, hown, fun w hw => hts w (List.mem_cons_of_mem _ hw)⟩, hK, fun q h => Or.inr h, zC_nd⟩, ⟨Nat.le_refl _, Nat.le_refl _⟩, ⟨Nat.zero_le _, Nat.zero_le _⟩⟩, hNf, hWF⟩, hSt⟩ ⟨B.returns, B.notSynchronized, rfl⟩ ⟨rfl, rfl⟩ hnm ls hl s.heap [] hP hD va_S.rf
theorem a_vret {M : zM} {D : va_G} {cy : Nat → ClassId} {ad : Nat → Nat} {n c q : Nat} {K N : Nat → Nat} {G : zG} {V : zI} {L : zL} {cc : ByteArray} {nL : Nat} {own : String} {fr lo pc : Nat} {ls : Array Slot} {ad0 K0 : Nat → Nat} {n0 : Nat} {r : zS} (X : RXA M D cy ad n c q K N G cc nL own fr lo) (Z : RZAv M D cy ad0 n0 K0 r) (ha : ∀ w, w < n0 → ad w = ad0 w) (hn0 : n0 ≤ n) (hk0 : ∀ w, w < n0 → K w = K0 w) (hf : some (n, c, q, K, N, G, V, L) = some r) (d : decode cc pc = .ok (.return_, 1)) : RG (zMb M c q) (zC D cy ad n K N G) V L pc ls [] := by
  have X0 := X.1.1
  have XW := X.1.2.2
  obtain ⟨p, l, e, Ro, s, m, args, below, meth, co, Q, A, c00, q00⟩ := M
  cases hf
  obtain ⟨hr, hlk, rfl⟩ := Z
  intro H locs hP hD hS
  exact W.vret X0.1.1.1 X0.1.1.2.1 hr (fun t ht hW => ⟨⟨ad, rfl, trivial, ⟨ha, XW, hn0, hk0⟩, by rw [ht]; exact hP, hD⟩, hS.F ht⟩) hS.2.2 d hlk
theorem a_iret {M : zM} {D : va_G} {cy : Nat → ClassId} {ad : Nat → Nat} {n c q : Nat} {K N : Nat → Nat} {G : zG} {V : zI} {L : zL} {cc : ByteArray} {nL : Nat} {own : String} {fr lo pc : Nat} {ls : Array Slot} {ad0 K0 : Nat → Nat} {n0 : Nat} {ty : FieldType} {v : Int32} {r : Int32 × zS} (X : RXA M D cy ad n c q K N G cc nL own fr lo) (Z : RZAi M D cy ad0 n0 K0 ty r.1 r.2) (ha : ∀ w, w < n0 → ad w = ad0 w) (hn0 : n0 ≤ n) (hk0 : ∀ w, w < n0 → K w = K0 w) (hf : some (v, n, c, q, K, N, G, V, L) = some r) (hn : narrow ty (.int v) = .int v) (d : decode cc pc = .ok (.ireturn, 1)) : RG (zMb M c q) (zC D cy ad n K N G) V L pc ls [.int v] := by
  have X0 := X.1.1
  have XW := X.1.2.2
  obtain ⟨p, l, e, Ro, s, m, args, below, meth, co, Q, A, c00, q00⟩ := M
  cases hf
  obtain ⟨hr, hlk, rfl⟩ := Z
  intro H locs hP hD hS
  exact W.zret X0.1.1.1 X0.1.1.2.1 hr hn (fun t ht hW => ⟨⟨v, ad, rfl, rfl, ⟨ha, XW, hn0, hk0⟩, by rw [ht]; exact hP, hD⟩, hS.F ht⟩) hS.2.2 d hlk
theorem a_rret {M : zM} {D : va_G} {cy : Nat → ClassId} {ad : Nat → Nat} {n c q : Nat} {K N : Nat → Nat} {G : zG} {V : zI} {L : zL} {cc : ByteArray} {nL : Nat} {own : String} {fr lo pc : Nat} {ls : Array Slot} {ad0 K0 : Nat → Nat} {n0 : Nat} {v : Nat} {r : Nat × zS} (X : RXA M D cy ad n c q K N G cc nL own fr lo) (Z : RZAr M D cy ad0 n0 K0 r.1 r.2) (ha : ∀ w, w < n0 → ad w = ad0 w) (hn0 : n0 ≤ n) (hk0 : ∀ w, w < n0 → K w = K0 w) (hv : v < n ∧ K v = 100) (hf : some (v, n, c, q, K, N, G, V, L) = some r) (d : decode cc pc = .ok (.areturn, 1)) : RG (zMb M c q) (zC D cy ad n K N G) V L pc ls [.ref (ad v)] := by
  have X0 := X.1.1
  have XW := X.1.2.2
  obtain ⟨p, l, e, Ro, s, m, args, below, meth, co, Q, A, c00, q00⟩ := M
  cases hf
  obtain ⟨hr, hlk, rfl⟩ := Z
  intro H locs hP hD hS
  exact W.aret X0.1.1.1 X0.1.1.2.1 hr (Or.inr ⟨_, rfl⟩) (Or.inr ⟨_, rfl⟩) (fun t ht hW => ⟨⟨ad, ad v, rfl, trivial, ⟨rfl, hv⟩, ⟨ha, XW, hn0, hk0⟩, by rw [ht]; exact hP, hD⟩, hS.F ht⟩) hS.2.2 d hlk
theorem zh_ext {n n' ci p : Nat} {K K' : Nat → Nat} (h : p < n ∧ K p = ci) (hn : n ≤ n') (hK : ∀ w, w < n → K' w = K w) : p < n' ∧ K' p = ci := ⟨by omega, (hK p h.1).trans h.2⟩
theorem z_iteE {c : Prop} {hd : Decidable c} {α : Type} {a b : Option α} {r : α} (h : (@ite _ c hd a b) = some r) : a = some r ∨ b = some r := by
  by_cases hc : c
  · rw [if_pos hc] at h; exact Or.inl h
  · rw [if_neg hc] at h; exact Or.inr h
theorem zSt.moved {u U : State} {cy : Nat → ClassId} (hvm : u.vm.Alike U.vm) (h : zSt u cy) : zSt U cy := ⟨⟨arrOfT_moved hvm h.1.1, h.1.2.moved hvm⟩, h.2.moved hvm⟩
theorem a_callVv {M : zM} {D : va_G} {cy : Nat → ClassId} {ad : Nat → Nat} {n c q : Nat} {K N : Nat → Nat} {G : zG} {V : zI} {L : zL} {cc : ByteArray} {nL : Nat} {own : String} {fr lo pc : Nat} {ls : Array Slot} {st : List Value} {cc2 : ByteArray} {stk : List Value} {fr2 lo2 n2 idx np : Nat} {w ci Nf : Nat} {T : u_T} {y : MethodName} {r : zS} (As : List Value) (X : RXA M D cy ad n c q K N G cc nL own fr lo) (hls : ls.size = nL) (hM : RAv D cy ad n K N G y cc2 n2 fr2 lo2 (.ref (ad w) :: As) V L r) (hw : w < n ∧ K w = ci) (hc : ci < 100 ∧ zcl[ci]? = some (y.cls, T, Nf)) (hlk : zMk own idx y) (gc : Cond.code y cc2 n2 (none) ∈ zTB ∧ Cond.initialized y.cls ∈ zTB ∧ Cond.instanceMethod y ∈ zTB ∧ Cond.selects y.cls y y ∈ zTB) (hnp : As.length = np) (hd : (y.cls ≠ "java/lang/invoke/MethodHandle" ∧ y.cls ≠ "java/lang/invoke/VarHandle") ∧ (parseMethodDescriptor y.desc).map (fun d => d.parameters.length) = some np) (hR : fr2 + 1 ≤ fr ∧ 8 + (n2 + 11) + lo2 ≤ lo) (hroom : (st.map fun v => v.category).sum ≤ 8) (hstk : stk = As.reverse ++ .ref (ad w) :: st) (hcc : c + r.2.1 ≤ M.2.2.2.1.cells ∧ q + r.2.2.1 ≤ M.2.2.2.1.slots) (d : decode cc pc = .ok (.invokevirtual idx, 3)) (k : ∀ ad' : Nat → Nat, (∀ w, w < n → ad' w = ad w) → n ≤ r.1 → (∀ w, w < n → r.2.2.2.1 w = K w) → RXA M D cy ad' r.1 (c + r.2.1) (q + r.2.2.1) r.2.2.2.1 r.2.2.2.2.1 r.2.2.2.2.2.1 cc nL own fr lo → RG (zMb M (c + r.2.1) (q + r.2.2.1)) (zC D cy ad' r.1 r.2.2.2.1 r.2.2.2.2.1 r.2.2.2.2.2.1) r.2.2.2.2.2.2.1 r.2.2.2.2.2.2.2 (pc + 3) ls (st)) : RG (zMb M c q) (zC D cy ad n K N G) V L pc ls stk := by
  have X0 := X.1.1
  have XN := X.1.2.1
  have XS := X.2
  obtain ⟨p, l, e, Ro, s, m, args, below, meth, co, Q, A, c00, q00⟩ := M
  intro H locs hP hD hS
  subst hstk
  obtain ⟨qq, hq, he⟩ := z_at (O := (zC D cy ad n K N G)) (V := V) (L := L) (w := w) (List.mem_range.mpr hw.1)
  rw [z_cellO (O := (zC D cy ad n K N G)) hw.2 hc.1] at he
  have hF : ∀ q : Nat, va_A (z_w (zC D cy ad n K N G) V L) H.size q → A q := by
    intro q h
    rcases h with ⟨k, e, h⟩ | h
    · exact hD.2 k (q, e) h
    · exact X0.1.2.2.1 q (Nat.le_trans hS.1 h)
  have hrun : va_Run p l e Ro s m args below meth co H locs c q r.2.1 r.2.2.1 (F0 m pc ls (As.reverse ++ .ref (ad w) :: st)) st (va_Qv (fun (_ : Nat → Nat) => True) (a_B D cy ad n K r (va_A (z_w (zC D cy ad n K N G) V L) H.size)) (va_A (z_w (zC D cy ad n K N G) V L) H.size) ((.ref (ad w) :: As)).toArray) (va_A (z_w (zC D cy ad n K N G) V L) H.size) := by
    rcases hlk with h | ⟨host, h⟩
    · exact va_runV (As := As) (rest := st) X0.1.1 (hM l H.size) ⟨callB_of np X0.1.1.2.2.2.2 (z_goodC gc.1) rfl rfl rfl (X0.1.1.2.2.2.2 _ gc.2.1) (X0.1.1.2.2.2.2 _ h) ⟨hd.1.1, hd.1.2, hd.2⟩ ⟨Nat.le_trans hR.1 X0.2.1.1, Nat.le_trans hR.2 X0.2.1.2⟩, X0.1.1.2.2.2.2 _ gc.2.2.1, X0.1.1.2.2.2.2 _ gc.2.2.2⟩ ⟨fun a U g mk q => by obtain ⟨q0, q1, qP, qK, qD, qN, qS⟩ := q; exact ⟨q0, q1, qP, va_K.moved (u := U) (U := U.calling g mk a) (Vm.Alike.refl U.vm) qK, qD, zNf.same (u := U) (U := U.calling g mk a) rfl qN, zSt.moved (u := U) (U := U.calling g mk a) (Vm.Alike.refl U.vm) qS⟩, va_recv X0.1.2.1 hP (ci := ci) (q0 := qq) hc.2 he, fun U hU hW => ⟨rfl, by rw [hU], by rw [hU]; exact hP, va_K.moved hW.alike X0.1.2.1, hD.weaken (fun _ _ _ _ => trivial), zNf.warm hW XN, zSt.moved hW.alike XS⟩⟩ rfl hnp hls rfl (lv_room hroom) d hcc
    · exact va_runVN (As := As) (rest := st) X0.1.1 (hM l H.size) ⟨va_cnB np X0.1.1.2.2.2.2 (z_goodC gc.1) rfl rfl rfl (XN _ h) (X0.1.1.2.2.2.2 _ gc.2.1) ⟨hd.1.1, hd.1.2, hd.2⟩ ⟨Nat.le_trans hR.1 X0.2.1.1, Nat.le_trans hR.2 X0.2.1.2⟩, X0.1.1.2.2.2.2 _ gc.2.2.1, X0.1.1.2.2.2.2 _ gc.2.2.2⟩ ⟨fun a U g mk q => by obtain ⟨q0, q1, qP, qK, qD, qN, qS⟩ := q; exact ⟨q0, q1, qP, va_K.moved (u := U) (U := U.calling g mk a) (Vm.Alike.refl U.vm) qK, qD, zNf.same (u := U) (U := U.calling g mk a) rfl qN, zSt.moved (u := U) (U := U.calling g mk a) (Vm.Alike.refl U.vm) qS⟩, va_recv X0.1.2.1 hP (ci := ci) (q0 := qq) hc.2 he, fun U hU hW => ⟨rfl, by rw [hU], by rw [hU]; exact hP, va_K.moved hW.alike X0.1.2.1, hD.weaken (fun _ _ _ _ => trivial), zNf.warm hW XN, zSt.moved hW.alike XS⟩⟩ rfl hnp hls rfl (lv_room hroom) d hcc
  refine va_callv hrun hS (fun q _ h => hF q h) hF (fun u t H1 locs1 ht hvm hw2 hB hz1 hk1 hS => ?_)
  obtain ⟨⟨hag, hWF, hnn, hKg⟩, hP1, hD1⟩ := hB
  rw [ht] at hP1
  exact k u hag hnn hKg ⟨⟨⟨⟨X0.1.1, X0.1.2.1, X0.1.2.2.1, zC_nd⟩, X0.2.1, ⟨hcc.1, hcc.2⟩⟩, XN, hWF⟩, XS⟩ H1 locs1 hP1 (hD1.weaken (fun _ q _ h => hF q.1 h)) hS
theorem a_callVi {M : zM} {D : va_G} {cy : Nat → ClassId} {ad : Nat → Nat} {n c q : Nat} {K N : Nat → Nat} {G : zG} {V : zI} {L : zL} {cc : ByteArray} {nL : Nat} {own : String} {fr lo pc : Nat} {ls : Array Slot} {st : List Value} {cc2 : ByteArray} {stk : List Value} {fr2 lo2 n2 idx np : Nat} {w ci Nf : Nat} {T : u_T} {y : MethodName} {ty : FieldType} {v : Int32} {r : zS} (As : List Value) (X : RXA M D cy ad n c q K N G cc nL own fr lo) (hls : ls.size = nL) (hM : RAi D cy ad n K N G y cc2 n2 ty fr2 lo2 (.ref (ad w) :: As) V L v r) (hw : w < n ∧ K w = ci) (hc : ci < 100 ∧ zcl[ci]? = some (y.cls, T, Nf)) (hlk : zMk own idx y) (gc : Cond.code y cc2 n2 (some ty) ∈ zTB ∧ Cond.initialized y.cls ∈ zTB ∧ Cond.instanceMethod y ∈ zTB ∧ Cond.selects y.cls y y ∈ zTB) (hnp : As.length = np) (hd : (y.cls ≠ "java/lang/invoke/MethodHandle" ∧ y.cls ≠ "java/lang/invoke/VarHandle") ∧ (parseMethodDescriptor y.desc).map (fun d => d.parameters.length) = some np) (hR : fr2 + 1 ≤ fr ∧ 8 + (n2 + 11) + lo2 ≤ lo) (hroom : (st.map fun v => v.category).sum ≤ 8) (hstk : stk = As.reverse ++ .ref (ad w) :: st) (hcc : c + r.2.1 ≤ M.2.2.2.1.cells ∧ q + r.2.2.1 ≤ M.2.2.2.1.slots) (d : decode cc pc = .ok (.invokevirtual idx, 3)) (k : ∀ ad' : Nat → Nat, (∀ w, w < n → ad' w = ad w) → n ≤ r.1 → (∀ w, w < n → r.2.2.2.1 w = K w) → RXA M D cy ad' r.1 (c + r.2.1) (q + r.2.2.1) r.2.2.2.1 r.2.2.2.2.1 r.2.2.2.2.2.1 cc nL own fr lo → RG (zMb M (c + r.2.1) (q + r.2.2.1)) (zC D cy ad' r.1 r.2.2.2.1 r.2.2.2.2.1 r.2.2.2.2.2.1) r.2.2.2.2.2.2.1 r.2.2.2.2.2.2.2 (pc + 3) ls (.int v :: st)) : RG (zMb M c q) (zC D cy ad n K N G) V L pc ls stk := by
  have X0 := X.1.1
  have XN := X.1.2.1
  have XS := X.2
  obtain ⟨p, l, e, Ro, s, m, args, below, meth, co, Q, A, c00, q00⟩ := M
  intro H locs hP hD hS
  subst hstk
  obtain ⟨qq, hq, he⟩ := z_at (O := (zC D cy ad n K N G)) (V := V) (L := L) (w := w) (List.mem_range.mpr hw.1)
  rw [z_cellO (O := (zC D cy ad n K N G)) hw.2 hc.1] at he
  have hF : ∀ q : Nat, va_A (z_w (zC D cy ad n K N G) V L) H.size q → A q := by
    intro q h
    rcases h with ⟨k, e, h⟩ | h
    · exact hD.2 k (q, e) h
    · exact X0.1.2.2.1 q (Nat.le_trans hS.1 h)
  have hrun : va_Run p l e Ro s m args below meth co H locs c q r.2.1 r.2.2.1 (F0 m pc ls (As.reverse ++ .ref (ad w) :: st)) st (va_Qi (fun x (_ : Nat → Nat) => x = v) (a_B D cy ad n K r (va_A (z_w (zC D cy ad n K N G) V L) H.size)) (va_A (z_w (zC D cy ad n K N G) V L) H.size) ((.ref (ad w) :: As)).toArray) (va_A (z_w (zC D cy ad n K N G) V L) H.size) := by
    rcases hlk with h | ⟨host, h⟩
    · exact va_runV (As := As) (rest := st) X0.1.1 (hM l H.size) ⟨callB_of np X0.1.1.2.2.2.2 (z_goodC gc.1) rfl rfl rfl (X0.1.1.2.2.2.2 _ gc.2.1) (X0.1.1.2.2.2.2 _ h) ⟨hd.1.1, hd.1.2, hd.2⟩ ⟨Nat.le_trans hR.1 X0.2.1.1, Nat.le_trans hR.2 X0.2.1.2⟩, X0.1.1.2.2.2.2 _ gc.2.2.1, X0.1.1.2.2.2.2 _ gc.2.2.2⟩ ⟨fun a U g mk q => by obtain ⟨q0, q1, qP, qK, qD, qN, qS⟩ := q; exact ⟨q0, q1, qP, va_K.moved (u := U) (U := U.calling g mk a) (Vm.Alike.refl U.vm) qK, qD, zNf.same (u := U) (U := U.calling g mk a) rfl qN, zSt.moved (u := U) (U := U.calling g mk a) (Vm.Alike.refl U.vm) qS⟩, va_recv X0.1.2.1 hP (ci := ci) (q0 := qq) hc.2 he, fun U hU hW => ⟨rfl, by rw [hU], by rw [hU]; exact hP, va_K.moved hW.alike X0.1.2.1, hD.weaken (fun _ _ _ _ => trivial), zNf.warm hW XN, zSt.moved hW.alike XS⟩⟩ rfl hnp hls rfl (lv_room hroom) d hcc
    · exact va_runVN (As := As) (rest := st) X0.1.1 (hM l H.size) ⟨va_cnB np X0.1.1.2.2.2.2 (z_goodC gc.1) rfl rfl rfl (XN _ h) (X0.1.1.2.2.2.2 _ gc.2.1) ⟨hd.1.1, hd.1.2, hd.2⟩ ⟨Nat.le_trans hR.1 X0.2.1.1, Nat.le_trans hR.2 X0.2.1.2⟩, X0.1.1.2.2.2.2 _ gc.2.2.1, X0.1.1.2.2.2.2 _ gc.2.2.2⟩ ⟨fun a U g mk q => by obtain ⟨q0, q1, qP, qK, qD, qN, qS⟩ := q; exact ⟨q0, q1, qP, va_K.moved (u := U) (U := U.calling g mk a) (Vm.Alike.refl U.vm) qK, qD, zNf.same (u := U) (U := U.calling g mk a) rfl qN, zSt.moved (u := U) (U := U.calling g mk a) (Vm.Alike.refl U.vm) qS⟩, va_recv X0.1.2.1 hP (ci := ci) (q0 := qq) hc.2 he, fun U hU hW => ⟨rfl, by rw [hU], by rw [hU]; exact hP, va_K.moved hW.alike X0.1.2.1, hD.weaken (fun _ _ _ _ => trivial), zNf.warm hW XN, zSt.moved hW.alike XS⟩⟩ rfl hnp hls rfl (lv_room hroom) d hcc
  refine va_calli hrun hS (fun q _ h => hF q h) hF (fun ri u t H1 locs1 ht hvm hw2 hB hz1 hk1 hS => ?_)
  subst hw2
  obtain ⟨⟨hag, hWF, hnn, hKg⟩, hP1, hD1⟩ := hB
  rw [ht] at hP1
  exact k u hag hnn hKg ⟨⟨⟨⟨X0.1.1, X0.1.2.1, X0.1.2.2.1, zC_nd⟩, X0.2.1, ⟨hcc.1, hcc.2⟩⟩, XN, hWF⟩, XS⟩ H1 locs1 hP1 (hD1.weaken (fun _ q _ h => hF q.1 h)) hS
theorem a_callVr {M : zM} {D : va_G} {cy : Nat → ClassId} {ad : Nat → Nat} {n c q : Nat} {K N : Nat → Nat} {G : zG} {V : zI} {L : zL} {cc : ByteArray} {nL : Nat} {own : String} {fr lo pc : Nat} {ls : Array Slot} {st : List Value} {cc2 : ByteArray} {stk : List Value} {fr2 lo2 n2 idx np : Nat} {w ci Nf : Nat} {T : u_T} {y : MethodName} {v : Nat} {r : zS} (As : List Value) (X : RXA M D cy ad n c q K N G cc nL own fr lo) (hls : ls.size = nL) (hM : RAr D cy ad n K N G y cc2 n2 fr2 lo2 (.ref (ad w) :: As) V L v r) (hw : w < n ∧ K w = ci) (hc : ci < 100 ∧ zcl[ci]? = some (y.cls, T, Nf)) (hlk : zMk own idx y) (gc : Cond.code y cc2 n2 (some (.array .int)) ∈ zTB ∧ Cond.initialized y.cls ∈ zTB ∧ Cond.instanceMethod y ∈ zTB ∧ Cond.selects y.cls y y ∈ zTB) (hnp : As.length = np) (hd : (y.cls ≠ "java/lang/invoke/MethodHandle" ∧ y.cls ≠ "java/lang/invoke/VarHandle") ∧ (parseMethodDescriptor y.desc).map (fun d => d.parameters.length) = some np) (hR : fr2 + 1 ≤ fr ∧ 8 + (n2 + 11) + lo2 ≤ lo) (hroom : (st.map fun v => v.category).sum ≤ 8) (hstk : stk = As.reverse ++ .ref (ad w) :: st) (hcc : c + r.2.1 ≤ M.2.2.2.1.cells ∧ q + r.2.2.1 ≤ M.2.2.2.1.slots) (d : decode cc pc = .ok (.invokevirtual idx, 3)) (k : ∀ ad' : Nat → Nat, (∀ w, w < n → ad' w = ad w) → n ≤ r.1 → (∀ w, w < n → r.2.2.2.1 w = K w) → (v < r.1 ∧ r.2.2.2.1 v = 100) → RXA M D cy ad' r.1 (c + r.2.1) (q + r.2.2.1) r.2.2.2.1 r.2.2.2.2.1 r.2.2.2.2.2.1 cc nL own fr lo → RG (zMb M (c + r.2.1) (q + r.2.2.1)) (zC D cy ad' r.1 r.2.2.2.1 r.2.2.2.2.1 r.2.2.2.2.2.1) r.2.2.2.2.2.2.1 r.2.2.2.2.2.2.2 (pc + 3) ls (.ref (ad' v) :: st)) : RG (zMb M c q) (zC D cy ad n K N G) V L pc ls stk := by
  have X0 := X.1.1
  have XN := X.1.2.1
  have XS := X.2
  obtain ⟨p, l, e, Ro, s, m, args, below, meth, co, Q, A, c00, q00⟩ := M
  intro H locs hP hD hS
  subst hstk
  obtain ⟨qq, hq, he⟩ := z_at (O := (zC D cy ad n K N G)) (V := V) (L := L) (w := w) (List.mem_range.mpr hw.1)
  rw [z_cellO (O := (zC D cy ad n K N G)) hw.2 hc.1] at he
  have hF : ∀ q : Nat, va_A (z_w (zC D cy ad n K N G) V L) H.size q → A q := by
    intro q h
    rcases h with ⟨k, e, h⟩ | h
    · exact hD.2 k (q, e) h
    · exact X0.1.2.2.1 q (Nat.le_trans hS.1 h)
  have hrun : va_Run p l e Ro s m args below meth co H locs c q r.2.1 r.2.2.1 (F0 m pc ls (As.reverse ++ .ref (ad w) :: st)) st (va_Qr (fun (_ : Nat → Nat) => True) (fun u a t => (a = u v ∧ v < r.1 ∧ r.2.2.2.1 v = 100) ∧ a_B D cy ad n K r (va_A (z_w (zC D cy ad n K N G) V L) H.size) u t) (va_A (z_w (zC D cy ad n K N G) V L) H.size) ((.ref (ad w) :: As)).toArray) (va_A (z_w (zC D cy ad n K N G) V L) H.size) := by
    rcases hlk with h | ⟨host, h⟩
    · exact va_runV (As := As) (rest := st) X0.1.1 (hM l H.size) ⟨callB_of np X0.1.1.2.2.2.2 (z_goodC gc.1) rfl rfl rfl (X0.1.1.2.2.2.2 _ gc.2.1) (X0.1.1.2.2.2.2 _ h) ⟨hd.1.1, hd.1.2, hd.2⟩ ⟨Nat.le_trans hR.1 X0.2.1.1, Nat.le_trans hR.2 X0.2.1.2⟩, X0.1.1.2.2.2.2 _ gc.2.2.1, X0.1.1.2.2.2.2 _ gc.2.2.2⟩ ⟨fun a U g mk q => by obtain ⟨q0, q1, qP, qK, qD, qN, qS⟩ := q; exact ⟨q0, q1, qP, va_K.moved (u := U) (U := U.calling g mk a) (Vm.Alike.refl U.vm) qK, qD, zNf.same (u := U) (U := U.calling g mk a) rfl qN, zSt.moved (u := U) (U := U.calling g mk a) (Vm.Alike.refl U.vm) qS⟩, va_recv X0.1.2.1 hP (ci := ci) (q0 := qq) hc.2 he, fun U hU hW => ⟨rfl, by rw [hU], by rw [hU]; exact hP, va_K.moved hW.alike X0.1.2.1, hD.weaken (fun _ _ _ _ => trivial), zNf.warm hW XN, zSt.moved hW.alike XS⟩⟩ rfl hnp hls rfl (lv_room hroom) d hcc
    · exact va_runVN (As := As) (rest := st) X0.1.1 (hM l H.size) ⟨va_cnB np X0.1.1.2.2.2.2 (z_goodC gc.1) rfl rfl rfl (XN _ h) (X0.1.1.2.2.2.2 _ gc.2.1) ⟨hd.1.1, hd.1.2, hd.2⟩ ⟨Nat.le_trans hR.1 X0.2.1.1, Nat.le_trans hR.2 X0.2.1.2⟩, X0.1.1.2.2.2.2 _ gc.2.2.1, X0.1.1.2.2.2.2 _ gc.2.2.2⟩ ⟨fun a U g mk q => by obtain ⟨q0, q1, qP, qK, qD, qN, qS⟩ := q; exact ⟨q0, q1, qP, va_K.moved (u := U) (U := U.calling g mk a) (Vm.Alike.refl U.vm) qK, qD, zNf.same (u := U) (U := U.calling g mk a) rfl qN, zSt.moved (u := U) (U := U.calling g mk a) (Vm.Alike.refl U.vm) qS⟩, va_recv X0.1.2.1 hP (ci := ci) (q0 := qq) hc.2 he, fun U hU hW => ⟨rfl, by rw [hU], by rw [hU]; exact hP, va_K.moved hW.alike X0.1.2.1, hD.weaken (fun _ _ _ _ => trivial), zNf.warm hW XN, zSt.moved hW.alike XS⟩⟩ rfl hnp hls rfl (lv_room hroom) d hcc
  refine va_callr hrun hS (fun q _ h => hF q h) hF (fun u ra t H1 locs1 ht hvm hw2 hB hz1 hk1 hS => ?_)
  obtain ⟨⟨hra, hv⟩, ⟨hag, hWF, hnn, hKg⟩, hP1, hD1⟩ := hB
  subst hra
  rw [ht] at hP1
  exact k u hag hnn hKg hv ⟨⟨⟨⟨X0.1.1, X0.1.2.1, X0.1.2.2.1, zC_nd⟩, X0.2.1, ⟨hcc.1, hcc.2⟩⟩, XN, hWF⟩, XS⟩ H1 locs1 hP1 (hD1.weaken (fun _ q _ h => hF q.1 h)) hS
theorem a_callIv {M : zM} {D : va_G} {cy : Nat → ClassId} {ad : Nat → Nat} {n c q : Nat} {K N : Nat → Nat} {G : zG} {V : zI} {L : zL} {cc : ByteArray} {nL : Nat} {own : String} {fr lo pc : Nat} {ls : Array Slot} {st : List Value} {cc2 : ByteArray} {stk : List Value} {fr2 lo2 n2 idx np : Nat} {w ci Nf : Nat} {T : u_T} {y : MethodName} {r : zS} (As : List Value) (X : RXA M D cy ad n c q K N G cc nL own fr lo) (hls : ls.size = nL) (hM : RAv D cy ad n K N G y cc2 n2 fr2 lo2 (.ref (ad w) :: As) V L r) (hw : w < n ∧ K w = ci) (hc : ci < 100 ∧ zcl[ci]? = some (y.cls, T, Nf)) (hlk : zMk own idx y) (gc : Cond.code y cc2 n2 (none) ∈ zTB ∧ Cond.initialized y.cls ∈ zTB ∧ Cond.instanceMethod y ∈ zTB ∧ y.name = "<init>") (hnp : As.length = np) (hd : (y.cls ≠ "java/lang/invoke/MethodHandle" ∧ y.cls ≠ "java/lang/invoke/VarHandle") ∧ (parseMethodDescriptor y.desc).map (fun d => d.parameters.length) = some np) (hR : fr2 + 1 ≤ fr ∧ 8 + (n2 + 11) + lo2 ≤ lo) (hroom : (st.map fun v => v.category).sum ≤ 8) (hstk : stk = As.reverse ++ .ref (ad w) :: st) (hcc : c + r.2.1 ≤ M.2.2.2.1.cells ∧ q + r.2.2.1 ≤ M.2.2.2.1.slots) (d : decode cc pc = .ok (.invokespecial idx, 3)) (k : ∀ ad' : Nat → Nat, (∀ w, w < n → ad' w = ad w) → n ≤ r.1 → (∀ w, w < n → r.2.2.2.1 w = K w) → RXA M D cy ad' r.1 (c + r.2.1) (q + r.2.2.1) r.2.2.2.1 r.2.2.2.2.1 r.2.2.2.2.2.1 cc nL own fr lo → RG (zMb M (c + r.2.1) (q + r.2.2.1)) (zC D cy ad' r.1 r.2.2.2.1 r.2.2.2.2.1 r.2.2.2.2.2.1) r.2.2.2.2.2.2.1 r.2.2.2.2.2.2.2 (pc + 3) ls (st)) : RG (zMb M c q) (zC D cy ad n K N G) V L pc ls stk := by
  have X0 := X.1.1
  have XN := X.1.2.1
  have XS := X.2
  obtain ⟨p, l, e, Ro, s, m, args, below, meth, co, Q, A, c00, q00⟩ := M
  intro H locs hP hD hS
  subst hstk
  have hF : ∀ q : Nat, va_A (z_w (zC D cy ad n K N G) V L) H.size q → A q := by
    intro q h
    rcases h with ⟨k, e, h⟩ | h
    · exact hD.2 k (q, e) h
    · exact X0.1.2.2.1 q (Nat.le_trans hS.1 h)
  have hrun : va_Run p l e Ro s m args below meth co H locs c q r.2.1 r.2.2.1 (F0 m pc ls (As.reverse ++ .ref (ad w) :: st)) st (va_Qv (fun (_ : Nat → Nat) => True) (a_B D cy ad n K r (va_A (z_w (zC D cy ad n K N G) V L) H.size)) (va_A (z_w (zC D cy ad n K N G) V L) H.size) ((.ref (ad w) :: As)).toArray) (va_A (z_w (zC D cy ad n K N G) V L) H.size) := by
    rcases hlk with h | ⟨host, h⟩
    · exact va_runI (As := As) (rest := st) X0.1.1 (hM l H.size) ⟨callB_of np X0.1.1.2.2.2.2 (z_goodC gc.1) rfl rfl rfl (X0.1.1.2.2.2.2 _ gc.2.1) (X0.1.1.2.2.2.2 _ h) ⟨hd.1.1, hd.1.2, hd.2⟩ ⟨Nat.le_trans hR.1 X0.2.1.1, Nat.le_trans hR.2 X0.2.1.2⟩, gc.2.2.2, X0.1.1.2.2.2.2 _ gc.2.2.1⟩ ⟨fun a U g mk q => by obtain ⟨q0, q1, qP, qK, qD, qN, qS⟩ := q; exact ⟨q0, q1, qP, va_K.moved (u := U) (U := U.calling g mk a) (Vm.Alike.refl U.vm) qK, qD, zNf.same (u := U) (U := U.calling g mk a) rfl qN, zSt.moved (u := U) (U := U.calling g mk a) (Vm.Alike.refl U.vm) qS⟩, fun U hU hW => ⟨rfl, by rw [hU], by rw [hU]; exact hP, va_K.moved hW.alike X0.1.2.1, hD.weaken (fun _ _ _ _ => trivial), zNf.warm hW XN, zSt.moved hW.alike XS⟩⟩ rfl hnp hls rfl (lv_room hroom) d hcc
    · exact va_runIN (As := As) (rest := st) X0.1.1 (hM l H.size) ⟨va_cnB np X0.1.1.2.2.2.2 (z_goodC gc.1) rfl rfl rfl (XN _ h) (X0.1.1.2.2.2.2 _ gc.2.1) ⟨hd.1.1, hd.1.2, hd.2⟩ ⟨Nat.le_trans hR.1 X0.2.1.1, Nat.le_trans hR.2 X0.2.1.2⟩, gc.2.2.2, X0.1.1.2.2.2.2 _ gc.2.2.1⟩ ⟨fun a U g mk q => by obtain ⟨q0, q1, qP, qK, qD, qN, qS⟩ := q; exact ⟨q0, q1, qP, va_K.moved (u := U) (U := U.calling g mk a) (Vm.Alike.refl U.vm) qK, qD, zNf.same (u := U) (U := U.calling g mk a) rfl qN, zSt.moved (u := U) (U := U.calling g mk a) (Vm.Alike.refl U.vm) qS⟩, fun U hU hW => ⟨rfl, by rw [hU], by rw [hU]; exact hP, va_K.moved hW.alike X0.1.2.1, hD.weaken (fun _ _ _ _ => trivial), zNf.warm hW XN, zSt.moved hW.alike XS⟩⟩ rfl hnp hls rfl (lv_room hroom) d hcc
  refine va_callv hrun hS (fun q _ h => hF q h) hF (fun u t H1 locs1 ht hvm hw2 hB hz1 hk1 hS => ?_)
  obtain ⟨⟨hag, hWF, hnn, hKg⟩, hP1, hD1⟩ := hB
  rw [ht] at hP1
  exact k u hag hnn hKg ⟨⟨⟨⟨X0.1.1, X0.1.2.1, X0.1.2.2.1, zC_nd⟩, X0.2.1, ⟨hcc.1, hcc.2⟩⟩, XN, hWF⟩, XS⟩ H1 locs1 hP1 (hD1.weaken (fun _ q _ h => hF q.1 h)) hS
theorem a_callSi {M : zM} {D : va_G} {cy : Nat → ClassId} {ad : Nat → Nat} {n c q : Nat} {K N : Nat → Nat} {G : zG} {V : zI} {L : zL} {cc : ByteArray} {nL : Nat} {own : String} {fr lo pc : Nat} {ls : Array Slot} {st : List Value} {cc2 : ByteArray} {stk : List Value} {fr2 lo2 n2 idx np : Nat} {y : MethodName} {ty : FieldType} {v : Int32} {r : zS} (As : List Value) (X : RXA M D cy ad n c q K N G cc nL own fr lo) (hls : ls.size = nL) (hM : RAi D cy ad n K N G y cc2 n2 ty fr2 lo2 As V L v r) (hlk : zMk own idx y) (gc : Cond.code y cc2 n2 (some ty) ∈ zTB ∧ Cond.initialized y.cls ∈ zTB ∧ Cond.static y ∈ zTB) (hnp : As.length = np) (hd : (y.cls ≠ "java/lang/invoke/MethodHandle" ∧ y.cls ≠ "java/lang/invoke/VarHandle") ∧ (parseMethodDescriptor y.desc).map (fun d => d.parameters.length) = some np) (hR : fr2 + 1 ≤ fr ∧ 8 + (n2 + 11) + lo2 ≤ lo) (hroom : (st.map fun v => v.category).sum ≤ 8) (hstk : stk = As.reverse ++ st) (hcc : c + r.2.1 ≤ M.2.2.2.1.cells ∧ q + r.2.2.1 ≤ M.2.2.2.1.slots) (d : decode cc pc = .ok (.invokestatic idx, 3)) (k : ∀ ad' : Nat → Nat, (∀ w, w < n → ad' w = ad w) → n ≤ r.1 → (∀ w, w < n → r.2.2.2.1 w = K w) → RXA M D cy ad' r.1 (c + r.2.1) (q + r.2.2.1) r.2.2.2.1 r.2.2.2.2.1 r.2.2.2.2.2.1 cc nL own fr lo → RG (zMb M (c + r.2.1) (q + r.2.2.1)) (zC D cy ad' r.1 r.2.2.2.1 r.2.2.2.2.1 r.2.2.2.2.2.1) r.2.2.2.2.2.2.1 r.2.2.2.2.2.2.2 (pc + 3) ls (.int v :: st)) : RG (zMb M c q) (zC D cy ad n K N G) V L pc ls stk := by
  have X0 := X.1.1
  have XN := X.1.2.1
  have XS := X.2
  obtain ⟨p, l, e, Ro, s, m, args, below, meth, co, Q, A, c00, q00⟩ := M
  intro H locs hP hD hS
  subst hstk
  have hF : ∀ q : Nat, va_A (z_w (zC D cy ad n K N G) V L) H.size q → A q := by
    intro q h
    rcases h with ⟨k, e, h⟩ | h
    · exact hD.2 k (q, e) h
    · exact X0.1.2.2.1 q (Nat.le_trans hS.1 h)
  have hrun : va_Run p l e Ro s m args below meth co H locs c q r.2.1 r.2.2.1 (F0 m pc ls (As.reverse ++ st)) st (va_Qi (fun x (_ : Nat → Nat) => x = v) (a_B D cy ad n K r (va_A (z_w (zC D cy ad n K N G) V L) H.size)) (va_A (z_w (zC D cy ad n K N G) V L) H.size) (As).toArray) (va_A (z_w (zC D cy ad n K N G) V L) H.size) := by
    rcases hlk with h | ⟨host, h⟩
    · exact va_runS (As := As) (rest := st) X0.1.1 (hM l H.size) ⟨callB_of np X0.1.1.2.2.2.2 (z_goodC gc.1) rfl rfl rfl (X0.1.1.2.2.2.2 _ gc.2.1) (X0.1.1.2.2.2.2 _ h) ⟨hd.1.1, hd.1.2, hd.2⟩ ⟨Nat.le_trans hR.1 X0.2.1.1, Nat.le_trans hR.2 X0.2.1.2⟩, X0.1.1.2.2.2.2 _ gc.2.2⟩ ⟨fun a U g mk q => by obtain ⟨q0, q1, qP, qK, qD, qN, qS⟩ := q; exact ⟨q0, q1, qP, va_K.moved (u := U) (U := U.calling g mk a) (Vm.Alike.refl U.vm) qK, qD, zNf.same (u := U) (U := U.calling g mk a) rfl qN, zSt.moved (u := U) (U := U.calling g mk a) (Vm.Alike.refl U.vm) qS⟩, fun U hU hW => ⟨rfl, by rw [hU], by rw [hU]; exact hP, va_K.moved hW.alike X0.1.2.1, hD.weaken (fun _ _ _ _ => trivial), zNf.warm hW XN, zSt.moved hW.alike XS⟩⟩ rfl hnp hls rfl (lv_room hroom) d hcc
    · exact va_runSN (As := As) (rest := st) X0.1.1 (hM l H.size) ⟨va_cnB np X0.1.1.2.2.2.2 (z_goodC gc.1) rfl rfl rfl (XN _ h) (X0.1.1.2.2.2.2 _ gc.2.1) ⟨hd.1.1, hd.1.2, hd.2⟩ ⟨Nat.le_trans hR.1 X0.2.1.1, Nat.le_trans hR.2 X0.2.1.2⟩, X0.1.1.2.2.2.2 _ gc.2.2, trivial⟩ ⟨fun a U g mk q => by obtain ⟨q0, q1, qP, qK, qD, qN, qS⟩ := q; exact ⟨q0, q1, qP, va_K.moved (u := U) (U := U.calling g mk a) (Vm.Alike.refl U.vm) qK, qD, zNf.same (u := U) (U := U.calling g mk a) rfl qN, zSt.moved (u := U) (U := U.calling g mk a) (Vm.Alike.refl U.vm) qS⟩, fun U hU hW => ⟨rfl, by rw [hU], by rw [hU]; exact hP, va_K.moved hW.alike X0.1.2.1, hD.weaken (fun _ _ _ _ => trivial), zNf.warm hW XN, zSt.moved hW.alike XS⟩⟩ rfl hnp hls rfl (lv_room hroom) d hcc
  refine va_calli hrun hS (fun q _ h => hF q h) hF (fun ri u t H1 locs1 ht hvm hw2 hB hz1 hk1 hS => ?_)
  subst hw2
  obtain ⟨⟨hag, hWF, hnn, hKg⟩, hP1, hD1⟩ := hB
  rw [ht] at hP1
  exact k u hag hnn hKg ⟨⟨⟨⟨X0.1.1, X0.1.2.1, X0.1.2.2.1, zC_nd⟩, X0.2.1, ⟨hcc.1, hcc.2⟩⟩, XN, hWF⟩, XS⟩ H1 locs1 hP1 (hD1.weaken (fun _ q _ h => hF q.1 h)) hS
theorem a_callSr {M : zM} {D : va_G} {cy : Nat → ClassId} {ad : Nat → Nat} {n c q : Nat} {K N : Nat → Nat} {G : zG} {V : zI} {L : zL} {cc : ByteArray} {nL : Nat} {own : String} {fr lo pc : Nat} {ls : Array Slot} {st : List Value} {cc2 : ByteArray} {stk : List Value} {fr2 lo2 n2 idx np : Nat} {y : MethodName} {v : Nat} {r : zS} (As : List Value) (X : RXA M D cy ad n c q K N G cc nL own fr lo) (hls : ls.size = nL) (hM : RAr D cy ad n K N G y cc2 n2 fr2 lo2 As V L v r) (hlk : zMk own idx y) (gc : Cond.code y cc2 n2 (some (.array .int)) ∈ zTB ∧ Cond.initialized y.cls ∈ zTB ∧ Cond.static y ∈ zTB) (hnp : As.length = np) (hd : (y.cls ≠ "java/lang/invoke/MethodHandle" ∧ y.cls ≠ "java/lang/invoke/VarHandle") ∧ (parseMethodDescriptor y.desc).map (fun d => d.parameters.length) = some np) (hR : fr2 + 1 ≤ fr ∧ 8 + (n2 + 11) + lo2 ≤ lo) (hroom : (st.map fun v => v.category).sum ≤ 8) (hstk : stk = As.reverse ++ st) (hcc : c + r.2.1 ≤ M.2.2.2.1.cells ∧ q + r.2.2.1 ≤ M.2.2.2.1.slots) (d : decode cc pc = .ok (.invokestatic idx, 3)) (k : ∀ ad' : Nat → Nat, (∀ w, w < n → ad' w = ad w) → n ≤ r.1 → (∀ w, w < n → r.2.2.2.1 w = K w) → (v < r.1 ∧ r.2.2.2.1 v = 100) → RXA M D cy ad' r.1 (c + r.2.1) (q + r.2.2.1) r.2.2.2.1 r.2.2.2.2.1 r.2.2.2.2.2.1 cc nL own fr lo → RG (zMb M (c + r.2.1) (q + r.2.2.1)) (zC D cy ad' r.1 r.2.2.2.1 r.2.2.2.2.1 r.2.2.2.2.2.1) r.2.2.2.2.2.2.1 r.2.2.2.2.2.2.2 (pc + 3) ls (.ref (ad' v) :: st)) : RG (zMb M c q) (zC D cy ad n K N G) V L pc ls stk := by
  have X0 := X.1.1
  have XN := X.1.2.1
  have XS := X.2
  obtain ⟨p, l, e, Ro, s, m, args, below, meth, co, Q, A, c00, q00⟩ := M
  intro H locs hP hD hS
  subst hstk
  have hF : ∀ q : Nat, va_A (z_w (zC D cy ad n K N G) V L) H.size q → A q := by
    intro q h
    rcases h with ⟨k, e, h⟩ | h
    · exact hD.2 k (q, e) h
    · exact X0.1.2.2.1 q (Nat.le_trans hS.1 h)
  have hrun : va_Run p l e Ro s m args below meth co H locs c q r.2.1 r.2.2.1 (F0 m pc ls (As.reverse ++ st)) st (va_Qr (fun (_ : Nat → Nat) => True) (fun u a t => (a = u v ∧ v < r.1 ∧ r.2.2.2.1 v = 100) ∧ a_B D cy ad n K r (va_A (z_w (zC D cy ad n K N G) V L) H.size) u t) (va_A (z_w (zC D cy ad n K N G) V L) H.size) (As).toArray) (va_A (z_w (zC D cy ad n K N G) V L) H.size) := by
    rcases hlk with h | ⟨host, h⟩
    · exact va_runS (As := As) (rest := st) X0.1.1 (hM l H.size) ⟨callB_of np X0.1.1.2.2.2.2 (z_goodC gc.1) rfl rfl rfl (X0.1.1.2.2.2.2 _ gc.2.1) (X0.1.1.2.2.2.2 _ h) ⟨hd.1.1, hd.1.2, hd.2⟩ ⟨Nat.le_trans hR.1 X0.2.1.1, Nat.le_trans hR.2 X0.2.1.2⟩, X0.1.1.2.2.2.2 _ gc.2.2⟩ ⟨fun a U g mk q => by obtain ⟨q0, q1, qP, qK, qD, qN, qS⟩ := q; exact ⟨q0, q1, qP, va_K.moved (u := U) (U := U.calling g mk a) (Vm.Alike.refl U.vm) qK, qD, zNf.same (u := U) (U := U.calling g mk a) rfl qN, zSt.moved (u := U) (U := U.calling g mk a) (Vm.Alike.refl U.vm) qS⟩, fun U hU hW => ⟨rfl, by rw [hU], by rw [hU]; exact hP, va_K.moved hW.alike X0.1.2.1, hD.weaken (fun _ _ _ _ => trivial), zNf.warm hW XN, zSt.moved hW.alike XS⟩⟩ rfl hnp hls rfl (lv_room hroom) d hcc
    · exact va_runSN (As := As) (rest := st) X0.1.1 (hM l H.size) ⟨va_cnB np X0.1.1.2.2.2.2 (z_goodC gc.1) rfl rfl rfl (XN _ h) (X0.1.1.2.2.2.2 _ gc.2.1) ⟨hd.1.1, hd.1.2, hd.2⟩ ⟨Nat.le_trans hR.1 X0.2.1.1, Nat.le_trans hR.2 X0.2.1.2⟩, X0.1.1.2.2.2.2 _ gc.2.2, trivial⟩ ⟨fun a U g mk q => by obtain ⟨q0, q1, qP, qK, qD, qN, qS⟩ := q; exact ⟨q0, q1, qP, va_K.moved (u := U) (U := U.calling g mk a) (Vm.Alike.refl U.vm) qK, qD, zNf.same (u := U) (U := U.calling g mk a) rfl qN, zSt.moved (u := U) (U := U.calling g mk a) (Vm.Alike.refl U.vm) qS⟩, fun U hU hW => ⟨rfl, by rw [hU], by rw [hU]; exact hP, va_K.moved hW.alike X0.1.2.1, hD.weaken (fun _ _ _ _ => trivial), zNf.warm hW XN, zSt.moved hW.alike XS⟩⟩ rfl hnp hls rfl (lv_room hroom) d hcc
  refine va_callr hrun hS (fun q _ h => hF q h) hF (fun u ra t H1 locs1 ht hvm hw2 hB hz1 hk1 hS => ?_)
  obtain ⟨⟨hra, hv⟩, ⟨hag, hWF, hnn, hKg⟩, hP1, hD1⟩ := hB
  subst hra
  rw [ht] at hP1
  exact k u hag hnn hKg hv ⟨⟨⟨⟨X0.1.1, X0.1.2.1, X0.1.2.2.1, zC_nd⟩, X0.2.1, ⟨hcc.1, hcc.2⟩⟩, XN, hWF⟩, XS⟩ H1 locs1 hP1 (hD1.weaken (fun _ q _ h => hF q.1 h)) hS
