def zTf (M : zM) (sa sb : Nat) : Prop := zStr M.2.2.2.2.2.2.2.2.2.2.2.1 sa sb M.2.2.2.2.1 M.2.2.2.2.1.heap
def t_Pre (sa sb : Nat) (D : va_G) (cy : Nat → ClassId) (O : zO) (As : List Value) (V : zI) (L : zL) (sz : Nat) : Array Value → State → Prop := va_Pc As (fun U => U.heap.size = sz ∧ va_P O.1 zcl (z_w O V L) U.heap ∧ va_K O.1 zcl (z_tys O) U ∧ va_D (fun _ => True) (z_w O V L) ∧ zNf U ∧ zSt U cy ∧ zStr (va_A (z_w O V L) sz) sa sb U U.heap)
def RTv (sa sb : Nat) (D : va_G) (cy : Nat → ClassId) (ad : Nat → Nat) (n : Nat) (K N : Nat → Nat) (G : zG) (y : MethodName) (cc : ByteArray) (nL : Nat) (fr lo : Nat) (As : List Value) (V : zI) (L : zL) (r : zS) : Prop := ∀ (l : Launch) (sz : Nat), Met l y (.code y cc nL (none) :: zTB) (a_rm fr lo r.2.1 r.2.2.1) (t_Pre sa sb D cy (zC D cy ad n K N G) As V L sz) (va_Qv (fun (_ : Nat → Nat) => True) (a_B D cy ad n K r (va_A (z_w (zC D cy ad n K N G) V L) sz)) (va_A (z_w (zC D cy ad n K N G) V L) sz)) r.2.1 r.2.2.1 (va_A (z_w (zC D cy ad n K N G) V L) sz)
theorem RTv.of {sa sb : Nat} {D : va_G} {cy : Nat → ClassId} {ad : Nat → Nat} {n : Nat} {K N : Nat → Nat} {G : zG} {y : MethodName} {cc : ByteArray} {nL : Nat} {fr lo : Nat} {As : List Value} {V : zI} {L : zL} {r : zS} (hy : plainName y.cls = true) (hWF : zWF n K G) (hlen : (lg_sl As).length ≤ nL)
    (body : ∀ (M : zM), RXA M D cy ad n 0 0 K N G cc nL y.cls fr lo → RZAv M D cy ad n K r → (M.2.2.2.1.cells = r.2.1 ∧ M.2.2.2.1.slots = r.2.2.1) → M.2.2.2.2.2.2.2.2.1.name = y.name → zTf M sa sb → ∀ ls : Array Slot, lv_has ls nL (lv_args 0 As) → RG (zMb M 0 0) (zC D cy ad n K N G) V L 0 ls []) : RTv sa sb D cy ad n K N G y cc nL fr lo As V L r := by
  intro l sz
  refine Met.ofW (cc := cc) (maxL := nL) (ret := none) hy rfl ?_
  intro p e s m args below meth c s₁ B hml hv
  obtain ⟨rfl, hsz, hP, hK, hD0, hNf, hSt, hStr⟩ := hv
  have hts := atoms_spec (ws := .code y cc nL (none) :: zTB) B.pre
  have hown : s.vm.findClass y.cls = some m.cls := findClass_of_methodNamed B.named
  have hnm : meth.name = y.name := (name_of_methodNamed B.named B.method).1
  subst hsz
  have hD := hD0.self (sz := s.heap.size)
  have hl := lv_entry As (n := nL) hlen
  rw [lg_entry_eq]
  generalize (lg_sl As ++ List.replicate (nL - (lg_sl As).length) Slot.unset).toArray = ls at hl ⊢
  exact body (p, l, e, (headSpec (.code y cc nL (none) :: zTB) (a_rm fr lo r.2.1 r.2.2.1)).room, s, m, As.toArray, below, meth, c, _, va_A (z_w (zC D cy ad n K N G) V L) s.heap.size, 0, 0) ⟨⟨⟨⟨⟨B.exec, B.bytes, hml, hown, fun w hw => hts w (List.mem_cons_of_mem _ hw)⟩, hK, fun q h => Or.inr h, zC_nd⟩, ⟨Nat.le_refl _, Nat.le_refl _⟩, ⟨Nat.zero_le _, Nat.zero_le _⟩⟩, hNf, hWF⟩, hSt⟩ ⟨B.returns, B.notSynchronized, rfl⟩ ⟨rfl, rfl⟩ hnm hStr ls hl s.heap [] hP hD va_S.rf
def RTi (sa sb : Nat) (D : va_G) (cy : Nat → ClassId) (ad : Nat → Nat) (n : Nat) (K N : Nat → Nat) (G : zG) (y : MethodName) (cc : ByteArray) (nL : Nat) (ty : FieldType) (fr lo : Nat) (As : List Value) (V : zI) (L : zL) (v : Int32) (r : zS) : Prop := ∀ (l : Launch) (sz : Nat), Met l y (.code y cc nL (some ty) :: zTB) (a_rm fr lo r.2.1 r.2.2.1) (t_Pre sa sb D cy (zC D cy ad n K N G) As V L sz) (va_Qi (fun x (_ : Nat → Nat) => x = v) (a_B D cy ad n K r (va_A (z_w (zC D cy ad n K N G) V L) sz)) (va_A (z_w (zC D cy ad n K N G) V L) sz)) r.2.1 r.2.2.1 (va_A (z_w (zC D cy ad n K N G) V L) sz)
theorem RTi.of {sa sb : Nat} {D : va_G} {cy : Nat → ClassId} {ad : Nat → Nat} {n : Nat} {K N : Nat → Nat} {G : zG} {y : MethodName} {cc : ByteArray} {nL : Nat} {ty : FieldType} {fr lo : Nat} {As : List Value} {V : zI} {L : zL} {v : Int32} {r : zS} (hy : plainName y.cls = true) (hWF : zWF n K G) (hlen : (lg_sl As).length ≤ nL)
    (body : ∀ (M : zM), RXA M D cy ad n 0 0 K N G cc nL y.cls fr lo → RZAi M D cy ad n K ty v r → (M.2.2.2.1.cells = r.2.1 ∧ M.2.2.2.1.slots = r.2.2.1) → M.2.2.2.2.2.2.2.2.1.name = y.name → zTf M sa sb → ∀ ls : Array Slot, lv_has ls nL (lv_args 0 As) → RG (zMb M 0 0) (zC D cy ad n K N G) V L 0 ls []) : RTi sa sb D cy ad n K N G y cc nL ty fr lo As V L v r := by
  intro l sz
  refine Met.ofW (cc := cc) (maxL := nL) (ret := some ty) hy rfl ?_
  intro p e s m args below meth c s₁ B hml hv
  obtain ⟨rfl, hsz, hP, hK, hD0, hNf, hSt, hStr⟩ := hv
  have hts := atoms_spec (ws := .code y cc nL (some ty) :: zTB) B.pre
  have hown : s.vm.findClass y.cls = some m.cls := findClass_of_methodNamed B.named
  have hnm : meth.name = y.name := (name_of_methodNamed B.named B.method).1
  subst hsz
  have hD := hD0.self (sz := s.heap.size)
  have hl := lv_entry As (n := nL) hlen
  rw [lg_entry_eq]
  generalize (lg_sl As ++ List.replicate (nL - (lg_sl As).length) Slot.unset).toArray = ls at hl ⊢
  exact body (p, l, e, (headSpec (.code y cc nL (some ty) :: zTB) (a_rm fr lo r.2.1 r.2.2.1)).room, s, m, As.toArray, below, meth, c, _, va_A (z_w (zC D cy ad n K N G) V L) s.heap.size, 0, 0) ⟨⟨⟨⟨⟨B.exec, B.bytes, hml, hown, fun w hw => hts w (List.mem_cons_of_mem _ hw)⟩, hK, fun q h => Or.inr h, zC_nd⟩, ⟨Nat.le_refl _, Nat.le_refl _⟩, ⟨Nat.zero_le _, Nat.zero_le _⟩⟩, hNf, hWF⟩, hSt⟩ ⟨B.returns, B.notSynchronized, rfl⟩ ⟨rfl, rfl⟩ hnm hStr ls hl s.heap [] hP hD va_S.rf
theorem t_callVv {sa sb : Nat} {M : zM} {D : va_G} {cy : Nat → ClassId} {ad : Nat → Nat} {n c q : Nat} {K N : Nat → Nat} {G : zG} {V : zI} {L : zL} {cc : ByteArray} {nL : Nat} {own : String} {fr lo pc : Nat} {ls : Array Slot} {st : List Value} {cc2 : ByteArray} {stk : List Value} {fr2 lo2 n2 idx np : Nat} {w ci Nf : Nat} {T : u_T} {y : MethodName} {r : zS} (As : List Value) (X : RXA M D cy ad n c q K N G cc nL own fr lo) (hls : ls.size = nL) (hT : zTf M sa sb) (hM : RTv sa sb D cy ad n K N G y cc2 n2 fr2 lo2 (.ref (ad w) :: As) V L r) (hw : w < n ∧ K w = ci) (hc : ci < 100 ∧ zcl[ci]? = some (y.cls, T, Nf)) (hlk : zMk own idx y) (gc : Cond.code y cc2 n2 (none) ∈ zTB ∧ Cond.initialized y.cls ∈ zTB ∧ Cond.instanceMethod y ∈ zTB ∧ Cond.selects y.cls y y ∈ zTB) (hnp : As.length = np) (hd : (y.cls ≠ "java/lang/invoke/MethodHandle" ∧ y.cls ≠ "java/lang/invoke/VarHandle") ∧ (parseMethodDescriptor y.desc).map (fun d => d.parameters.length) = some np) (hR : fr2 + 1 ≤ fr ∧ 8 + (n2 + 11) + lo2 ≤ lo) (hroom : (st.map fun v => v.category).sum ≤ 8) (hstk : stk = As.reverse ++ .ref (ad w) :: st) (hcc : c + r.2.1 ≤ M.2.2.2.1.cells ∧ q + r.2.2.1 ≤ M.2.2.2.1.slots) (d : decode cc pc = .ok (.invokevirtual idx, 3)) (k : ∀ ad' : Nat → Nat, (∀ w, w < n → ad' w = ad w) → n ≤ r.1 → (∀ w, w < n → r.2.2.2.1 w = K w) → RXA M D cy ad' r.1 (c + r.2.1) (q + r.2.2.1) r.2.2.2.1 r.2.2.2.2.1 r.2.2.2.2.2.1 cc nL own fr lo → RG (zMb M (c + r.2.1) (q + r.2.2.1)) (zC D cy ad' r.1 r.2.2.2.1 r.2.2.2.2.1 r.2.2.2.2.2.1) r.2.2.2.2.2.2.1 r.2.2.2.2.2.2.2 (pc + 3) ls (st)) : RG (zMb M c q) (zC D cy ad n K N G) V L pc ls stk := by
  have X0 := X.1.1
  have XN := X.1.2.1
  have XS := X.2
  obtain ⟨p, l, e, Ro, s, m, args, below, meth, co, Q, A, c00, q00⟩ := M
  intro H locs hP hD hS
  subst hstk
  obtain ⟨qq, hq, he⟩ := z_at (O := (zC D cy ad n K N G)) (V := V) (L := L) (w := w) (List.mem_range.mpr hw.1)
  rw [z_cellO (O := (zC D cy ad n K N G)) hw.2 hc.1] at he
  have hF : ∀ q : Nat, va_A (z_w (zC D cy ad n K N G) V L) H.size q → A q := by
    intro q h
    rcases h with ⟨k, e, h⟩ | h
    · exact hD.2 k (q, e) h
    · exact X0.1.2.2.1 q (Nat.le_trans hS.1 h)
  have hrun : va_Run p l e Ro s m args below meth co H locs c q r.2.1 r.2.2.1 (F0 m pc ls (As.reverse ++ .ref (ad w) :: st)) st (va_Qv (fun (_ : Nat → Nat) => True) (a_B D cy ad n K r (va_A (z_w (zC D cy ad n K N G) V L) H.size)) (va_A (z_w (zC D cy ad n K N G) V L) H.size) ((.ref (ad w) :: As)).toArray) (va_A (z_w (zC D cy ad n K N G) V L) H.size) := by
    rcases hlk with h | ⟨host, h⟩
    · exact va_runV (As := As) (rest := st) X0.1.1 (hM l H.size) ⟨callB_of np X0.1.1.2.2.2.2 (z_goodC gc.1) rfl rfl rfl (X0.1.1.2.2.2.2 _ gc.2.1) (X0.1.1.2.2.2.2 _ h) ⟨hd.1.1, hd.1.2, hd.2⟩ ⟨Nat.le_trans hR.1 X0.2.1.1, Nat.le_trans hR.2 X0.2.1.2⟩, X0.1.1.2.2.2.2 _ gc.2.2.1, X0.1.1.2.2.2.2 _ gc.2.2.2⟩ ⟨fun a U g mk q => by obtain ⟨q0, q1, qP, qK, qD, qN, qS, qT⟩ := q; exact ⟨q0, q1, qP, va_K.moved (u := U) (U := U.calling g mk a) (Vm.Alike.refl U.vm) qK, qD, zNf.same (u := U) (U := U.calling g mk a) rfl qN, zSt.moved (u := U) (U := U.calling g mk a) (Vm.Alike.refl U.vm) qS, zStr.same (u := U) (U := U.calling g mk a) qT rfl⟩, va_recv X0.1.2.1 hP (ci := ci) (q0 := qq) hc.2 he, fun U hU hW => ⟨rfl, by rw [hU], by rw [hU]; exact hP, va_K.moved hW.alike X0.1.2.1, hD.weaken (fun _ _ _ _ => trivial), zNf.warm hW XN, zSt.moved hW.alike XS, by rw [hU]; exact zStr.move hT hW hF hS.2.1⟩⟩ rfl hnp hls rfl (lv_room hroom) d hcc
    · exact va_runVN (As := As) (rest := st) X0.1.1 (hM l H.size) ⟨va_cnB np X0.1.1.2.2.2.2 (z_goodC gc.1) rfl rfl rfl (XN _ h) (X0.1.1.2.2.2.2 _ gc.2.1) ⟨hd.1.1, hd.1.2, hd.2⟩ ⟨Nat.le_trans hR.1 X0.2.1.1, Nat.le_trans hR.2 X0.2.1.2⟩, X0.1.1.2.2.2.2 _ gc.2.2.1, X0.1.1.2.2.2.2 _ gc.2.2.2⟩ ⟨fun a U g mk q => by obtain ⟨q0, q1, qP, qK, qD, qN, qS, qT⟩ := q; exact ⟨q0, q1, qP, va_K.moved (u := U) (U := U.calling g mk a) (Vm.Alike.refl U.vm) qK, qD, zNf.same (u := U) (U := U.calling g mk a) rfl qN, zSt.moved (u := U) (U := U.calling g mk a) (Vm.Alike.refl U.vm) qS, zStr.same (u := U) (U := U.calling g mk a) qT rfl⟩, va_recv X0.1.2.1 hP (ci := ci) (q0 := qq) hc.2 he, fun U hU hW => ⟨rfl, by rw [hU], by rw [hU]; exact hP, va_K.moved hW.alike X0.1.2.1, hD.weaken (fun _ _ _ _ => trivial), zNf.warm hW XN, zSt.moved hW.alike XS, by rw [hU]; exact zStr.move hT hW hF hS.2.1⟩⟩ rfl hnp hls rfl (lv_room hroom) d hcc
  refine va_callv hrun hS (fun q _ h => hF q h) hF (fun u t H1 locs1 ht hvm hw2 hB hz1 hk1 hS => ?_)
  obtain ⟨⟨hag, hWF, hnn, hKg⟩, hP1, hD1⟩ := hB
  rw [ht] at hP1
  exact k u hag hnn hKg ⟨⟨⟨⟨X0.1.1, X0.1.2.1, X0.1.2.2.1, zC_nd⟩, X0.2.1, ⟨hcc.1, hcc.2⟩⟩, XN, hWF⟩, XS⟩ H1 locs1 hP1 (hD1.weaken (fun _ q _ h => hF q.1 h)) hS
theorem t_callVi {sa sb : Nat} {M : zM} {D : va_G} {cy : Nat → ClassId} {ad : Nat → Nat} {n c q : Nat} {K N : Nat → Nat} {G : zG} {V : zI} {L : zL} {cc : ByteArray} {nL : Nat} {own : String} {fr lo pc : Nat} {ls : Array Slot} {st : List Value} {cc2 : ByteArray} {stk : List Value} {fr2 lo2 n2 idx np : Nat} {w ci Nf : Nat} {T : u_T} {y : MethodName} {ty : FieldType} {v : Int32} {r : zS} (As : List Value) (X : RXA M D cy ad n c q K N G cc nL own fr lo) (hls : ls.size = nL) (hT : zTf M sa sb) (hM : RTi sa sb D cy ad n K N G y cc2 n2 ty fr2 lo2 (.ref (ad w) :: As) V L v r) (hw : w < n ∧ K w = ci) (hc : ci < 100 ∧ zcl[ci]? = some (y.cls, T, Nf)) (hlk : zMk own idx y) (gc : Cond.code y cc2 n2 (some ty) ∈ zTB ∧ Cond.initialized y.cls ∈ zTB ∧ Cond.instanceMethod y ∈ zTB ∧ Cond.selects y.cls y y ∈ zTB) (hnp : As.length = np) (hd : (y.cls ≠ "java/lang/invoke/MethodHandle" ∧ y.cls ≠ "java/lang/invoke/VarHandle") ∧ (parseMethodDescriptor y.desc).map (fun d => d.parameters.length) = some np) (hR : fr2 + 1 ≤ fr ∧ 8 + (n2 + 11) + lo2 ≤ lo) (hroom : (st.map fun v => v.category).sum ≤ 8) (hstk : stk = As.reverse ++ .ref (ad w) :: st) (hcc : c + r.2.1 ≤ M.2.2.2.1.cells ∧ q + r.2.2.1 ≤ M.2.2.2.1.slots) (d : decode cc pc = .ok (.invokevirtual idx, 3)) (k : ∀ ad' : Nat → Nat, (∀ w, w < n → ad' w = ad w) → n ≤ r.1 → (∀ w, w < n → r.2.2.2.1 w = K w) → RXA M D cy ad' r.1 (c + r.2.1) (q + r.2.2.1) r.2.2.2.1 r.2.2.2.2.1 r.2.2.2.2.2.1 cc nL own fr lo → RG (zMb M (c + r.2.1) (q + r.2.2.1)) (zC D cy ad' r.1 r.2.2.2.1 r.2.2.2.2.1 r.2.2.2.2.2.1) r.2.2.2.2.2.2.1 r.2.2.2.2.2.2.2 (pc + 3) ls (.int v :: st)) : RG (zMb M c q) (zC D cy ad n K N G) V L pc ls stk := by
  have X0 := X.1.1
  have XN := X.1.2.1
  have XS := X.2
  obtain ⟨p, l, e, Ro, s, m, args, below, meth, co, Q, A, c00, q00⟩ := M
  intro H locs hP hD hS
  subst hstk
  obtain ⟨qq, hq, he⟩ := z_at (O := (zC D cy ad n K N G)) (V := V) (L := L) (w := w) (List.mem_range.mpr hw.1)
  rw [z_cellO (O := (zC D cy ad n K N G)) hw.2 hc.1] at he
  have hF : ∀ q : Nat, va_A (z_w (zC D cy ad n K N G) V L) H.size q → A q := by
    intro q h
    rcases h with ⟨k, e, h⟩ | h
    · exact hD.2 k (q, e) h
    · exact X0.1.2.2.1 q (Nat.le_trans hS.1 h)
  have hrun : va_Run p l e Ro s m args below meth co H locs c q r.2.1 r.2.2.1 (F0 m pc ls (As.reverse ++ .ref (ad w) :: st)) st (va_Qi (fun x (_ : Nat → Nat) => x = v) (a_B D cy ad n K r (va_A (z_w (zC D cy ad n K N G) V L) H.size)) (va_A (z_w (zC D cy ad n K N G) V L) H.size) ((.ref (ad w) :: As)).toArray) (va_A (z_w (zC D cy ad n K N G) V L) H.size) := by
    rcases hlk with h | ⟨host, h⟩
    · exact va_runV (As := As) (rest := st) X0.1.1 (hM l H.size) ⟨callB_of np X0.1.1.2.2.2.2 (z_goodC gc.1) rfl rfl rfl (X0.1.1.2.2.2.2 _ gc.2.1) (X0.1.1.2.2.2.2 _ h) ⟨hd.1.1, hd.1.2, hd.2⟩ ⟨Nat.le_trans hR.1 X0.2.1.1, Nat.le_trans hR.2 X0.2.1.2⟩, X0.1.1.2.2.2.2 _ gc.2.2.1, X0.1.1.2.2.2.2 _ gc.2.2.2⟩ ⟨fun a U g mk q => by obtain ⟨q0, q1, qP, qK, qD, qN, qS, qT⟩ := q; exact ⟨q0, q1, qP, va_K.moved (u := U) (U := U.calling g mk a) (Vm.Alike.refl U.vm) qK, qD, zNf.same (u := U) (U := U.calling g mk a) rfl qN, zSt.moved (u := U) (U := U.calling g mk a) (Vm.Alike.refl U.vm) qS, zStr.same (u := U) (U := U.calling g mk a) qT rfl⟩, va_recv X0.1.2.1 hP (ci := ci) (q0 := qq) hc.2 he, fun U hU hW => ⟨rfl, by rw [hU], by rw [hU]; exact hP, va_K.moved hW.alike X0.1.2.1, hD.weaken (fun _ _ _ _ => trivial), zNf.warm hW XN, zSt.moved hW.alike XS, by rw [hU]; exact zStr.move hT hW hF hS.2.1⟩⟩ rfl hnp hls rfl (lv_room hroom) d hcc
    · exact va_runVN (As := As) (rest := st) X0.1.1 (hM l H.size) ⟨va_cnB np X0.1.1.2.2.2.2 (z_goodC gc.1) rfl rfl rfl (XN _ h) (X0.1.1.2.2.2.2 _ gc.2.1) ⟨hd.1.1, hd.1.2, hd.2⟩ ⟨Nat.le_trans hR.1 X0.2.1.1, Nat.le_trans hR.2 X0.2.1.2⟩, X0.1.1.2.2.2.2 _ gc.2.2.1, X0.1.1.2.2.2.2 _ gc.2.2.2⟩ ⟨fun a U g mk q => by obtain ⟨q0, q1, qP, qK, qD, qN, qS, qT⟩ := q; exact ⟨q0, q1, qP, va_K.moved (u := U) (U := U.calling g mk a) (Vm.Alike.refl U.vm) qK, qD, zNf.same (u := U) (U := U.calling g mk a) rfl qN, zSt.moved (u := U) (U := U.calling g mk a) (Vm.Alike.refl U.vm) qS, zStr.same (u := U) (U := U.calling g mk a) qT rfl⟩, va_recv X0.1.2.1 hP (ci := ci) (q0 := qq) hc.2 he, fun U hU hW => ⟨rfl, by rw [hU], by rw [hU]; exact hP, va_K.moved hW.alike X0.1.2.1, hD.weaken (fun _ _ _ _ => trivial), zNf.warm hW XN, zSt.moved hW.alike XS, by rw [hU]; exact zStr.move hT hW hF hS.2.1⟩⟩ rfl hnp hls rfl (lv_room hroom) d hcc
  refine va_calli hrun hS (fun q _ h => hF q h) hF (fun ri u t H1 locs1 ht hvm hw2 hB hz1 hk1 hS => ?_)
  subst hw2
  obtain ⟨⟨hag, hWF, hnn, hKg⟩, hP1, hD1⟩ := hB
  rw [ht] at hP1
  exact k u hag hnn hKg ⟨⟨⟨⟨X0.1.1, X0.1.2.1, X0.1.2.2.1, zC_nd⟩, X0.2.1, ⟨hcc.1, hcc.2⟩⟩, XN, hWF⟩, XS⟩ H1 locs1 hP1 (hD1.weaken (fun _ q _ h => hF q.1 h)) hS
theorem t_callIv {sa sb : Nat} {M : zM} {D : va_G} {cy : Nat → ClassId} {ad : Nat → Nat} {n c q : Nat} {K N : Nat → Nat} {G : zG} {V : zI} {L : zL} {cc : ByteArray} {nL : Nat} {own : String} {fr lo pc : Nat} {ls : Array Slot} {st : List Value} {cc2 : ByteArray} {stk : List Value} {fr2 lo2 n2 idx np : Nat} {w ci Nf : Nat} {T : u_T} {y : MethodName} {r : zS} (As : List Value) (X : RXA M D cy ad n c q K N G cc nL own fr lo) (hls : ls.size = nL) (hT : zTf M sa sb) (hM : RTv sa sb D cy ad n K N G y cc2 n2 fr2 lo2 (.ref (ad w) :: As) V L r) (hw : w < n ∧ K w = ci) (hc : ci < 100 ∧ zcl[ci]? = some (y.cls, T, Nf)) (hlk : zMk own idx y) (gc : Cond.code y cc2 n2 (none) ∈ zTB ∧ Cond.initialized y.cls ∈ zTB ∧ Cond.instanceMethod y ∈ zTB ∧ y.name = "<init>") (hnp : As.length = np) (hd : (y.cls ≠ "java/lang/invoke/MethodHandle" ∧ y.cls ≠ "java/lang/invoke/VarHandle") ∧ (parseMethodDescriptor y.desc).map (fun d => d.parameters.length) = some np) (hR : fr2 + 1 ≤ fr ∧ 8 + (n2 + 11) + lo2 ≤ lo) (hroom : (st.map fun v => v.category).sum ≤ 8) (hstk : stk = As.reverse ++ .ref (ad w) :: st) (hcc : c + r.2.1 ≤ M.2.2.2.1.cells ∧ q + r.2.2.1 ≤ M.2.2.2.1.slots) (d : decode cc pc = .ok (.invokespecial idx, 3)) (k : ∀ ad' : Nat → Nat, (∀ w, w < n → ad' w = ad w) → n ≤ r.1 → (∀ w, w < n → r.2.2.2.1 w = K w) → RXA M D cy ad' r.1 (c + r.2.1) (q + r.2.2.1) r.2.2.2.1 r.2.2.2.2.1 r.2.2.2.2.2.1 cc nL own fr lo → RG (zMb M (c + r.2.1) (q + r.2.2.1)) (zC D cy ad' r.1 r.2.2.2.1 r.2.2.2.2.1 r.2.2.2.2.2.1) r.2.2.2.2.2.2.1 r.2.2.2.2.2.2.2 (pc + 3) ls (st)) : RG (zMb M c q) (zC D cy ad n K N G) V L pc ls stk := by
  have X0 := X.1.1
  have XN := X.1.2.1
  have XS := X.2
  obtain ⟨p, l, e, Ro, s, m, args, below, meth, co, Q, A, c00, q00⟩ := M
  intro H locs hP hD hS
  subst hstk
  have hF : ∀ q : Nat, va_A (z_w (zC D cy ad n K N G) V L) H.size q → A q := by
    intro q h
    rcases h with ⟨k, e, h⟩ | h
    · exact hD.2 k (q, e) h
    · exact X0.1.2.2.1 q (Nat.le_trans hS.1 h)
  have hrun : va_Run p l e Ro s m args below meth co H locs c q r.2.1 r.2.2.1 (F0 m pc ls (As.reverse ++ .ref (ad w) :: st)) st (va_Qv (fun (_ : Nat → Nat) => True) (a_B D cy ad n K r (va_A (z_w (zC D cy ad n K N G) V L) H.size)) (va_A (z_w (zC D cy ad n K N G) V L) H.size) ((.ref (ad w) :: As)).toArray) (va_A (z_w (zC D cy ad n K N G) V L) H.size) := by
    rcases hlk with h | ⟨host, h⟩
    · exact va_runI (As := As) (rest := st) X0.1.1 (hM l H.size) ⟨callB_of np X0.1.1.2.2.2.2 (z_goodC gc.1) rfl rfl rfl (X0.1.1.2.2.2.2 _ gc.2.1) (X0.1.1.2.2.2.2 _ h) ⟨hd.1.1, hd.1.2, hd.2⟩ ⟨Nat.le_trans hR.1 X0.2.1.1, Nat.le_trans hR.2 X0.2.1.2⟩, gc.2.2.2, X0.1.1.2.2.2.2 _ gc.2.2.1⟩ ⟨fun a U g mk q => by obtain ⟨q0, q1, qP, qK, qD, qN, qS, qT⟩ := q; exact ⟨q0, q1, qP, va_K.moved (u := U) (U := U.calling g mk a) (Vm.Alike.refl U.vm) qK, qD, zNf.same (u := U) (U := U.calling g mk a) rfl qN, zSt.moved (u := U) (U := U.calling g mk a) (Vm.Alike.refl U.vm) qS, zStr.same (u := U) (U := U.calling g mk a) qT rfl⟩, fun U hU hW => ⟨rfl, by rw [hU], by rw [hU]; exact hP, va_K.moved hW.alike X0.1.2.1, hD.weaken (fun _ _ _ _ => trivial), zNf.warm hW XN, zSt.moved hW.alike XS, by rw [hU]; exact zStr.move hT hW hF hS.2.1⟩⟩ rfl hnp hls rfl (lv_room hroom) d hcc
    · exact va_runIN (As := As) (rest := st) X0.1.1 (hM l H.size) ⟨va_cnB np X0.1.1.2.2.2.2 (z_goodC gc.1) rfl rfl rfl (XN _ h) (X0.1.1.2.2.2.2 _ gc.2.1) ⟨hd.1.1, hd.1.2, hd.2⟩ ⟨Nat.le_trans hR.1 X0.2.1.1, Nat.le_trans hR.2 X0.2.1.2⟩, gc.2.2.2, X0.1.1.2.2.2.2 _ gc.2.2.1⟩ ⟨fun a U g mk q => by obtain ⟨q0, q1, qP, qK, qD, qN, qS, qT⟩ := q; exact ⟨q0, q1, qP, va_K.moved (u := U) (U := U.calling g mk a) (Vm.Alike.refl U.vm) qK, qD, zNf.same (u := U) (U := U.calling g mk a) rfl qN, zSt.moved (u := U) (U := U.calling g mk a) (Vm.Alike.refl U.vm) qS, zStr.same (u := U) (U := U.calling g mk a) qT rfl⟩, fun U hU hW => ⟨rfl, by rw [hU], by rw [hU]; exact hP, va_K.moved hW.alike X0.1.2.1, hD.weaken (fun _ _ _ _ => trivial), zNf.warm hW XN, zSt.moved hW.alike XS, by rw [hU]; exact zStr.move hT hW hF hS.2.1⟩⟩ rfl hnp hls rfl (lv_room hroom) d hcc
  refine va_callv hrun hS (fun q _ h => hF q h) hF (fun u t H1 locs1 ht hvm hw2 hB hz1 hk1 hS => ?_)
  obtain ⟨⟨hag, hWF, hnn, hKg⟩, hP1, hD1⟩ := hB
  rw [ht] at hP1
  exact k u hag hnn hKg ⟨⟨⟨⟨X0.1.1, X0.1.2.1, X0.1.2.2.1, zC_nd⟩, X0.2.1, ⟨hcc.1, hcc.2⟩⟩, XN, hWF⟩, XS⟩ H1 locs1 hP1 (hD1.weaken (fun _ q _ h => hF q.1 h)) hS
theorem t_ldc {M : zM} {D : va_G} {cy : Nat → ClassId} {ad : Nat → Nat} {n c q : Nat} {K N : Nat → Nat} {G : zG} {V : zI} {L : zL} {cc : ByteArray} {nL : Nat} {fr lo pc : Nat} {ls : Array Slot} {st : List Value} {sa sb : Nat} (X : RXA M D cy ad n c q K N G cc nL RX8 fr lo) (hT : zTf M sa sb) (d : decode cc pc = .ok (.ldc 47, 2)) (k : RG (zMb M c q) (zC D cy ad n K N G) V L (pc + 2) ls (.ref sa :: st)) : RG (zMb M c q) (zC D cy ad n K N G) V L pc ls st := by
  have X0 := X.1.1
  obtain ⟨p, l, e, Ro, s, m, args, below, meth, co, Q, A, c00, q00⟩ := M
  exact fun H locs hP hD hS => va_ldcS X0.1.1.1 X0.1.1.2.1 X0.1.1.2.2.2.1 hT.1 d (k H locs hP hD hS)
theorem t_length {M : zM} {D : va_G} {cy : Nat → ClassId} {ad : Nat → Nat} {n c q : Nat} {K N : Nat → Nat} {G : zG} {V : zI} {L : zL} {cc : ByteArray} {nL : Nat} {fr lo pc : Nat} {ls : Array Slot} {st : List Value} {sa sb : Nat} (X : RXA M D cy ad n c q K N G cc nL RX8 fr lo) (hT : zTf M sa sb) (hls : ls.size = nL) (hR : 1 + 1 ≤ fr ∧ 40 ≤ lo) (hroom : (st.map fun v => v.category).sum ≤ 8) (d : decode cc pc = .ok (.invokevirtual 49, 3)) (k : RG (zMb M c q) (zC D cy ad n K N G) V L (pc + 3) ls (.int 104 :: st)) : RG (zMb M c q) (zC D cy ad n K N G) V L pc ls (.ref sa :: st) := by
  have X0 := X.1.1
  obtain ⟨p, l, e, Ro, s, m, args, below, meth, co, Q, A, c00, q00⟩ := M
  intro H locs hP hD hS
  have hz : zStr zF0 sa sb s H := by
    obtain ⟨h1, h2, h3, h4, h5, h6, fm, h7, h8⟩ := hT
    have hq := hS.2.1
    exact ⟨h1, (h2.kept hq).narrow (fun _ h => h.elim), (h3.kept hq).narrow (fun _ h => h.elim), (h4.kept hq).narrow (fun _ h => h.elim), (h5.kept hq).narrow (fun _ h => h.elim), (h6.kept hq).narrow (fun _ h => h.elim), fm, h7, (h8.kept hq).narrow (fun _ h => h.elim)⟩
  refine vp_callSi (W.runV (C := "java/lang/String") (As := []) (rest := st) X0.1.1 (j_J0_length_8abf5 l (sa := sa) (sb := sb)) ⟨callB_of 0 X0.1.1.2.2.2.2 (z_goodC (zmT2 88 (by decide +kernel) rfl)) rfl rfl rfl (X0.1.1.2.2.2.2 _ (zmT1 10 (by decide +kernel) rfl)) (X0.1.1.2.2.2.2 _ (zmT2 85 (by decide +kernel) rfl)) ⟨by decide, by decide, by decide +kernel⟩ ⟨Nat.le_trans hR.1 X0.2.1.1, Nat.le_trans hR.2 X0.2.1.2⟩, X0.1.1.2.2.2.2 _ (zmT2 86 (by decide +kernel) rfl), X0.1.1.2.2.2.2 _ (zmT2 87 (by decide +kernel) rfl)⟩ ⟨j_blind, (by obtain ⟨-, ⟨cell, q1, q2, q3, -⟩, -⟩ := hz; exact ⟨cell, q1, q2, q3⟩), fun U hU hW => ⟨rfl, by show zStr zF0 sa sb U U.heap; rw [hU]; exact hz.move hW (fun _ h => h) (fun _ _ _ => rfl)⟩⟩ rfl rfl hls rfl (lv_room hroom) d ⟨X0.2.2.1, X0.2.2.2⟩) (fun r hr => ?_)
  subst hr
  exact k H locs hP hD hS
theorem t_charAt {M : zM} {D : va_G} {cy : Nat → ClassId} {ad : Nat → Nat} {n c q : Nat} {K N : Nat → Nat} {G : zG} {V : zI} {L : zL} {cc : ByteArray} {nL : Nat} {fr lo pc : Nat} {ls : Array Slot} {st : List Value} {sa sb : Nat} {i : Int32} (X : RXA M D cy ad n c q K N G cc nL RX8 fr lo) (hT : zTf M sa sb) (hls : ls.size = nL) (hi : inB i 104) (hR : 3 + 1 ≤ fr ∧ 85 ≤ lo) (hroom : (st.map fun v => v.category).sum ≤ 8) (d : decode cc pc = .ok (.invokevirtual 55, 3)) (k : RG (zMb M c q) (zC D cy ad n K N G) V L (pc + 3) ls (.int (zsb.getD i.toNatClampNeg 0 &&& 255) :: st)) : RG (zMb M c q) (zC D cy ad n K N G) V L pc ls (.int i :: .ref sa :: st) := by
  have X0 := X.1.1
  obtain ⟨p, l, e, Ro, s, m, args, below, meth, co, Q, A, c00, q00⟩ := M
  intro H locs hP hD hS
  have hz : zStr zF0 sa sb s H := by
    obtain ⟨h1, h2, h3, h4, h5, h6, fm, h7, h8⟩ := hT
    have hq := hS.2.1
    exact ⟨h1, (h2.kept hq).narrow (fun _ h => h.elim), (h3.kept hq).narrow (fun _ h => h.elim), (h4.kept hq).narrow (fun _ h => h.elim), (h5.kept hq).narrow (fun _ h => h.elim), (h6.kept hq).narrow (fun _ h => h.elim), fm, h7, (h8.kept hq).narrow (fun _ h => h.elim)⟩
  refine vp_callSi (W.runV (C := "java/lang/String") (As := [.int i]) (rest := st) X0.1.1 (j_J0_charAt_5068e l (sa := sa) (sb := sb) hi) ⟨callB_of 1 X0.1.1.2.2.2.2 (z_goodC (zmT2 98 (by decide +kernel) rfl)) rfl rfl rfl (X0.1.1.2.2.2.2 _ (zmT1 10 (by decide +kernel) rfl)) (X0.1.1.2.2.2.2 _ (zmT2 95 (by decide +kernel) rfl)) ⟨by decide, by decide, by decide +kernel⟩ ⟨Nat.le_trans hR.1 X0.2.1.1, Nat.le_trans hR.2 X0.2.1.2⟩, X0.1.1.2.2.2.2 _ (zmT2 96 (by decide +kernel) rfl), X0.1.1.2.2.2.2 _ (zmT2 97 (by decide +kernel) rfl)⟩ ⟨j_blind, (by obtain ⟨-, ⟨cell, q1, q2, q3, -⟩, -⟩ := hz; exact ⟨cell, q1, q2, q3⟩), fun U hU hW => ⟨rfl, by show zStr zF0 sa sb U U.heap; rw [hU]; exact hz.move hW (fun _ h => h) (fun _ _ _ => rfl)⟩⟩ rfl rfl hls rfl (lv_room hroom) d ⟨X0.2.2.1, X0.2.2.2⟩) (fun r hr => ?_)
  subst hr
  exact k H locs hP hD hS
