def zR_K : Nat → Nat := fun w => ([9, 100, 100, 100, 100, 100, 100, 100, 100, 100, 100, 100, 103, 100, 100, 102, 100, 100, 100, 100, 100, 100, 100, 100, 100, 100, 100, 100, 103, 100, 102, 100, 100, 100, 100, 100] : List Nat).getD w 0
def zR_N : Nat → Nat := fun w => ([0, 1800, 2, 2, 72, 72, 72, 4, 6, 6, 3200, 3200, 12, 20, 20, 20, 20, 20, 500, 6, 22, 792, 792, 792, 22, 3960, 22, 4400, 500, 12, 36, 3, 6, 16, 16, 280] : List Nat).getD w 0
def zR_g : List (Option Nat) := [some 1, none, none, none, none, none, none, none, none, none, none, none, none, none, some 2, some 3, some 4, some 5, some 6, some 7, some 8, some 9, some 10, some 11, some 12, none, none, none, some 13, some 14, some 15, some 16, some 17, none, none, some 18, none, none, some 19, some 20, some 21, some 22, some 23, some 24, some 25, some 26, some 27, none, none, none, some 28, some 29, none, none, none, some 30, some 31, none, none, some 32, none, some 33, some 34, some 35, none]
def zR_G : zG := fun a k => if a = 0 then zR_g.getD k none else none
abbrev zR (D : va_G) (cy : Nat → ClassId) (ad : Nat → Nat) : zO := (D, cy, ad, List.range 36, zR_K, zR_N, zR_G)
theorem z_goodV {own C : String} {idx n : Nat} {y : MethodName} {cc : ByteArray} {ret : Option FieldType} (h1 : Cond.methodLink own idx y ∈ zTB) (h2 : Cond.instanceMethod y ∈ zTB) (h3 : Cond.selects C y y ∈ zTB) (h4 : Cond.initialized C ∈ zTB) (h5 : Cond.code y cc n ret ∈ zTB) : GoodIn zTB (wsV own idx C y (.code y cc n ret :: zTB)) := by
  have hm : ∀ w ∈ wsV own idx C y (.code y cc n ret :: zTB), w ∈ zTB := by
    intro w hw
    simp only [wsV, List.cons_append, List.nil_append, List.mem_cons] at hw
    rcases hw with rfl | rfl | rfl | rfl | rfl | hw
    all_goals assumption
  exact fun w hw => ⟨hm w hw, good_of_word (goodTB w (hm w hw))⟩
theorem z_goodS {own : String} {idx n : Nat} {y : MethodName} {cc : ByteArray} {ret : Option FieldType} (h1 : Cond.methodLink own idx y ∈ zTB) (h2 : Cond.static y ∈ zTB) (h4 : Cond.initialized own ∈ zTB) (h5 : Cond.code y cc n ret ∈ zTB) : GoodIn zTB (wsS own idx y (.code y cc n ret :: zTB)) := by
  have hm : ∀ w ∈ wsS own idx y (.code y cc n ret :: zTB), w ∈ zTB := by
    intro w hw
    simp only [wsS, List.cons_append, List.nil_append, List.mem_cons] at hw
    rcases hw with rfl | rfl | rfl | rfl | hw
    all_goals assumption
  exact fun w hw => ⟨hm w hw, good_of_word (goodTB w (hm w hw))⟩
/-- the world at a method's beginning, and behind it -/
def z_Pre (O : zO) (As : List Value) (V : zI) (L : zL) (sz : Nat) : Array Value → State → Prop := va_Pc As (fun U => U.heap.size = sz ∧ va_P O.1 zcl (z_w O V L) U.heap ∧ va_K O.1 zcl (z_tys O) U ∧ va_D (fun _ => True) (z_w O V L))
def z_B (O : zO) (A : Nat → Prop) (V' : zI) (L' : zL) : Unit → State → Prop := fun _ t => va_P O.1 zcl (z_w O V' L') t.heap ∧ va_K O.1 zcl (z_tys O) t ∧ va_D A (z_w O V' L')
def z_rm (fr lo : Nat) : Room := { frames := fr, cells := 0, slots := 0, locals := lo }
def RMi (O : zO) (y : MethodName) (cc : ByteArray) (n : Nat) (ty : FieldType) (fr lo : Nat) (As : List Value) (V : zI) (L : zL) (v : Int32) (V' : zI) (L' : zL) : Prop := ∀ (l : Launch) (sz : Nat), Met l y (.code y cc n (some ty) :: zTB) (z_rm fr lo) (z_Pre O As V L sz) (va_Qi (fun r (_ : Unit) => r = v) (z_B O (va_A (z_w O V L) sz) V' L') (va_A (z_w O V L) sz)) 0 0 (va_A (z_w O V L) sz)
def RMl (O : zO) (y : MethodName) (cc : ByteArray) (n : Nat) (fr lo : Nat) (As : List Value) (V : zI) (L : zL) (v : Int64) (V' : zI) (L' : zL) : Prop := ∀ (l : Launch) (sz : Nat), Met l y (.code y cc n (some .long) :: zTB) (z_rm fr lo) (z_Pre O As V L sz) (va_Ql (fun r (_ : Unit) => r = v) (z_B O (va_A (z_w O V L) sz) V' L') (va_A (z_w O V L) sz)) 0 0 (va_A (z_w O V L) sz)
def RMv (O : zO) (y : MethodName) (cc : ByteArray) (n : Nat) (fr lo : Nat) (As : List Value) (V : zI) (L : zL) (V' : zI) (L' : zL) : Prop := ∀ (l : Launch) (sz : Nat), Met l y (.code y cc n none :: zTB) (z_rm fr lo) (z_Pre O As V L sz) (va_Qv (fun (_ : Unit) => True) (z_B O (va_A (z_w O V L) sz) V' L') (va_A (z_w O V L) sz)) 0 0 (va_A (z_w O V L) sz)
def RZi (M : zM) (O : zO) (ty : FieldType) (v : Int32) (V' : zI) (L' : zL) : Prop := match M with
  | (_, _, _, _, s, _, args, below, meth, _, Q, A, cells, slots) => meth.sig.returnType = some ty ∧ meth.locks = false ∧ Q = MQ below (va_Qi (fun r (_ : Unit) => r = v) (z_B O A V' L') A) args s cells slots A
def RZl (M : zM) (O : zO) (v : Int64) (V' : zI) (L' : zL) : Prop := match M with
  | (_, _, _, _, s, _, args, below, meth, _, Q, A, cells, slots) => meth.sig.returnType = some .long ∧ meth.locks = false ∧ Q = MQ below (va_Ql (fun r (_ : Unit) => r = v) (z_B O A V' L') A) args s cells slots A
def RZv (M : zM) (O : zO) (V' : zI) (L' : zL) : Prop := match M with
  | (_, _, _, _, s, _, args, below, meth, _, Q, A, cells, slots) => meth.sig.returnType = none ∧ meth.locks = false ∧ Q = MQ below (va_Qv (fun (_ : Unit) => True) (z_B O A V' L') A) args s cells slots A
theorem z_iret {M : zM} {O : zO} {V' : zI} {L' : zL} {cc : ByteArray} {nL : Nat} {own : String} {fr lo pc : Nat} {ls : Array Slot} {ty : FieldType} {v : Int32} (X : RX M O cc nL own fr lo) (Z : RZi M O ty v V' L') (hn : narrow ty (.int v) = .int v) (d : decode cc pc = .ok (.ireturn, 1)) : RG M O V' L' pc ls [.int v] := by
  obtain ⟨p, l, e, Ro, s, m, args, below, meth, c, Q, A, cells, slots⟩ := M
  obtain ⟨hr, hlk, rfl⟩ := Z
  intro H locs hP hD hS
  exact W.zret X.1.1.1 X.1.1.2.1 hr hn (fun t ht hW => ⟨⟨v, (), rfl, rfl, by rw [ht]; exact hP, va_K.moved hW.alike X.1.2.1, hD⟩, hS.F ht⟩) hS.2.2 d hlk
theorem z_lret {M : zM} {O : zO} {V' : zI} {L' : zL} {cc : ByteArray} {nL : Nat} {own : String} {fr lo pc : Nat} {ls : Array Slot} {v : Int64} (X : RX M O cc nL own fr lo) (Z : RZl M O v V' L') (d : decode cc pc = .ok (.lreturn, 1)) : RG M O V' L' pc ls [.long v] := by
  obtain ⟨p, l, e, Ro, s, m, args, below, meth, c, Q, A, cells, slots⟩ := M
  obtain ⟨hr, hlk, rfl⟩ := Z
  intro H locs hP hD hS
  exact W.lret X.1.1.1 X.1.1.2.1 hr (fun t ht hW => ⟨⟨v, (), rfl, rfl, by rw [ht]; exact hP, va_K.moved hW.alike X.1.2.1, hD⟩, hS.F ht⟩) hS.2.2 d hlk
theorem z_vret {M : zM} {O : zO} {V' : zI} {L' : zL} {cc : ByteArray} {nL : Nat} {own : String} {fr lo pc : Nat} {ls : Array Slot} (X : RX M O cc nL own fr lo) (Z : RZv M O V' L') (d : decode cc pc = .ok (.return_, 1)) : RG M O V' L' pc ls [] := by
  obtain ⟨p, l, e, Ro, s, m, args, below, meth, c, Q, A, cells, slots⟩ := M
  obtain ⟨hr, hlk, rfl⟩ := Z
  intro H locs hP hD hS
  exact W.vret X.1.1.1 X.1.1.2.1 hr (fun t ht hW => ⟨⟨(), rfl, trivial, by rw [ht]; exact hP, va_K.moved hW.alike X.1.2.1, hD⟩, hS.F ht⟩) hS.2.2 d hlk
theorem RMi.of {O : zO} {y : MethodName} {cc : ByteArray} {n : Nat} {ty : FieldType} {fr lo : Nat} {As : List Value} {V : zI} {L : zL} {v : Int32} {V' : zI} {L' : zL} (hy : plainName y.cls = true) (hn : ∀ i j w : Nat, (z_P O)[i]? = some w → (z_P O)[j]? = some w → i = j) (hlen : (lg_sl As).length ≤ n)
    (body : ∀ (M : zM), RX M O cc n y.cls fr lo → RZi M O ty v V' L' → ∀ ls : Array Slot, lv_has ls n (lv_args 0 As) → RG M O V L 0 ls []) : RMi O y cc n ty fr lo As V L v V' L' := by
  intro l sz
  refine Met.ofW (cc := cc) (maxL := n) (ret := some ty) hy rfl ?_
  intro p e s m args below meth c s₁ B hml hv
  obtain ⟨rfl, hsz, hP, hK, hD0⟩ := hv
  have hts := atoms_spec (ws := .code y cc n (some ty) :: zTB) B.pre
  have hown : s.vm.findClass y.cls = some m.cls := findClass_of_methodNamed B.named
  subst hsz
  have hD := hD0.self (sz := s.heap.size)
  have hl := lv_entry As (n := n) hlen
  rw [lg_entry_eq]
  generalize (lg_sl As ++ List.replicate (n - (lg_sl As).length) Slot.unset).toArray = ls at hl ⊢
  exact body (p, l, e, (headSpec (.code y cc n (some ty) :: zTB) (z_rm fr lo)).room, s, m, As.toArray, below, meth, c, _, va_A (z_w O V L) s.heap.size, 0, 0) ⟨⟨⟨B.exec, B.bytes, hml, hown, fun w hw => hts w (List.mem_cons_of_mem _ hw)⟩, hK, fun q h => Or.inr h, hn⟩, ⟨Nat.le_refl _, Nat.le_refl _⟩, ⟨Nat.zero_le _, Nat.zero_le _⟩⟩ ⟨B.returns, B.notSynchronized, rfl⟩ ls hl s.heap [] hP hD va_S.rf
theorem RMl.of {O : zO} {y : MethodName} {cc : ByteArray} {n : Nat} {fr lo : Nat} {As : List Value} {V : zI} {L : zL} {v : Int64} {V' : zI} {L' : zL} (hy : plainName y.cls = true) (hn : ∀ i j w : Nat, (z_P O)[i]? = some w → (z_P O)[j]? = some w → i = j) (hlen : (lg_sl As).length ≤ n)
    (body : ∀ (M : zM), RX M O cc n y.cls fr lo → RZl M O v V' L' → ∀ ls : Array Slot, lv_has ls n (lv_args 0 As) → RG M O V L 0 ls []) : RMl O y cc n fr lo As V L v V' L' := by
  intro l sz
  refine Met.ofW (cc := cc) (maxL := n) (ret := some .long) hy rfl ?_
  intro p e s m args below meth c s₁ B hml hv
  obtain ⟨rfl, hsz, hP, hK, hD0⟩ := hv
  have hts := atoms_spec (ws := .code y cc n (some .long) :: zTB) B.pre
  have hown : s.vm.findClass y.cls = some m.cls := findClass_of_methodNamed B.named
  subst hsz
  have hD := hD0.self (sz := s.heap.size)
  have hl := lv_entry As (n := n) hlen
  rw [lg_entry_eq]
  generalize (lg_sl As ++ List.replicate (n - (lg_sl As).length) Slot.unset).toArray = ls at hl ⊢
  exact body (p, l, e, (headSpec (.code y cc n (some .long) :: zTB) (z_rm fr lo)).room, s, m, As.toArray, below, meth, c, _, va_A (z_w O V L) s.heap.size, 0, 0) ⟨⟨⟨B.exec, B.bytes, hml, hown, fun w hw => hts w (List.mem_cons_of_mem _ hw)⟩, hK, fun q h => Or.inr h, hn⟩, ⟨Nat.le_refl _, Nat.le_refl _⟩, ⟨Nat.zero_le _, Nat.zero_le _⟩⟩ ⟨B.returns, B.notSynchronized, rfl⟩ ls hl s.heap [] hP hD va_S.rf
theorem RMv.of {O : zO} {y : MethodName} {cc : ByteArray} {n : Nat} {fr lo : Nat} {As : List Value} {V : zI} {L : zL} {V' : zI} {L' : zL} (hy : plainName y.cls = true) (hn : ∀ i j w : Nat, (z_P O)[i]? = some w → (z_P O)[j]? = some w → i = j) (hlen : (lg_sl As).length ≤ n)
    (body : ∀ (M : zM), RX M O cc n y.cls fr lo → RZv M O V' L' → ∀ ls : Array Slot, lv_has ls n (lv_args 0 As) → RG M O V L 0 ls []) : RMv O y cc n fr lo As V L V' L' := by
  intro l sz
  refine Met.ofW (cc := cc) (maxL := n) (ret := none) hy rfl ?_
  intro p e s m args below meth c s₁ B hml hv
  obtain ⟨rfl, hsz, hP, hK, hD0⟩ := hv
  have hts := atoms_spec (ws := .code y cc n (none) :: zTB) B.pre
  have hown : s.vm.findClass y.cls = some m.cls := findClass_of_methodNamed B.named
  subst hsz
  have hD := hD0.self (sz := s.heap.size)
  have hl := lv_entry As (n := n) hlen
  rw [lg_entry_eq]
  generalize (lg_sl As ++ List.replicate (n - (lg_sl As).length) Slot.unset).toArray = ls at hl ⊢
  exact body (p, l, e, (headSpec (.code y cc n (none) :: zTB) (z_rm fr lo)).room, s, m, As.toArray, below, meth, c, _, va_A (z_w O V L) s.heap.size, 0, 0) ⟨⟨⟨B.exec, B.bytes, hml, hown, fun w hw => hts w (List.mem_cons_of_mem _ hw)⟩, hK, fun q h => Or.inr h, hn⟩, ⟨Nat.le_refl _, Nat.le_refl _⟩, ⟨Nat.zero_le _, Nat.zero_le _⟩⟩ ⟨B.returns, B.notSynchronized, rfl⟩ ls hl s.heap [] hP hD va_S.rf
theorem z_callVi {M : zM} {O : zO} {V V1 : zI} {L L1 : zL} {cc cc2 : ByteArray} {nL : Nat} {own : String} {fr lo pc fr2 lo2 n2 idx np : Nat} {ls : Array Slot} {st stk : List Value} {w ci Nf : Nat} {C : String} {T : u_T} {y : MethodName} {ty : FieldType} {v : Int32} (As : List Value) (X : RX M O cc nL own fr lo) (hls : ls.size = nL) (hM : RMi O y cc2 n2 ty fr2 lo2 (.ref (z_ad O w) :: As) V L v V1 L1) (hw : w ∈ z_P O) (hk : z_K O w = ci) (h100 : ci < 100) (hc : zcl[ci]? = some (C, T, Nf)) (hG : GoodIn zTB (wsV own idx C y (.code y cc2 n2 (some ty) :: zTB))) (hyC : y.cls = C) (hnp : As.length = np) (hd : (y.cls ≠ "java/lang/invoke/MethodHandle" ∧ y.cls ≠ "java/lang/invoke/VarHandle") ∧ (parseMethodDescriptor y.desc).map (fun d => d.parameters.length) = some np) (hR : fr2 + 1 ≤ fr ∧ 8 + (n2 + 11) + lo2 ≤ lo) (hroom : (st.map fun v => v.category).sum ≤ 8) (hstk : stk = As.reverse ++ .ref (z_ad O w) :: st) (d : decode cc pc = .ok (.invokevirtual idx, 3)) (k : RG M O V1 L1 (pc + 3) ls (.int v :: st)) : RG M O V L pc ls stk := by
  obtain ⟨p, l, e, Ro, s, m, args, below, meth, c, Q, A, cells, slots⟩ := M
  intro H locs hP hD hS
  subst hstk
  obtain ⟨q, hq, he⟩ := z_at (V := V) (L := L) hw
  rw [z_cellO hk h100] at he
  have hF : ∀ q : Nat, va_A (z_w O V L) H.size q → A q := by
    intro q h
    rcases h with ⟨k, e, h⟩ | h
    · exact hD.2 k (q, e) h
    · exact X.1.2.2.1 q (Nat.le_trans hS.1 h)
  refine va_calli (va_runV (As := As) (rest := st) X.1.1 (hM l H.size) (cwV np X.1.1.2.2.2.2 hG rfl rfl rfl ⟨hyC, hd.1.1, hd.1.2, hd.2⟩ ⟨Nat.le_trans hR.1 X.2.1.1, Nat.le_trans hR.2 X.2.1.2⟩) ⟨fun a U g mk q => by obtain ⟨q0, q1, qP, qK, qD⟩ := q; exact ⟨q0, q1, qP, va_K.moved (u := U) (U := U.calling g mk a) (Vm.Alike.refl U.vm) qK, qD⟩, va_recv X.1.2.1 hP (ci := ci) (q0 := q) hc he, fun U hU hW => ⟨rfl, by rw [hU], by rw [hU]; exact hP, va_K.moved hW.alike X.1.2.1, hD.weaken (fun _ _ _ _ => trivial)⟩⟩ rfl hnp hls rfl (lv_room hroom) d ⟨X.2.2.1, X.2.2.2⟩) hS (fun q _ h => hF q h) hF (fun r u t H1 locs1 ht hvm hw2 hB hz1 hk1 hS => ?_)
  obtain ⟨hP1, -, hD1⟩ := hB
  rw [ht] at hP1
  subst hw2
  exact k H1 locs1 hP1 (hD1.weaken (fun _ q _ h => hF q.1 h)) hS
theorem z_callVl {M : zM} {O : zO} {V V1 : zI} {L L1 : zL} {cc cc2 : ByteArray} {nL : Nat} {own : String} {fr lo pc fr2 lo2 n2 idx np : Nat} {ls : Array Slot} {st stk : List Value} {w ci Nf : Nat} {C : String} {T : u_T} {y : MethodName} {v : Int64} (As : List Value) (X : RX M O cc nL own fr lo) (hls : ls.size = nL) (hM : RMl O y cc2 n2 fr2 lo2 (.ref (z_ad O w) :: As) V L v V1 L1) (hw : w ∈ z_P O) (hk : z_K O w = ci) (h100 : ci < 100) (hc : zcl[ci]? = some (C, T, Nf)) (hG : GoodIn zTB (wsV own idx C y (.code y cc2 n2 (some .long) :: zTB))) (hyC : y.cls = C) (hnp : As.length = np) (hd : (y.cls ≠ "java/lang/invoke/MethodHandle" ∧ y.cls ≠ "java/lang/invoke/VarHandle") ∧ (parseMethodDescriptor y.desc).map (fun d => d.parameters.length) = some np) (hR : fr2 + 1 ≤ fr ∧ 8 + (n2 + 11) + lo2 ≤ lo) (hroom : (st.map fun v => v.category).sum ≤ 8) (hstk : stk = As.reverse ++ .ref (z_ad O w) :: st) (d : decode cc pc = .ok (.invokevirtual idx, 3)) (k : RG M O V1 L1 (pc + 3) ls (.long v :: st)) : RG M O V L pc ls stk := by
  obtain ⟨p, l, e, Ro, s, m, args, below, meth, c, Q, A, cells, slots⟩ := M
  intro H locs hP hD hS
  subst hstk
  obtain ⟨q, hq, he⟩ := z_at (V := V) (L := L) hw
  rw [z_cellO hk h100] at he
  have hF : ∀ q : Nat, va_A (z_w O V L) H.size q → A q := by
    intro q h
    rcases h with ⟨k, e, h⟩ | h
    · exact hD.2 k (q, e) h
    · exact X.1.2.2.1 q (Nat.le_trans hS.1 h)
  refine va_calll (va_runV (As := As) (rest := st) X.1.1 (hM l H.size) (cwV np X.1.1.2.2.2.2 hG rfl rfl rfl ⟨hyC, hd.1.1, hd.1.2, hd.2⟩ ⟨Nat.le_trans hR.1 X.2.1.1, Nat.le_trans hR.2 X.2.1.2⟩) ⟨fun a U g mk q => by obtain ⟨q0, q1, qP, qK, qD⟩ := q; exact ⟨q0, q1, qP, va_K.moved (u := U) (U := U.calling g mk a) (Vm.Alike.refl U.vm) qK, qD⟩, va_recv X.1.2.1 hP (ci := ci) (q0 := q) hc he, fun U hU hW => ⟨rfl, by rw [hU], by rw [hU]; exact hP, va_K.moved hW.alike X.1.2.1, hD.weaken (fun _ _ _ _ => trivial)⟩⟩ rfl hnp hls rfl (lv_room hroom) d ⟨X.2.2.1, X.2.2.2⟩) hS (fun q _ h => hF q h) hF (fun r u t H1 locs1 ht hvm hw2 hB hz1 hk1 hS => ?_)
  obtain ⟨hP1, -, hD1⟩ := hB
  rw [ht] at hP1
  subst hw2
  exact k H1 locs1 hP1 (hD1.weaken (fun _ q _ h => hF q.1 h)) hS
theorem z_callVv {M : zM} {O : zO} {V V1 : zI} {L L1 : zL} {cc cc2 : ByteArray} {nL : Nat} {own : String} {fr lo pc fr2 lo2 n2 idx np : Nat} {ls : Array Slot} {st stk : List Value} {w ci Nf : Nat} {C : String} {T : u_T} {y : MethodName} (As : List Value) (X : RX M O cc nL own fr lo) (hls : ls.size = nL) (hM : RMv O y cc2 n2 fr2 lo2 (.ref (z_ad O w) :: As) V L V1 L1) (hw : w ∈ z_P O) (hk : z_K O w = ci) (h100 : ci < 100) (hc : zcl[ci]? = some (C, T, Nf)) (hG : GoodIn zTB (wsV own idx C y (.code y cc2 n2 (none) :: zTB))) (hyC : y.cls = C) (hnp : As.length = np) (hd : (y.cls ≠ "java/lang/invoke/MethodHandle" ∧ y.cls ≠ "java/lang/invoke/VarHandle") ∧ (parseMethodDescriptor y.desc).map (fun d => d.parameters.length) = some np) (hR : fr2 + 1 ≤ fr ∧ 8 + (n2 + 11) + lo2 ≤ lo) (hroom : (st.map fun v => v.category).sum ≤ 8) (hstk : stk = As.reverse ++ .ref (z_ad O w) :: st) (d : decode cc pc = .ok (.invokevirtual idx, 3)) (k : RG M O V1 L1 (pc + 3) ls (st)) : RG M O V L pc ls stk := by
  obtain ⟨p, l, e, Ro, s, m, args, below, meth, c, Q, A, cells, slots⟩ := M
  intro H locs hP hD hS
  subst hstk
  obtain ⟨q, hq, he⟩ := z_at (V := V) (L := L) hw
  rw [z_cellO hk h100] at he
  have hF : ∀ q : Nat, va_A (z_w O V L) H.size q → A q := by
    intro q h
    rcases h with ⟨k, e, h⟩ | h
    · exact hD.2 k (q, e) h
    · exact X.1.2.2.1 q (Nat.le_trans hS.1 h)
  refine va_callv (va_runV (As := As) (rest := st) X.1.1 (hM l H.size) (cwV np X.1.1.2.2.2.2 hG rfl rfl rfl ⟨hyC, hd.1.1, hd.1.2, hd.2⟩ ⟨Nat.le_trans hR.1 X.2.1.1, Nat.le_trans hR.2 X.2.1.2⟩) ⟨fun a U g mk q => by obtain ⟨q0, q1, qP, qK, qD⟩ := q; exact ⟨q0, q1, qP, va_K.moved (u := U) (U := U.calling g mk a) (Vm.Alike.refl U.vm) qK, qD⟩, va_recv X.1.2.1 hP (ci := ci) (q0 := q) hc he, fun U hU hW => ⟨rfl, by rw [hU], by rw [hU]; exact hP, va_K.moved hW.alike X.1.2.1, hD.weaken (fun _ _ _ _ => trivial)⟩⟩ rfl hnp hls rfl (lv_room hroom) d ⟨X.2.2.1, X.2.2.2⟩) hS (fun q _ h => hF q h) hF (fun  u t H1 locs1 ht hvm hw2 hB hz1 hk1 hS => ?_)
  obtain ⟨hP1, -, hD1⟩ := hB
  rw [ht] at hP1
  clear hw2
  exact k H1 locs1 hP1 (hD1.weaken (fun _ q _ h => hF q.1 h)) hS
theorem z_callSi {M : zM} {O : zO} {V V1 : zI} {L L1 : zL} {cc cc2 : ByteArray} {nL : Nat} {own : String} {fr lo pc fr2 lo2 n2 idx np : Nat} {ls : Array Slot} {st stk : List Value} {y : MethodName} {ty : FieldType} {v : Int32} (As : List Value) (X : RX M O cc nL own fr lo) (hls : ls.size = nL) (hM : RMi O y cc2 n2 ty fr2 lo2 As V L v V1 L1) (hG : GoodIn zTB (wsS own idx y (.code y cc2 n2 (some ty) :: zTB))) (hyC : y.cls = own) (hnp : As.length = np) (hd : (y.cls ≠ "java/lang/invoke/MethodHandle" ∧ y.cls ≠ "java/lang/invoke/VarHandle") ∧ (parseMethodDescriptor y.desc).map (fun d => d.parameters.length) = some np) (hR : fr2 + 1 ≤ fr ∧ 8 + (n2 + 11) + lo2 ≤ lo) (hroom : (st.map fun v => v.category).sum ≤ 8) (hstk : stk = As.reverse ++ st) (d : decode cc pc = .ok (.invokestatic idx, 3)) (k : RG M O V1 L1 (pc + 3) ls (.int v :: st)) : RG M O V L pc ls stk := by
  obtain ⟨p, l, e, Ro, s, m, args, below, meth, c, Q, A, cells, slots⟩ := M
  intro H locs hP hD hS
  subst hstk
  have hF : ∀ q : Nat, va_A (z_w O V L) H.size q → A q := by
    intro q h
    rcases h with ⟨k, e, h⟩ | h
    · exact hD.2 k (q, e) h
    · exact X.1.2.2.1 q (Nat.le_trans hS.1 h)
  refine va_calli (va_runS (As := As) (rest := st) X.1.1 (hM l H.size) (cwS np X.1.1.2.2.2.2 hG rfl rfl rfl ⟨hyC, hd.1.1, hd.1.2, hd.2⟩ ⟨Nat.le_trans hR.1 X.2.1.1, Nat.le_trans hR.2 X.2.1.2⟩) ⟨fun a U g mk q => by obtain ⟨q0, q1, qP, qK, qD⟩ := q; exact ⟨q0, q1, qP, va_K.moved (u := U) (U := U.calling g mk a) (Vm.Alike.refl U.vm) qK, qD⟩, fun U hU hW => ⟨rfl, by rw [hU], by rw [hU]; exact hP, va_K.moved hW.alike X.1.2.1, hD.weaken (fun _ _ _ _ => trivial)⟩⟩ rfl hnp hls rfl (lv_room hroom) d ⟨X.2.2.1, X.2.2.2⟩) hS (fun q _ h => hF q h) hF (fun r u t H1 locs1 ht hvm hw2 hB hz1 hk1 hS => ?_)
  obtain ⟨hP1, -, hD1⟩ := hB
  rw [ht] at hP1
  subst hw2
  exact k H1 locs1 hP1 (hD1.weaken (fun _ q _ h => hF q.1 h)) hS
theorem z_callSl {M : zM} {O : zO} {V V1 : zI} {L L1 : zL} {cc cc2 : ByteArray} {nL : Nat} {own : String} {fr lo pc fr2 lo2 n2 idx np : Nat} {ls : Array Slot} {st stk : List Value} {y : MethodName} {v : Int64} (As : List Value) (X : RX M O cc nL own fr lo) (hls : ls.size = nL) (hM : RMl O y cc2 n2 fr2 lo2 As V L v V1 L1) (hG : GoodIn zTB (wsS own idx y (.code y cc2 n2 (some .long) :: zTB))) (hyC : y.cls = own) (hnp : As.length = np) (hd : (y.cls ≠ "java/lang/invoke/MethodHandle" ∧ y.cls ≠ "java/lang/invoke/VarHandle") ∧ (parseMethodDescriptor y.desc).map (fun d => d.parameters.length) = some np) (hR : fr2 + 1 ≤ fr ∧ 8 + (n2 + 11) + lo2 ≤ lo) (hroom : (st.map fun v => v.category).sum ≤ 8) (hstk : stk = As.reverse ++ st) (d : decode cc pc = .ok (.invokestatic idx, 3)) (k : RG M O V1 L1 (pc + 3) ls (.long v :: st)) : RG M O V L pc ls stk := by
  obtain ⟨p, l, e, Ro, s, m, args, below, meth, c, Q, A, cells, slots⟩ := M
  intro H locs hP hD hS
  subst hstk
  have hF : ∀ q : Nat, va_A (z_w O V L) H.size q → A q := by
    intro q h
    rcases h with ⟨k, e, h⟩ | h
    · exact hD.2 k (q, e) h
    · exact X.1.2.2.1 q (Nat.le_trans hS.1 h)
  refine va_calll (va_runS (As := As) (rest := st) X.1.1 (hM l H.size) (cwS np X.1.1.2.2.2.2 hG rfl rfl rfl ⟨hyC, hd.1.1, hd.1.2, hd.2⟩ ⟨Nat.le_trans hR.1 X.2.1.1, Nat.le_trans hR.2 X.2.1.2⟩) ⟨fun a U g mk q => by obtain ⟨q0, q1, qP, qK, qD⟩ := q; exact ⟨q0, q1, qP, va_K.moved (u := U) (U := U.calling g mk a) (Vm.Alike.refl U.vm) qK, qD⟩, fun U hU hW => ⟨rfl, by rw [hU], by rw [hU]; exact hP, va_K.moved hW.alike X.1.2.1, hD.weaken (fun _ _ _ _ => trivial)⟩⟩ rfl hnp hls rfl (lv_room hroom) d ⟨X.2.2.1, X.2.2.2⟩) hS (fun q _ h => hF q h) hF (fun r u t H1 locs1 ht hvm hw2 hB hz1 hk1 hS => ?_)
  obtain ⟨hP1, -, hD1⟩ := hB
  rw [ht] at hP1
  subst hw2
  exact k H1 locs1 hP1 (hD1.weaken (fun _ q _ h => hF q.1 h)) hS
theorem z_callSv {M : zM} {O : zO} {V V1 : zI} {L L1 : zL} {cc cc2 : ByteArray} {nL : Nat} {own : String} {fr lo pc fr2 lo2 n2 idx np : Nat} {ls : Array Slot} {st stk : List Value} {y : MethodName} (As : List Value) (X : RX M O cc nL own fr lo) (hls : ls.size = nL) (hM : RMv O y cc2 n2 fr2 lo2 As V L V1 L1) (hG : GoodIn zTB (wsS own idx y (.code y cc2 n2 (none) :: zTB))) (hyC : y.cls = own) (hnp : As.length = np) (hd : (y.cls ≠ "java/lang/invoke/MethodHandle" ∧ y.cls ≠ "java/lang/invoke/VarHandle") ∧ (parseMethodDescriptor y.desc).map (fun d => d.parameters.length) = some np) (hR : fr2 + 1 ≤ fr ∧ 8 + (n2 + 11) + lo2 ≤ lo) (hroom : (st.map fun v => v.category).sum ≤ 8) (hstk : stk = As.reverse ++ st) (d : decode cc pc = .ok (.invokestatic idx, 3)) (k : RG M O V1 L1 (pc + 3) ls (st)) : RG M O V L pc ls stk := by
  obtain ⟨p, l, e, Ro, s, m, args, below, meth, c, Q, A, cells, slots⟩ := M
  intro H locs hP hD hS
  subst hstk
  have hF : ∀ q : Nat, va_A (z_w O V L) H.size q → A q := by
    intro q h
    rcases h with ⟨k, e, h⟩ | h
    · exact hD.2 k (q, e) h
    · exact X.1.2.2.1 q (Nat.le_trans hS.1 h)
  refine va_callv (va_runS (As := As) (rest := st) X.1.1 (hM l H.size) (cwS np X.1.1.2.2.2.2 hG rfl rfl rfl ⟨hyC, hd.1.1, hd.1.2, hd.2⟩ ⟨Nat.le_trans hR.1 X.2.1.1, Nat.le_trans hR.2 X.2.1.2⟩) ⟨fun a U g mk q => by obtain ⟨q0, q1, qP, qK, qD⟩ := q; exact ⟨q0, q1, qP, va_K.moved (u := U) (U := U.calling g mk a) (Vm.Alike.refl U.vm) qK, qD⟩, fun U hU hW => ⟨rfl, by rw [hU], by rw [hU]; exact hP, va_K.moved hW.alike X.1.2.1, hD.weaken (fun _ _ _ _ => trivial)⟩⟩ rfl hnp hls rfl (lv_room hroom) d ⟨X.2.2.1, X.2.2.2⟩) hS (fun q _ h => hF q h) hF (fun  u t H1 locs1 ht hvm hw2 hB hz1 hk1 hS => ?_)
  obtain ⟨hP1, -, hD1⟩ := hB
  rw [ht] at hP1
  clear hw2
  exact k H1 locs1 hP1 (hD1.weaken (fun _ q _ h => hF q.1 h)) hS
