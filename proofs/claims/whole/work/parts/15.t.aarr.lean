theorem z_cellQ {O : zO} {V : zI} {L : zL} {w : Nat} (hk : z_K O w = 104) : z_cell O V L w = .inl (O.2.1 104, z_N O w, .inr (.inr (.inr (.inr (fun i => (z_G O w i).map (z_ad O)))))) := by
  obtain ⟨D, cy, ad, P, K, N, G⟩ := O
  have h0 : K w = 104 := hk
  simp only [z_cell]
  rw [if_neg (by rw [h0]; decide), if_neg (by rw [h0]; decide), if_pos h0]
def z_tys5 (O : zO) : List (ClassId × FieldType) := z_tys O ++ [(O.2.1 104, .object RX7)]
theorem z_K5 {D : va_G} {cy : Nat → ClassId} {ad : Nat → Nat} {n : Nat} {K N : Nat → Nat} {G : zG} {s : State} (h : va_K D zcl (z_tys (zC D cy ad n K N G)) s) (h2 : zSt s cy) : va_K D zcl (z_tys5 (zC D cy ad n K N G)) s := h.app ⟨h.1, fun k q hk => by
  have hz : k < 1 := (List.getElem?_eq_some_iff.mp hk).1
  rw [show k = 0 by omega] at hk
  cases hk
  exact h2.1⟩
theorem a_aaldN {M : zM} {D : va_G} {cy : Nat → ClassId} {ad : Nat → Nat} {n c q : Nat} {K N : Nat → Nat} {G : zG} {V : zI} {L : zL} {cc : ByteArray} {nL : Nat} {own : String} {fr lo pc : Nat} {ls : Array Slot} {st : List Value} {w : Nat} {i : Int32} (X : RXA M D cy ad n c q K N G cc nL own fr lo) (hw : w < n ∧ K w = 104) (h : inB i (N w)) (hG : G w i.toNatClampNeg = none) (d : decode cc pc = .ok (.aaload, 1)) (k : RG (zMb M c q) (zC D cy ad n K N G) V L (pc + 1) ls (.null :: st)) : RG (zMb M c q) (zC D cy ad n K N G) V L pc ls (.int i :: .ref (ad w) :: st) := by
  have X0 := X.1.1
  have XS := X.2
  obtain ⟨p, l, e, Ro, s, m, args, below, meth, co, Q, A, c00, q00⟩ := M
  intro H locs hP hD hS
  obtain ⟨qq, hq, he⟩ := z_at (O := (zC D cy ad n K N G)) (V := V) (L := L) (w := w) (List.mem_range.mpr hw.1)
  rw [z_cellQ (O := (zC D cy ad n K N G)) hw.2] at he
  refine va_aldq X0.1.1.1 X0.1.1.2.1 (z_K5 X0.1.2.1 XS) hP qq 4 he rfl h d ?_
  show W p l e Ro s m args below meth co H locs c q Q (F0 m (pc + 1) ls (va_rf ((G w i.toNatClampNeg).map ad) :: st))
  rw [hG]
  exact k H locs hP hD hS
theorem a_aaldS {M : zM} {D : va_G} {cy : Nat → ClassId} {ad : Nat → Nat} {n c q : Nat} {K N : Nat → Nat} {G : zG} {V : zI} {L : zL} {cc : ByteArray} {nL : Nat} {own : String} {fr lo pc : Nat} {ls : Array Slot} {st : List Value} {w v : Nat} {i : Int32} (X : RXA M D cy ad n c q K N G cc nL own fr lo) (hw : w < n ∧ K w = 104) (h : inB i (N w)) (hG : G w i.toNatClampNeg = some v) (d : decode cc pc = .ok (.aaload, 1)) (k : RG (zMb M c q) (zC D cy ad n K N G) V L (pc + 1) ls (.ref (ad v) :: st)) : RG (zMb M c q) (zC D cy ad n K N G) V L pc ls (.int i :: .ref (ad w) :: st) := by
  have X0 := X.1.1
  have XS := X.2
  obtain ⟨p, l, e, Ro, s, m, args, below, meth, co, Q, A, c00, q00⟩ := M
  intro H locs hP hD hS
  obtain ⟨qq, hq, he⟩ := z_at (O := (zC D cy ad n K N G)) (V := V) (L := L) (w := w) (List.mem_range.mpr hw.1)
  rw [z_cellQ (O := (zC D cy ad n K N G)) hw.2] at he
  refine va_aldq X0.1.1.1 X0.1.1.2.1 (z_K5 X0.1.2.1 XS) hP qq 4 he rfl h d ?_
  show W p l e Ro s m args below meth co H locs c q Q (F0 m (pc + 1) ls (va_rf ((G w i.toNatClampNeg).map ad) :: st))
  rw [hG]
  exact k H locs hP hD hS
theorem zWF.get104 {n : Nat} {K : Nat → Nat} {G : zG} (h : zWF n K G) {w i v : Nat} (hw : w < n ∧ K w = 104) (hG : G w i = some v) : v < n ∧ K v = 5 := by
  rcases (h w hw.1).2 hw.2 i with h1 | ⟨u, h1, h2, h3⟩
  · rw [h1] at hG; cases hG
  · rw [h1] at hG; cases hG; exact ⟨h2, h3⟩
theorem zWF.set104 {n : Nat} {K : Nat → Nat} {G : zG} (h : zWF n K G) {w k v : Nat} (hw : w < n ∧ K w = 104) (hv : v < n ∧ K v = 5) : zWF n K (gS G w k (some v)) := by
  intro a ha
  by_cases e : a = w
  · subst e
    rw [gS_eq]
    refine ⟨fun j c hj => ?_, fun h104 j => ?_⟩
    · rw [hw.2] at hj
      have : zrt 104 = [] := by unfold zrt; rfl
      rw [this] at hj
      simp at hj
    · by_cases ej : j = k
      · simp only [if_pos ej]; exact Or.inr ⟨v, rfl, hv.1, hv.2⟩
      · simp only [if_neg ej]; exact (h a ha).2 hw.2 j
  · rw [gS_ne e]
    exact h a ha
theorem a_aast {M : zM} {D : va_G} {cy : Nat → ClassId} {ad : Nat → Nat} {n c q : Nat} {K N : Nat → Nat} {G : zG} {V : zI} {L : zL} {cc : ByteArray} {nL : Nat} {own : String} {fr lo pc : Nat} {ls : Array Slot} {st : List Value} {w v : Nat} {i : Int32} (X : RXA M D cy ad n c q K N G cc nL own fr lo) (hw : w < n ∧ K w = 104) (hv : v < n ∧ K v = 5) (h : inB i (N w)) (d : decode cc pc = .ok (.aastore, 1)) (k : RXA M D cy ad n c q K N (gS G w i.toNatClampNeg (some v)) cc nL own fr lo → RG (zMb M c q) (zC D cy ad n K N (gS G w i.toNatClampNeg (some v))) V L (pc + 1) ls st) : RG (zMb M c q) (zC D cy ad n K N G) V L pc ls (.ref (ad v) :: .int i :: .ref (ad w) :: st) := by
  have X0 := X.1.1
  have XN := X.1.2.1
  have XW := X.1.2.2
  have XS := X.2
  obtain ⟨p, l, e, Ro, s, m, args, below, meth, co, Q, A, c00, q00⟩ := M
  intro H locs hP hD hS
  obtain ⟨qq, hq, he⟩ := z_at (O := (zC D cy ad n K N G)) (V := V) (L := L) (w := w) (List.mem_range.mpr hw.1)
  obtain ⟨qv, hqv, hev⟩ := z_at (O := (zC D cy ad n K N G)) (V := V) (L := L) (w := v) (List.mem_range.mpr hv.1)
  rw [z_cellQ (O := (zC D cy ad n K N G)) hw.2] at he
  rw [z_cellO (O := (zC D cy ad n K N G)) hv.2 (by decide)] at hev
  refine va_astq (r := (RX7, TX7, 12)) X0.1.1.1 X0.1.1.2.1 (z_K5 X0.1.2.1 XS) hP hD hS qq 4 qv 5 he rfl hev rfl h d (fun H1 locs1 hP hD hS => ?_)
  have hset : (z_w (zC D cy ad n K N G) V L).set qq (ad w, .inl (cy 104, N w, .inr (.inr (.inr (.inr (va_up (fun i => (G w i).map ad) i.toNatClampNeg (some (ad v)))))))) = z_w (zC D cy ad n K N (gS G w i.toNatClampNeg (some v))) V L := by
    have h1 := z_cellQ (O := zC D cy ad n K N (gS G w i.toNatClampNeg (some v))) (V := V) (L := L) hw.2
    have h1 : z_cell (zC D cy ad n K N (gS G w i.toNatClampNeg (some v))) V L w = .inl (cy 104, N w, .inr (.inr (.inr (.inr (fun j => (gS G w i.toNatClampNeg (some v) w j).map ad))))) := h1
    have e1 : (fun j => (gS G w i.toNatClampNeg (some v) w j).map ad) = va_up (fun i => (G w i).map ad) i.toNatClampNeg (some (ad v)) := by
      funext j
      rw [gS_eq]
      by_cases ej : j = i.toNatClampNeg
      · simp [va_up, ej]
      · simp [va_up, ej]
    rw [e1] at h1
    rw [← h1]
    exact z_mapset (f := fun u => (z_ad (zC D cy ad n K N G) u, z_cell (zC D cy ad n K N G) V L u)) (g := fun u => (z_ad (zC D cy ad n K N G) u, z_cell (zC D cy ad n K N (gS G w i.toNatClampNeg (some v))) V L u)) hq X0.1.2.2.2 (fun v hv => by simp only [z_cell, gS_ne hv])
  have hP : va_P D zcl (z_w (zC D cy ad n K N (gS G w i.toNatClampNeg (some v))) V L) H1 := hset ▸ hP
  have hD : va_D A (z_w (zC D cy ad n K N (gS G w i.toNatClampNeg (some v))) V L) := hset ▸ hD
  exact k ⟨⟨⟨⟨X0.1.1, X0.1.2.1, X0.1.2.2.1, zC_nd⟩, X0.2.1, X0.2.2⟩, XN, XW.set104 hw hv⟩, XS⟩ H1 locs1 hP hD hS
theorem c_astore_nN {M : zM} {D : va_G} {cy : Nat → ClassId} {ad : Nat → Nat} {n c q : Nat} {K N : Nat → Nat} {G : zG} {V : zI} {L : zL} {cc : ByteArray} {nL : Nat} {own : String} {fr lo pc : Nat} {ls : Array Slot} {st : List Value} {k0 : Fin 4} {i : Nat} {lv lv' : List (Nat × Value)} (X : RXA M D cy ad n c q K N G cc nL own fr lo) (d : decode cc pc = .ok (.astore_n k0, 1)) (hi : (k0 : Nat) = i) (h : lv_has ls nL lv) (hn : i < nL) (hl : (i, Value.null) :: lv.filter (fun q => !(q.1 == i) && !(q.1 + 1 == i && q.2.category == 2)) = lv') (k : ∀ ls' : Array Slot, lv_has ls' nL lv' → RG (zMb M c q) (zC D cy ad n K N G) V L (pc + 1) ls' st) : RG (zMb M c q) (zC D cy ad n K N G) V L pc ls (.null :: st) := by
  have X0 := X.1.1
  obtain ⟨p, l, e, Ro, s, m, args, below, meth, co, Q, A, c00, q00⟩ := M
  exact fun H locs hP hD hS => lv_astore_nN X0.1.1.1 X0.1.1.2.1 d hi h hn hl (fun ls' h' => k ls' h' H locs hP hD hS)
theorem c_astoreN {M : zM} {D : va_G} {cy : Nat → ClassId} {ad : Nat → Nat} {n c q : Nat} {K N : Nat → Nat} {G : zG} {V : zI} {L : zL} {cc : ByteArray} {nL : Nat} {own : String} {fr lo pc : Nat} {ls : Array Slot} {st : List Value} {i : Nat} {lv lv' : List (Nat × Value)} (X : RXA M D cy ad n c q K N G cc nL own fr lo) (d : decode cc pc = .ok (.astore i, 2)) (h : lv_has ls nL lv) (hn : i < nL) (hl : (i, Value.null) :: lv.filter (fun q => !(q.1 == i) && !(q.1 + 1 == i && q.2.category == 2)) = lv') (k : ∀ ls' : Array Slot, lv_has ls' nL lv' → RG (zMb M c q) (zC D cy ad n K N G) V L (pc + 2) ls' st) : RG (zMb M c q) (zC D cy ad n K N G) V L pc ls (.null :: st) := by
  have X0 := X.1.1
  obtain ⟨p, l, e, Ro, s, m, args, below, meth, co, Q, A, c00, q00⟩ := M
  exact fun H locs hP hD hS => lv_astoreN X0.1.1.1 X0.1.1.2.1 d h hn hl (fun ls' h' => k ls' h' H locs hP hD hS)
theorem a_newq {M : zM} {D : va_G} {cy : Nat → ClassId} {ad : Nat → Nat} {n c q : Nat} {K N : Nat → Nat} {G : zG} {V : zI} {L : zL} {cc : ByteArray} {nL : Nat} {own : String} {fr lo pc : Nat} {ls : Array Slot} {st : List Value} {i : Int32} {idx : Nat} (X : RXA M D cy ad n c q K N G cc nL own fr lo) (hi : ¬ i < 0 ∧ i.toNatClampNeg ≤ 100000) (hcl : Cond.classLink own idx RX7 ∈ zTB) (hR : c + 1 ≤ M.2.2.2.1.cells ∧ q + i.toNatClampNeg ≤ M.2.2.2.1.slots) (d : decode cc pc = .ok (.anewarray idx, 3))
    (k : ∀ ad' : Nat → Nat, (∀ w, w < n → ad' w = ad w) → RXA M D cy ad' (n + 1) (c + 1) (q + i.toNatClampNeg) (kU K n 104) (kU N n i.toNatClampNeg) (kU G n zn0) cc nL own fr lo → RG (zMb M (c + 1) (q + i.toNatClampNeg)) (zC D cy ad' (n + 1) (kU K n 104) (kU N n i.toNatClampNeg) (kU G n zn0)) (kU V n (fun _ => 0)) (kU L n (fun _ => 0)) (pc + 3) ls (.ref (ad' n) :: st)) : RG (zMb M c q) (zC D cy ad n K N G) V L pc ls (.int i :: st) := by
  have X0 := X.1.1
  have XN := X.1.2.1
  have XW := X.1.2.2
  have XS := X.2
  obtain ⟨p, l, e, Ro, s, m, args, below, meth, co, Q, A, c00, q00⟩ := M
  intro H locs hP hD hS
  refine va_newq (C := RX7) X0.1.1.1 X0.1.1.2.1 X0.1.1.2.2.2.1 (X0.1.1.2.2.2.2 _ hcl) XS.2 X0.1.2.1 hP hD hS X0.1.2.2.1 hi.1 rfl (by omega) hR.1 hR.2 d (fun a cA H1 hK hP hD hS => ?_)
  have hcA : cA = cy 104 := by
    obtain ⟨-, -, -, -, -, h1⟩ := (hK.2 4 (cA, .object RX7) rfl).2
    obtain ⟨-, -, -, -, -, h2⟩ := XS.1.2
    exact Option.some.inj (h1.symm.trans h2)
  subst hcA
  have had : ∀ w, w < n → (fun w => if w = n then a else ad w) w = ad w := fun w h => if_neg (by omega)
  have hz := z_push (D := D) (cy := cy) (ad' := fun w => if w = n then a else ad w) (K' := (kU K n 104)) (N' := (kU N n i.toNatClampNeg)) (G' := (kU G n zn0)) (V := V) (V' := (kU V n (fun _ => 0))) (L := L) (L' := (kU L n (fun _ => 0))) (N := N) XW had (fun w h => kU_ne (by omega)) (fun w h => kU_ne (by omega)) (fun w h => kU_ne (by omega)) (fun w h => kU_ne (by omega)) (fun w h => kU_ne (by omega))
  have hc1 : z_cell (zC D cy (fun w => if w = n then a else ad w) (n + 1) (kU K n 104) (kU N n i.toNatClampNeg) (kU G n zn0)) (kU V n (fun _ => 0)) (kU L n (fun _ => 0)) n = .inl (cy 104, i.toNatClampNeg, .inr (.inr (.inr (.inr (fun _ => none))))) := by
    rw [z_cellQ (by exact kU_eq)]
    show (Sum.inl (cy 104, (kU N n i.toNatClampNeg) n, .inr (.inr (.inr (.inr (fun j => ((kU G n zn0) n j).map _))))) : va_E) = _
    rw [kU_eq, kU_eq]
    rfl
  rw [hc1] at hz
  have hz : z_w (zC D cy ad n K N G) V L ++ [(a, .inl (cy 104, i.toNatClampNeg, .inr (.inr (.inr (.inr (fun _ => none))))))] = z_w (zC D cy (fun w => if w = n then a else ad w) (n + 1) (kU K n 104) (kU N n i.toNatClampNeg) (kU G n zn0)) (kU V n (fun _ => 0)) (kU L n (fun _ => 0)) := by
    rw [← hz]
    simp
  rw [hz] at hP hD
  have hk := k (fun w => if w = n then a else ad w) had ⟨⟨⟨⟨X0.1.1, X0.1.2.1, X0.1.2.2.1, zC_nd⟩, X0.2.1, ⟨hR.1, hR.2⟩⟩, XN, XW.push 104⟩, XS⟩ H1 locs hP hD hS
  have e1 : (if n = n then a else ad n) = a := if_pos rfl
  simp only [e1] at hk
  exact hk
theorem RAr.ofF {D : va_G} {cy : Nat → ClassId} {ad : Nat → Nat} {n : Nat} {K N : Nat → Nat} {G : zG} {y : MethodName} {cc : ByteArray} {nL : Nat} {fr lo : Nat} {As : List Value} {V : zI} {L : zL} {v : Nat} {r : zS} (hy : plainFor y = true) (hWF : zWF n K G) (hlen : (lg_sl As).length ≤ nL)
    (body : ∀ (M : zM), RXA M D cy ad n 0 0 K N G cc nL y.cls fr lo → RZAr M D cy ad n K v r → (M.2.2.2.1.cells = r.2.1 ∧ M.2.2.2.1.slots = r.2.2.1) → M.2.2.2.2.2.2.2.2.1.name = y.name → ∀ ls : Array Slot, lv_has ls nL (lv_args 0 As) → RG (zMb M 0 0) (zC D cy ad n K N G) V L 0 ls []) : RAr D cy ad n K N G y cc nL fr lo As V L v r := by
  intro l sz
  refine va_MetF (cc := cc) (maxL := nL) (ret := some (.array .int)) hy rfl ?_
  intro p e s m args below meth c s₁ B hml hv
  obtain ⟨rfl, hsz, hP, hK, hD0, hNf, hSt⟩ := hv
  have hts := atoms_spec (ws := .code y cc nL (some (.array .int)) :: zTB) B.pre
  have hown : s.vm.findClass y.cls = some m.cls := findClass_of_methodNamed B.named
  have hnm : meth.name = y.name := (name_of_methodNamed B.named B.method).1
  subst hsz
  have hD := hD0.self (sz := s.heap.size)
  have hl := lv_entry As (n := nL) hlen
  rw [lg_entry_eq]
  generalize (lg_sl As ++ List.replicate (nL - (lg_sl As).length) Slot.unset).toArray = ls at hl ⊢
  exact body (p, l, e, (headSpec (.code y cc nL (some (.array .int)) :: zTB) (a_rm fr lo r.2.1 r.2.2.1)).room, s, m, As.toArray, below, meth, c, _, va_A (z_w (zC D cy ad n K N G) V L) s.heap.size, 0, 0) ⟨⟨⟨⟨⟨B.exec, B.bytes, hml, hown, fun w hw => hts w (List.mem_cons_of_mem _ hw)⟩, hK, fun q h => Or.inr h, zC_nd⟩, ⟨Nat.le_refl _, Nat.le_refl _⟩, ⟨Nat.zero_le _, Nat.zero_le _⟩⟩, hNf, hWF⟩, hSt⟩ ⟨B.returns, B.notSynchronized, rfl⟩ ⟨rfl, rfl⟩ hnm ls hl s.heap [] hP hD va_S.rf
