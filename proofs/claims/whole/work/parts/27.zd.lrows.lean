theorem Met.co {l : Launch} {y : MethodName} {ws : List Cond} {rm : Room} {P P' : Array Value → State → Prop} {Q Q' : Array Value → State → Outcome → State → Prop} {mc ms : Nat} {free : Addr → Prop} (h : Met l y ws rm P Q mc ms free) (hp : ∀ a s, P' a s → P a s) (hq : ∀ a s o t, Q a s o t → Q' a s o t) : Met l y ws rm P' Q' mc ms free := by
  intro p e h1 h2 h3 s m args below h4 h5 h6 h7
  obtain ⟨n, o, g1, g2, g3, g4, g5⟩ := h p e h1 h2 h3 s m args below h4 h5 (hp _ _ h6) h7
  exact ⟨n, o, g1, g2, g3, hq _ _ _ _ g4, g5⟩
theorem va_Qi_co {U U' : Type} {po : Int32 → U → Prop} {po' : Int32 → U' → Prop} {B : U → State → Prop} {B' : U' → State → Prop} {A : Nat → Prop} (f : U → U') (hp : ∀ x u, po x u → po' x (f u)) (hB : ∀ u t, B u t → B' (f u) t) (a : Array Value) (s : State) (o : Outcome) (t : State) (h : va_Qi po B A a s o t) : va_Qi po' B' A a s o t := by
  obtain ⟨⟨r, u, h1, h2, h3⟩, h4⟩ := h
  exact ⟨⟨r, f u, h1, hp _ _ h2, hB _ _ h3⟩, h4⟩
theorem RAi.toT {sa sb : Nat} {D : va_G} {cy : Nat → ClassId} {ad : Nat → Nat} {n : Nat} {K N : Nat → Nat} {G : zG} {y : MethodName} {cc : ByteArray} {nL : Nat} {ty : FieldType} {fr lo : Nat} {As : List Value} {V : zI} {L : zL} {v : Int32} {r : zS} (h : RAi D cy ad n K N G y cc nL ty fr lo As V L v r) : RTi sa sb D cy ad n K N G y cc nL ty fr lo As V L v r :=
  fun l sz => (h l sz).co (fun a s q => by obtain ⟨q0, q1, qP, qK, qD, qN, qS, qT⟩ := q; exact ⟨q0, q1, qP, qK, qD, qN, qS⟩) (fun _ _ _ _ q => q)
theorem RCi.toT {sa sb : Nat} {D : va_G} {cy : Nat → ClassId} {ad : Nat → Nat} {n : Nat} {K N : Nat → Nat} {G : zG} {y : MethodName} {cc : ByteArray} {nL : Nat} {ty : FieldType} {fr lo : Nat} {As : List Value} {V V' : zI} {L L' : zL} {v : Int32} (hWF : zWF n K G) (h : RCi (zC D cy ad n K N G) y cc nL ty fr lo As V L v V' L') : RTi sa sb D cy ad n K N G y cc nL ty fr lo As V L v (n, 0, 0, K, N, G, V', L') :=
  fun l sz => (h l sz).co (fun a s q => by obtain ⟨q0, q1, qP, qK, qD, qN, qS, qT⟩ := q; exact ⟨q0, q1, qP, qK, qD, qN⟩) (va_Qi_co (fun _ => ad) (fun _ _ e => e) (fun _ t h => ⟨⟨fun _ _ => rfl, hWF, Nat.le_refl _, fun _ _ => rfl⟩, h.1, h.2.2⟩))
def LG (M : zM) (D : va_G) (w1 w2 : va_W) (pc : Nat) (ls : Array Slot) (st : List Value) : Prop := match M with
  | (p, l, e, Ro, s, m, args, below, meth, c, Q, A, cells, slots) => ∀ (H : Heap) (locs : List Loc), va_P D zcl (w1 ++ w2) H → va_D A (w1 ++ w2) → va_S A s.heap H locs → W p l e Ro s m args below meth c H locs cells slots Q (F0 m pc ls st)
theorem zl_apl {A : Nat → Prop} {D : va_G} {cl : List vw_C} {wc wr : va_W} {H : Heap} (hP : va_P D cl (wc ++ wr) H) (hD : va_D A (wc ++ wr)) (k : Nat) (q : Nat × va_E) (hq : wr[k]? = some q) : q.1 < H.size ∧ ¬ va_A wc H.size q.1 := by
  have h0 : (wc ++ wr)[wc.length + k]? = some q := by rw [List.getElem?_append_right (by omega)]; simpa using hq
  have hl := (hP _ q h0).lt
  refine ⟨hl, fun h => ?_⟩
  rcases h with ⟨j, e, h⟩ | h
  · have hj : j < wc.length := (List.getElem?_eq_some_iff.mp h).1
    have h1 : (wc ++ wr)[j]? = some (q.1, e) := by rw [List.getElem?_append_left hj]; exact h
    have := hD.1 _ _ _ _ h0 h1 rfl
    omega
  · omega
theorem zl_apr {A : Nat → Prop} {D : va_G} {cl : List vw_C} {wc wr : va_W} {H : Heap} (hP : va_P D cl (wc ++ wr) H) (hD : va_D A (wc ++ wr)) (k : Nat) (q : Nat × va_E) (hq : wc[k]? = some q) : q.1 < H.size ∧ ¬ va_A wr H.size q.1 := by
  have hk : k < wc.length := (List.getElem?_eq_some_iff.mp hq).1
  have h0 : (wc ++ wr)[k]? = some q := by rw [List.getElem?_append_left hk]; exact hq
  have hl := (hP _ q h0).lt
  refine ⟨hl, fun h => ?_⟩
  rcases h with ⟨j, e, h⟩ | h
  · have h1 : (wc ++ wr)[wc.length + j]? = some (q.1, e) := by rw [List.getElem?_append_right (by omega)]; simpa using h
    have := hD.1 _ _ _ _ h0 h1 rfl
    omega
  · omega
theorem zl_Pl {D : va_G} {cl : List vw_C} {wc wr : va_W} {H : Heap} (hP : va_P D cl (wc ++ wr) H) : va_P D cl wc H := fun k q hq => hP k q (by rw [List.getElem?_append_left (List.getElem?_eq_some_iff.mp hq).1]; exact hq)
theorem zl_Pr {D : va_G} {cl : List vw_C} {wc wr : va_W} {H : Heap} (hP : va_P D cl (wc ++ wr) H) : va_P D cl wr H := fun k q hq => hP (wc.length + k) q (by rw [List.getElem?_append_right (by omega)]; simpa using hq)
theorem zl_Dl {A : Nat → Prop} {wc wr : va_W} (hD : va_D A (wc ++ wr)) : va_D A wc := by
  have f : ∀ (k : Nat) (q : Nat × va_E), wc[k]? = some q → (wc ++ wr)[k]? = some q := fun k q hq => by rw [List.getElem?_append_left (List.getElem?_eq_some_iff.mp hq).1]; exact hq
  exact ⟨fun i j a b ha hb e => hD.1 i j a b (f i a ha) (f j b hb) e, fun k q hq => hD.2 k q (f k q hq)⟩
theorem zl_Dr {A : Nat → Prop} {wc wr : va_W} (hD : va_D A (wc ++ wr)) : va_D A wr := by
  have f : ∀ (k : Nat) (q : Nat × va_E), wr[k]? = some q → (wc ++ wr)[wc.length + k]? = some q := fun k q hq => by rw [List.getElem?_append_right (by omega)]; simpa using hq
  exact ⟨fun i j a b ha hb e => by have := hD.1 _ _ a b (f i a ha) (f j b hb) e; omega, fun k q hq => hD.2 _ q (f k q hq)⟩
theorem zl_left {A : Nat → Prop} {D : va_G} {cl : List vw_C} {wc wr w1 : va_W} {H H1 : Heap} (hP : va_P D cl (wc ++ wr) H) (hD : va_D A (wc ++ wr)) (hk : ∀ q : Nat, q < H.size → ¬ va_A wc H.size q → H1[q]? = H[q]?) (hF : ∀ q, va_A wc H.size q → A q) (hP1 : va_P D cl w1 H1) (hD1 : va_D (va_A wc H.size) w1) : va_P D cl (w1 ++ wr) H1 ∧ va_D A (w1 ++ wr) := by
  refine ⟨va_P.app hP1 (fun k q hq => ?_), va_D.app (hD1.weaken (fun k q _ h => hF q.1 h)) (zl_Dr hD) (fun i j x y hx hy hxy => ?_)⟩
  · obtain ⟨g1, g2⟩ := zl_apl hP hD k q hq
    exact (zl_Pr hP k q hq).kept (hk q.1 g1 g2)
  · exact (zl_apl hP hD j y hy).2 (by rw [← hxy]; exact hD1.2 i x hx)
theorem zl_right {A : Nat → Prop} {D : va_G} {cl : List vw_C} {wc wr w1 : va_W} {H H1 : Heap} (hP : va_P D cl (wc ++ wr) H) (hD : va_D A (wc ++ wr)) (hk : ∀ q : Nat, q < H.size → ¬ va_A wr H.size q → H1[q]? = H[q]?) (hF : ∀ q, va_A wr H.size q → A q) (hP1 : va_P D cl w1 H1) (hD1 : va_D (va_A wr H.size) w1) : va_P D cl (wc ++ w1) H1 ∧ va_D A (wc ++ w1) := by
  refine ⟨va_P.app (fun k q hq => ?_) hP1, va_D.app (zl_Dl hD) (hD1.weaken (fun k q _ h => hF q.1 h)) (fun i j x y hx hy hxy => ?_)⟩
  · obtain ⟨g1, g2⟩ := zl_apr hP hD k q hq
    exact (zl_Pl hP k q hq).kept (hk q.1 g1 g2)
  · exact (zl_apr hP hD i x hx).2 (by rw [hxy]; exact hD1.2 j y hy)
/-- what the law's walk knows -/
def LX (M : zM) (D : va_G) (cy : Nat → ClassId) (cc : ByteArray) (nL : Nat) (own : String) (fr lo : Nat) (b Lx : Nat) (xs : Nat → Int32) (sa sb : Nat) : Prop := match M with
  | (p, _, _, Ro, s, m, args, _, _, c, _, A, cells, slots) => (CallFix p m c cc nL s args zTB own ∧ va_K D zcl [(cy 100, .int), (cy 101, .byte), (cy 102, .boolean), (cy 103, .long)] s ∧ (∀ q : Nat, A q ↔ s.heap.size ≤ q)) ∧ (fr ≤ Ro.frames ∧ lo ≤ Ro.locals) ∧ (cells ≤ Ro.cells ∧ slots ≤ Ro.slots) ∧ (va_X b Lx xs s s.heap ∧ b < s.heap.size) ∧ zNf s ∧ zSt s cy ∧ zStr A sa sb s s.heap
theorem LX.at {M : zM} {D : va_G} {cy : Nat → ClassId} {cc : ByteArray} {nL : Nat} {own : String} {fr lo : Nat} {b Lx : Nat} {xs : Nat → Int32} {sa sb c q c' q' : Nat} (X : LX (zMb M c q) D cy cc nL own fr lo b Lx xs sa sb) (h : c' ≤ M.2.2.2.1.cells ∧ q' ≤ M.2.2.2.1.slots) : LX (zMb M c' q') D cy cc nL own fr lo b Lx xs sa sb := by
  obtain ⟨p, l, e, Ro, s, m, args, below, meth, co, Q, A, c00, q00⟩ := M
  exact ⟨X.1, X.2.1, h, X.2.2.2⟩
theorem zl_iconst {M : zM} {w1 w2 : va_W} {D : va_G} {cy : Nat → ClassId} {b0 Lx : Nat} {xs : Nat → Int32} {sa sb : Nat} {cc : ByteArray} {nL : Nat} {own : String} {fr lo pc : Nat} {ls : Array Slot} {st : List Value} {n : Int} {v : Int32} (X : LX M D cy cc nL own fr lo b0 Lx xs sa sb) (d : decode cc pc = .ok (.iconst n, 1)) (hv : Int32.ofInt n = v) (k : LG M D w1 w2 (pc + 1) ls (.int v :: st)) : LG M D w1 w2 pc ls (st) := by
  obtain ⟨p, l, e, Ro, s, m, args, below, meth, c, Q, A, cells, slots⟩ := M
  exact fun H locs hP hD hS => lv_iconst X.1.1.1 X.1.1.2.1 d hv (k H locs hP hD hS)
theorem zl_bipush {M : zM} {w1 w2 : va_W} {D : va_G} {cy : Nat → ClassId} {b0 Lx : Nat} {xs : Nat → Int32} {sa sb : Nat} {cc : ByteArray} {nL : Nat} {own : String} {fr lo pc : Nat} {ls : Array Slot} {st : List Value} {n : Int} {v : Int32} (X : LX M D cy cc nL own fr lo b0 Lx xs sa sb) (d : decode cc pc = .ok (.bipush n, 2)) (hv : (Int8.ofInt n).toInt32 = v) (k : LG M D w1 w2 (pc + 2) ls (.int v :: st)) : LG M D w1 w2 pc ls (st) := by
  obtain ⟨p, l, e, Ro, s, m, args, below, meth, c, Q, A, cells, slots⟩ := M
  exact fun H locs hP hD hS => lv_bipush X.1.1.1 X.1.1.2.1 d hv (k H locs hP hD hS)
theorem zl_iload_n {M : zM} {w1 w2 : va_W} {D : va_G} {cy : Nat → ClassId} {b0 Lx : Nat} {xs : Nat → Int32} {sa sb : Nat} {cc : ByteArray} {nL : Nat} {own : String} {fr lo pc : Nat} {ls : Array Slot} {st : List Value} {k0 : Fin 4} {i : Nat} {x : Int32} (X : LX M D cy cc nL own fr lo b0 Lx xs sa sb) (d : decode cc pc = .ok (.iload_n k0, 1)) (hi : (k0 : Nat) = i) (hl : ls[i]? = some (.val (.int x))) (k : LG M D w1 w2 (pc + 1) ls (.int x :: st)) : LG M D w1 w2 pc ls (st) := by
  obtain ⟨p, l, e, Ro, s, m, args, below, meth, c, Q, A, cells, slots⟩ := M
  exact fun H locs hP hD hS => lv_iload_n X.1.1.1 X.1.1.2.1 d hi hl (k H locs hP hD hS)
theorem zl_aload_n {M : zM} {w1 w2 : va_W} {D : va_G} {cy : Nat → ClassId} {b0 Lx : Nat} {xs : Nat → Int32} {sa sb : Nat} {cc : ByteArray} {nL : Nat} {own : String} {fr lo pc : Nat} {ls : Array Slot} {st : List Value} {k0 : Fin 4} {i x : Nat} (X : LX M D cy cc nL own fr lo b0 Lx xs sa sb) (d : decode cc pc = .ok (.aload_n k0, 1)) (hi : (k0 : Nat) = i) (hl : ls[i]? = some (.val (.ref x))) (k : LG M D w1 w2 (pc + 1) ls (.ref x :: st)) : LG M D w1 w2 pc ls (st) := by
  obtain ⟨p, l, e, Ro, s, m, args, below, meth, c, Q, A, cells, slots⟩ := M
  exact fun H locs hP hD hS => lv_aload_n X.1.1.1 X.1.1.2.1 d hi hl (k H locs hP hD hS)
theorem zl_istore_n {M : zM} {w1 w2 : va_W} {D : va_G} {cy : Nat → ClassId} {b0 Lx : Nat} {xs : Nat → Int32} {sa sb : Nat} {cc : ByteArray} {nL : Nat} {own : String} {fr lo pc : Nat} {ls : Array Slot} {st : List Value} {k0 : Fin 4} {i : Nat} {x : Int32} {lv lv' : List (Nat × Value)} (X : LX M D cy cc nL own fr lo b0 Lx xs sa sb) (d : decode cc pc = .ok (.istore_n k0, 1)) (hi : (k0 : Nat) = i) (h : lv_has ls nL lv) (hn : i < nL) (hl : (i, Value.int x) :: lv.filter (fun q => !(q.1 == i) && !(q.1 + 1 == i && q.2.category == 2)) = lv') (k : ∀ ls' : Array Slot, lv_has ls' nL lv' → LG M D w1 w2 (pc + 1) ls' st) : LG M D w1 w2 pc ls (.int x :: st) := by
  obtain ⟨p, l, e, Ro, s, m, args, below, meth, c, Q, A, cells, slots⟩ := M
  exact fun H locs hP hD hS => lv_istore_n X.1.1.1 X.1.1.2.1 d hi h hn hl (fun ls' h' => k ls' h' H locs hP hD hS)
theorem zl_iinc {M : zM} {w1 w2 : va_W} {D : va_G} {cy : Nat → ClassId} {b0 Lx : Nat} {xs : Nat → Int32} {sa sb : Nat} {cc : ByteArray} {nL : Nat} {own : String} {fr lo pc : Nat} {ls : Array Slot} {st : List Value} {i k0 : Nat} {n : Int} {x v : Int32} {lv lv' : List (Nat × Value)} (X : LX M D cy cc nL own fr lo b0 Lx xs sa sb) (d : decode cc pc = .ok (.iinc i n, 3)) (h : lv_has ls nL lv) (hk : lv[k0]? = some (i, .int x)) (hv : x + Int32.ofInt n = v) (hn : i < nL) (hl : (i, Value.int v) :: lv.filter (fun q => !(q.1 == i) && !(q.1 + 1 == i && q.2.category == 2)) = lv') (k : ∀ ls' : Array Slot, lv_has ls' nL lv' → LG M D w1 w2 (pc + 3) ls' st) : LG M D w1 w2 pc ls (st) := by
  obtain ⟨p, l, e, Ro, s, m, args, below, meth, c, Q, A, cells, slots⟩ := M
  exact fun H locs hP hD hS => lv_iinc X.1.1.1 X.1.1.2.1 d h hk hv hn hl (fun ls' h' => k ls' h' H locs hP hD hS)
theorem zl_iadd {M : zM} {w1 w2 : va_W} {D : va_G} {cy : Nat → ClassId} {b0 Lx : Nat} {xs : Nat → Int32} {sa sb : Nat} {cc : ByteArray} {nL : Nat} {own : String} {fr lo pc : Nat} {ls : Array Slot} {st : List Value} {x y : Int32} (X : LX M D cy cc nL own fr lo b0 Lx xs sa sb) (d : decode cc pc = .ok (.iadd, 1)) (k : LG M D w1 w2 (pc + 1) ls (.int (x + y) :: st)) : LG M D w1 w2 pc ls (.int y :: .int x :: st) := by
  obtain ⟨p, l, e, Ro, s, m, args, below, meth, c, Q, A, cells, slots⟩ := M
  exact fun H locs hP hD hS => lv_iadd X.1.1.1 X.1.1.2.1 d (k H locs hP hD hS)
theorem zl_isub {M : zM} {w1 w2 : va_W} {D : va_G} {cy : Nat → ClassId} {b0 Lx : Nat} {xs : Nat → Int32} {sa sb : Nat} {cc : ByteArray} {nL : Nat} {own : String} {fr lo pc : Nat} {ls : Array Slot} {st : List Value} {x y : Int32} (X : LX M D cy cc nL own fr lo b0 Lx xs sa sb) (d : decode cc pc = .ok (.isub, 1)) (k : LG M D w1 w2 (pc + 1) ls (.int (x - y) :: st)) : LG M D w1 w2 pc ls (.int y :: .int x :: st) := by
  obtain ⟨p, l, e, Ro, s, m, args, below, meth, c, Q, A, cells, slots⟩ := M
  exact fun H locs hP hD hS => lv_isub X.1.1.1 X.1.1.2.1 d (k H locs hP hD hS)
theorem zl_iand {M : zM} {w1 w2 : va_W} {D : va_G} {cy : Nat → ClassId} {b0 Lx : Nat} {xs : Nat → Int32} {sa sb : Nat} {cc : ByteArray} {nL : Nat} {own : String} {fr lo pc : Nat} {ls : Array Slot} {st : List Value} {x y : Int32} (X : LX M D cy cc nL own fr lo b0 Lx xs sa sb) (d : decode cc pc = .ok (.iand, 1)) (k : LG M D w1 w2 (pc + 1) ls (.int (x &&& y) :: st)) : LG M D w1 w2 pc ls (.int y :: .int x :: st) := by
  obtain ⟨p, l, e, Ro, s, m, args, below, meth, c, Q, A, cells, slots⟩ := M
  exact fun H locs hP hD hS => lv_iand X.1.1.1 X.1.1.2.1 d (k H locs hP hD hS)
theorem zl_dup {M : zM} {w1 w2 : va_W} {D : va_G} {cy : Nat → ClassId} {b0 Lx : Nat} {xs : Nat → Int32} {sa sb : Nat} {cc : ByteArray} {nL : Nat} {own : String} {fr lo pc : Nat} {ls : Array Slot} {st : List Value} {va : Value} (X : LX M D cy cc nL own fr lo b0 Lx xs sa sb) (d : decode cc pc = .ok (.dup, 1)) (h1 : va.category = 1) (k : LG M D w1 w2 (pc + 1) ls (va :: va :: st)) : LG M D w1 w2 pc ls (va :: st) := by
  obtain ⟨p, l, e, Ro, s, m, args, below, meth, c, Q, A, cells, slots⟩ := M
  exact fun H locs hP hD hS => lv_dup X.1.1.1 X.1.1.2.1 d h1 (k H locs hP hD hS)
theorem zl_icmp_gt {M : zM} {w1 w2 : va_W} {D : va_G} {cy : Nat → ClassId} {b0 Lx : Nat} {xs : Nat → Int32} {sa sb : Nat} {cc : ByteArray} {nL : Nat} {own : String} {fr lo pc : Nat} {ls : Array Slot} {st : List Value} {x y : Int32} {off : Int} {tgt : Nat} (X : LX M D cy cc nL own fr lo b0 Lx xs sa sb) (d : decode cc pc = .ok (.if_icmp .gt off, 3)) (ht : (pc : Int) + off = (tgt : Int)) (kt : y < x → LG M D w1 w2 tgt ls st) (kf : ¬ y < x → LG M D w1 w2 (pc + 3) ls st) : LG M D w1 w2 pc ls (.int y :: .int x :: st) := by
  obtain ⟨p, l, e, Ro, s, m, args, below, meth, c, Q, A, cells, slots⟩ := M
  exact fun H locs hP hD hS => lv_icmp_gt X.1.1.1 X.1.1.2.1 d ht (fun h => kt h H locs hP hD hS) (fun h => kf h H locs hP hD hS)
theorem zl_icmp_eq {M : zM} {w1 w2 : va_W} {D : va_G} {cy : Nat → ClassId} {b0 Lx : Nat} {xs : Nat → Int32} {sa sb : Nat} {cc : ByteArray} {nL : Nat} {own : String} {fr lo pc : Nat} {ls : Array Slot} {st : List Value} {x y : Int32} {off : Int} {tgt : Nat} (X : LX M D cy cc nL own fr lo b0 Lx xs sa sb) (d : decode cc pc = .ok (.if_icmp .eq off, 3)) (ht : (pc : Int) + off = (tgt : Int)) (kt : x = y → LG M D w1 w2 tgt ls st) (kf : ¬ x = y → LG M D w1 w2 (pc + 3) ls st) : LG M D w1 w2 pc ls (.int y :: .int x :: st) := by
  obtain ⟨p, l, e, Ro, s, m, args, below, meth, c, Q, A, cells, slots⟩ := M
  exact fun H locs hP hD hS => lv_icmp_eq X.1.1.1 X.1.1.2.1 d ht (fun h => kt h H locs hP hD hS) (fun h => kf h H locs hP hD hS)
theorem zl_goto {M : zM} {w1 w2 : va_W} {D : va_G} {cy : Nat → ClassId} {b0 Lx : Nat} {xs : Nat → Int32} {sa sb : Nat} {cc : ByteArray} {nL : Nat} {own : String} {fr lo pc : Nat} {ls : Array Slot} {st : List Value} {off : Int} {tgt : Nat} (X : LX M D cy cc nL own fr lo b0 Lx xs sa sb) (d : decode cc pc = .ok (.goto off, 3)) (ht : (pc : Int) + off = (tgt : Int)) (k : LG M D w1 w2 tgt ls st) : LG M D w1 w2 pc ls (st) := by
  obtain ⟨p, l, e, Ro, s, m, args, below, meth, c, Q, A, cells, slots⟩ := M
  exact fun H locs hP hD hS => lv_goto X.1.1.1 X.1.1.2.1 d ht (k H locs hP hD hS)
theorem zl_tabOut {M : zM} {w1 w2 : va_W} {D : va_G} {cy : Nat → ClassId} {b0 Lx : Nat} {xs : Nat → Int32} {sa sb : Nat} {cc : ByteArray} {nL : Nat} {own : String} {fr lo pc : Nat} {ls : Array Slot} {st : List Value} {dflt lo0 hi0 : Int} {offs : Array Int} {len : Nat} {x : Int32} {tgt : Nat} (X : LX M D cy cc nL own fr lo b0 Lx xs sa sb) (d : decode cc pc = .ok (.tableswitch dflt lo0 hi0 offs, len)) (h : x.toInt < lo0 ∨ hi0 < x.toInt) (ht : (pc : Int) + dflt = (tgt : Int)) (k : LG M D w1 w2 tgt ls st) : LG M D w1 w2 pc ls (.int x :: st) := by
  obtain ⟨p, l, e, Ro, s, m, args, below, meth, c, Q, A, cells, slots⟩ := M
  exact fun H locs hP hD hS => lv_tableOut X.1.1.1 X.1.1.2.1 d h ht (k H locs hP hD hS)
theorem zl_tabIn {M : zM} {w1 w2 : va_W} {D : va_G} {cy : Nat → ClassId} {b0 Lx : Nat} {xs : Nat → Int32} {sa sb : Nat} {cc : ByteArray} {nL : Nat} {own : String} {fr lo pc : Nat} {ls : Array Slot} {st : List Value} {dflt lo0 hi0 : Int} {offs : Array Int} {len : Nat} {x : Int32} {off : Int} {tgt : Nat} (X : LX M D cy cc nL own fr lo b0 Lx xs sa sb) (d : decode cc pc = .ok (.tableswitch dflt lo0 hi0 offs, len)) (h1 : ¬ x.toInt < lo0) (h2 : ¬ hi0 < x.toInt) (ho : offs[(x.toInt - lo0).toNat]? = some off) (ht : (pc : Int) + off = (tgt : Int)) (k : LG M D w1 w2 tgt ls st) : LG M D w1 w2 pc ls (.int x :: st) := by
  obtain ⟨p, l, e, Ro, s, m, args, below, meth, c, Q, A, cells, slots⟩ := M
  exact fun H locs hP hD hS => lv_tableIn X.1.1.1 X.1.1.2.1 d h1 h2 ho ht (k H locs hP hD hS)
theorem zl_sld {M : zM} {w1 w2 : va_W} {D : va_G} {cy : Nat → ClassId} {b0 Lx : Nat} {xs : Nat → Int32} {sa sb : Nat} {cc : ByteArray} {nL : Nat} {own : String} {fr lo pc : Nat} {ls : Array Slot} {st : List Value} {i : Int32} (X : LX M D cy cc nL own fr lo b0 Lx xs sa sb) (h : inB i Lx) (d : decode cc pc = .ok (.iaload, 1)) (k : LG M D w1 w2 (pc + 1) ls (.int (xs i.toNatClampNeg) :: st)) : LG M D w1 w2 pc ls (.int i :: .ref b0 :: st) := by
  obtain ⟨p, l, e, Ro, s, m, args, below, meth, c, Q, A, cells, slots⟩ := M
  exact fun H locs hP hD hS => va_sld X.1.1.1 X.1.1.2.1 X.2.2.2.1.1 X.2.2.2.1.2 (fun hA => by have := (X.1.2.2 b0).mp hA; have := X.2.2.2.1.2; omega) hS h d (k H locs hP hD hS)
theorem zl_slen {M : zM} {w1 w2 : va_W} {D : va_G} {cy : Nat → ClassId} {b0 Lx : Nat} {xs : Nat → Int32} {sa sb : Nat} {cc : ByteArray} {nL : Nat} {own : String} {fr lo pc : Nat} {ls : Array Slot} {st : List Value} (X : LX M D cy cc nL own fr lo b0 Lx xs sa sb) (d : decode cc pc = .ok (.arraylength, 1)) (k : LG M D w1 w2 (pc + 1) ls (.int (Int32.ofNat Lx) :: st)) : LG M D w1 w2 pc ls (.ref b0 :: st) := by
  obtain ⟨p, l, e, Ro, s, m, args, below, meth, c, Q, A, cells, slots⟩ := M
  exact fun H locs hP hD hS => va_slen X.1.1.1 X.1.1.2.1 X.2.2.2.1.1 X.2.2.2.1.2 (fun hA => by have := (X.1.2.2 b0).mp hA; have := X.2.2.2.1.2; omega) hS d (k H locs hP hD hS)
theorem zl_astore_n {M : zM} {w1 w2 : va_W} {D : va_G} {cy : Nat → ClassId} {b0 Lx : Nat} {xs : Nat → Int32} {sa sb : Nat} {cc : ByteArray} {nL : Nat} {own : String} {fr lo pc : Nat} {ls : Array Slot} {st : List Value} {k0 : Fin 4} {i x : Nat} {lv lv' : List (Nat × Value)} (X : LX M D cy cc nL own fr lo b0 Lx xs sa sb) (d : decode cc pc = .ok (.astore_n k0, 1)) (hi : (k0 : Nat) = i) (h : lv_has ls nL lv) (hn : i < nL) (hl : (i, Value.ref x) :: lv.filter (fun q => !(q.1 == i) && !(q.1 + 1 == i && q.2.category == 2)) = lv') (k : ∀ ls' : Array Slot, lv_has ls' nL lv' → LG M D w1 w2 (pc + 1) ls' st) : LG M D w1 w2 pc ls (.ref x :: st) := by
  obtain ⟨p, l, e, Ro, s, m, args, below, meth, c, Q, A, cells, slots⟩ := M
  exact fun H locs hP hD hS => lv_astore_n X.1.1.1 X.1.1.2.1 d hi h hn hl (fun ls' h' => k ls' h' H locs hP hD hS)
theorem zl_swap {M : zM} {D : va_G} {w : va_W} {pc : Nat} {ls : Array Slot} {st : List Value} (h : LG M D w [] pc ls st) : LG M D [] w pc ls st := by
  obtain ⟨p, l, e, Ro, s, m, args, below, meth, c, Q, A, cells, slots⟩ := M
  exact fun H locs hP hD hS => h H locs (by rw [List.append_nil]; exact hP) (by rw [List.append_nil]; exact hD) hS
theorem zl_new {M : zM} {w1 w2 : va_W} {D : va_G} {cy : Nat → ClassId} {b0 Lx : Nat} {xs : Nat → Int32} {sa sb : Nat} {cc : ByteArray} {nL : Nat} {own : String} {fr lo pc : Nat} {ls : Array Slot} {st : List Value} {c q ci idx Nf : Nat} {C : String} {T : u_T} {ty0 : Nat → FieldType} (X : LX (zMb M c q) D cy cc nL own fr lo b0 Lx xs sa sb) (f : zcl[ci]? = some (C, T, Nf) ∧ ci < 100 ∧ ∀ q ∈ u_ws C T Nf, q ∈ zTB) (hty : ∀ k, k < Nf → parseFieldDescriptor (T k).2.2.1 = some (ty0 k)) (hdv : ∀ j, j < Nf → defaultValue (ty0 j) = vp_V ((zft ci).mapIdx (fun k t => z_fv (fun _ => 0) (fun _ => 0) (fun _ => 0) zn0 k t)) j) (g : Cond.classLink own idx C ∈ zTB ∧ Cond.instantiable C Nf ∈ zTB ∧ Cond.initialized C ∈ zTB) (hR : c + 1 ≤ M.2.2.2.1.cells ∧ q + Nf ≤ M.2.2.2.1.slots) (d : decode cc pc = .ok (.new idx, 3))
    (k : ∀ a : Nat, LG (zMb M (c + 1) (q + Nf)) D w1 (w2 ++ [(a, .inr (ci, ((zft ci).mapIdx (fun k t => z_fv (fun _ => 0) (fun _ => 0) (fun _ => 0) zn0 k t))))]) (pc + 3) ls (.ref a :: st)) : LG (zMb M c q) D w1 w2 pc ls st := by
  obtain ⟨p, l, e, Ro, s, m, args, below, meth, co, Q, A, c00, q00⟩ := M
  intro H locs hP hD hS
  refine va_new (ci := ci) (fs := ((zft ci).mapIdx (fun k t => z_fv (fun _ => 0) (fun _ => 0) (fun _ => 0) zn0 k t))) X.1.1.1 X.1.1.2.1 X.1.1.2.2.2.2 f.2.2 ty0 hty X.1.1.2.2.2.1 (X.1.1.2.2.2.2 _ g.1) (X.1.1.2.2.2.2 _ g.2.1) (X.1.1.2.2.2.2 _ g.2.2) X.1.2.1 hP hD hS (fun q h => (X.1.2.2 q).mpr h) f.1 hdv hR.1 hR.2 d (fun a H1 hP hD hS => ?_)
  exact k a H1 locs (by rw [← List.append_assoc]; exact hP) (by rw [← List.append_assoc]; exact hD) hS
theorem zl_pool1 {D : va_G} {cy : Nat → ClassId} {a ci : Nat} (h : ci < 100) : [(a, (.inr (ci, ((zft ci).mapIdx (fun k t => z_fv (fun _ => 0) (fun _ => 0) (fun _ => 0) zn0 k t))) : va_E))] = z_w (zC D cy (fun _ => a) 1 (fun _ => ci) (fun _ => 0) (fun _ _ => none)) (fun _ _ => 0) (fun _ _ => 0) := by
  have e : z_cell (zC D cy (fun _ => a) 1 (fun _ => ci) (fun _ => 0) (fun _ _ => none)) (fun _ _ => 0) (fun _ _ => 0) 0 = .inr (ci, ((zft ci).mapIdx (fun k t => z_fv (fun _ => 0) (fun _ => 0) (fun _ => 0) zn0 k t))) := by
    rw [z_cellO (ci := ci) rfl h]
    rfl
  show _ = [(a, z_cell _ _ _ 0)]
  rw [e]
theorem zl_wf1 {ci : Nat} : zWF 1 (fun _ => ci) (fun _ _ => none) := fun w _ => ⟨fun _ _ _ => Or.inl rfl, fun _ _ => Or.inl rfl⟩
theorem zl_callT {M : zM} {wo : va_W} {D : va_G} {cy : Nat → ClassId} {b0 Lx : Nat} {xs : Nat → Int32} {sa sb c q : Nat} {ad : Nat → Nat} {n : Nat} {K N : Nat → Nat} {G : zG} {V : zI} {L : zL} {cc cc2 : ByteArray} {nL : Nat} {own : String} {fr lo pc fr2 lo2 n2 idx np : Nat} {ls : Array Slot} {st stk : List Value} {y : MethodName} {ty : FieldType} {v : Int32} {r : zS} {w : Nat} (As : List Value) (X : LX (zMb M c q) D cy cc nL own fr lo b0 Lx xs sa sb) (hls : ls.size = nL) (hM : RTi sa sb D cy ad n K N G y cc2 n2 ty fr2 lo2 (.ref (ad w) :: As) V L v r) (hw : w < n ∧ K w = 8) (hyC : y.cls = RX10) (hlk : Cond.methodLink own idx y ∈ zTB) (gc : Cond.code y cc2 n2 (some ty) ∈ zTB ∧ Cond.initialized y.cls ∈ zTB ∧ Cond.instanceMethod y ∈ zTB ∧ Cond.selects y.cls y y ∈ zTB) (hnp : As.length = np) (hd : (y.cls ≠ "java/lang/invoke/MethodHandle" ∧ y.cls ≠ "java/lang/invoke/VarHandle") ∧ (parseMethodDescriptor y.desc).map (fun d => d.parameters.length) = some np) (hR : fr2 + 1 ≤ fr ∧ 8 + (n2 + 11) + lo2 ≤ lo) (hroom : (st.map fun v => v.category).sum ≤ 8) (hstk : stk = As.reverse ++ .ref (ad w) :: st) (hcc : c + r.2.1 ≤ M.2.2.2.1.cells ∧ q + r.2.2.1 ≤ M.2.2.2.1.slots) (d : decode cc pc = .ok (.invokevirtual idx, 3)) (k : ∀ ad' : Nat → Nat, (∀ w, w < n → ad' w = ad w) → zWF r.1 r.2.2.2.1 r.2.2.2.2.2.1 → n ≤ r.1 → (∀ w, w < n → r.2.2.2.1 w = K w) → LG (zMb M (c + r.2.1) (q + r.2.2.1)) D (z_w (zC D cy ad' r.1 r.2.2.2.1 r.2.2.2.2.1 r.2.2.2.2.2.1) r.2.2.2.2.2.2.1 r.2.2.2.2.2.2.2) wo (pc + 3) ls (.int v :: st)) : LG (zMb M c q) D (z_w (zC D cy ad n K N G) V L) wo pc ls stk := by
  obtain ⟨p, l, e, Ro, s, m, args, below, meth, co, Q, A, c00, q00⟩ := M
  intro H locs hP hD hS
  subst hstk
  have hPc := zl_Pl hP
  have hDc := zl_Dl hD
  obtain ⟨qq, hqq, he⟩ := z_at (O := (zC D cy ad n K N G)) (V := V) (L := L) (w := w) (List.mem_range.mpr hw.1)
  rw [z_cellO (O := (zC D cy ad n K N G)) hw.2 (by decide)] at he
  have hF : ∀ q : Nat, va_A (z_w (zC D cy ad n K N G) V L) H.size q → A q := by
    intro q h
    rcases h with ⟨k, e, h⟩ | h
    · exact hDc.2 k (q, e) h
    · exact (X.1.2.2 q).mpr (Nat.le_trans hS.1 h)
  refine va_calli (va_runV (C := y.cls) (As := As) (rest := st) X.1.1 (hM l H.size) ⟨callB_of np X.1.1.2.2.2.2 (z_goodC gc.1) rfl rfl rfl (X.1.1.2.2.2.2 _ gc.2.1) (X.1.1.2.2.2.2 _ hlk) ⟨hd.1.1, hd.1.2, hd.2⟩ ⟨Nat.le_trans hR.1 X.2.1.1, Nat.le_trans hR.2 X.2.1.2⟩, X.1.1.2.2.2.2 _ gc.2.2.1, X.1.1.2.2.2.2 _ gc.2.2.2⟩ ⟨fun a U g mk q => by obtain ⟨q0, q1, qP, qK, qD, qN, qS, qT⟩ := q; exact ⟨q0, q1, qP, va_K.moved (u := U) (U := U.calling g mk a) (Vm.Alike.refl U.vm) qK, qD, zNf.same (u := U) (U := U.calling g mk a) rfl qN, zSt.moved (u := U) (U := U.calling g mk a) (Vm.Alike.refl U.vm) qS, zStr.same (u := U) (U := U.calling g mk a) qT rfl⟩, (by rw [hyC]; exact va_recv X.1.2.1 hPc (ci := 8) (q := (RX10, TX10, 17)) (q0 := qq) rfl he), fun U hU hW => ⟨rfl, by rw [hU], by rw [hU]; exact hPc, va_K.moved hW.alike X.1.2.1, hDc.weaken (fun _ _ _ _ => trivial), zNf.warm hW X.2.2.2.2.1, zSt.moved hW.alike X.2.2.2.2.2.1, by rw [hU]; exact zStr.move X.2.2.2.2.2.2 hW hF hS.2.1⟩⟩ rfl hnp hls rfl (lv_room hroom) d hcc) hS (fun q _ h => hF q h) hF (fun ri u t H1 locs1 ht hvm hw2 hB hz1 hk1 hS => ?_)
  obtain ⟨⟨hag, hWF, hnn, hKg⟩, hP1, hD1⟩ := hB
  rw [ht] at hP1
  subst hw2
  obtain ⟨hP2, hD2⟩ := zl_left hP hD hk1 hF hP1 hD1
  exact k u hag hWF hnn hKg H1 locs1 hP2 hD2 hS
theorem zl_callM {M : zM} {wo : va_W} {D : va_G} {cy : Nat → ClassId} {b0 Lx : Nat} {xs : Nat → Int32} {sa sb c q : Nat} {ad : Nat → Nat} {V : zI} {L : zL} {cc cc2 : ByteArray} {nL : Nat} {own : String} {fr lo pc fr2 lo2 n2 idx np : Nat} {ls : Array Slot} {st stk : List Value} {y : MethodName} {ty : FieldType} {v : Int32} {V3 : zI} {L3 : zL} (As : List Value) (X : LX (zMb M c q) D cy cc nL own fr lo b0 Lx xs sa sb) (hls : ls.size = nL) (hM : RMi (zR D cy ad) y cc2 n2 ty fr2 lo2 (.ref (ad 0) :: As) V L v V3 L3) (hyC : y.cls = RX11) (hlk : Cond.methodLink own idx y ∈ zTB) (gc : Cond.code y cc2 n2 (some ty) ∈ zTB ∧ Cond.initialized y.cls ∈ zTB ∧ Cond.instanceMethod y ∈ zTB ∧ Cond.selects y.cls y y ∈ zTB) (hnp : As.length = np) (hd : (y.cls ≠ "java/lang/invoke/MethodHandle" ∧ y.cls ≠ "java/lang/invoke/VarHandle") ∧ (parseMethodDescriptor y.desc).map (fun d => d.parameters.length) = some np) (hR : fr2 + 1 ≤ fr ∧ 8 + (n2 + 11) + lo2 ≤ lo) (hroom : (st.map fun v => v.category).sum ≤ 8) (hstk : stk = As.reverse ++ .ref (ad 0) :: st) (d : decode cc pc = .ok (.invokevirtual idx, 3)) (k : LG (zMb M c q) D wo (z_w (zR D cy ad) V3 L3) (pc + 3) ls (.int v :: st)) : LG (zMb M c q) D wo (z_w (zR D cy ad) V L) pc ls stk := by
  obtain ⟨p, l, e, Ro, s, m, args, below, meth, co, Q, A, c00, q00⟩ := M
  intro H locs hP hD hS
  subst hstk
  have hPc := zl_Pr hP
  have hDc := zl_Dr hD
  obtain ⟨qq, hqq, he⟩ := z_at (O := (zR D cy ad)) (V := V) (L := L) (w := 0) (List.mem_range.mpr (by decide))
  rw [z_cellO (O := (zR D cy ad)) (ci := 9) rfl (by decide)] at he
  have hF : ∀ q : Nat, va_A (z_w (zR D cy ad) V L) H.size q → A q := by
    intro q h
    rcases h with ⟨k, e, h⟩ | h
    · exact hDc.2 k (q, e) h
    · exact (X.1.2.2 q).mpr (Nat.le_trans hS.1 h)
  refine va_calli (va_runV (C := y.cls) (As := As) (rest := st) X.1.1 (hM l H.size) ⟨callB_of np X.1.1.2.2.2.2 (z_goodC gc.1) rfl rfl rfl (X.1.1.2.2.2.2 _ gc.2.1) (X.1.1.2.2.2.2 _ hlk) ⟨hd.1.1, hd.1.2, hd.2⟩ ⟨Nat.le_trans hR.1 X.2.1.1, Nat.le_trans hR.2 X.2.1.2⟩, X.1.1.2.2.2.2 _ gc.2.2.1, X.1.1.2.2.2.2 _ gc.2.2.2⟩ ⟨fun a U g mk q => by obtain ⟨q0, q1, qP, qK, qD⟩ := q; exact ⟨q0, q1, qP, va_K.moved (u := U) (U := U.calling g mk a) (Vm.Alike.refl U.vm) qK, qD⟩, (by rw [hyC]; exact va_recv X.1.2.1 hPc (ci := 9) (q := (RX11, TX11, 65)) (q0 := qq) rfl he), fun U hU hW => ⟨rfl, by rw [hU], by rw [hU]; exact hPc, va_K.moved hW.alike X.1.2.1, hDc.weaken (fun _ _ _ _ => trivial)⟩⟩ rfl hnp hls rfl (lv_room hroom) d ⟨X.2.2.1.1, X.2.2.1.2⟩) hS (fun q _ h => hF q h) hF (fun ri u t H1 locs1 ht hvm hw2 hB hz1 hk1 hS => ?_)
  obtain ⟨hP1, -, hD1⟩ := hB
  rw [ht] at hP1
  subst hw2
  obtain ⟨hP2, hD2⟩ := zl_right hP hD hk1 hF hP1 hD1
  exact k H1 locs1 hP2 hD2 hS
theorem zl_initL {M : zM} {wo : va_W} {D : va_G} {cy : Nat → ClassId} {b0 Lx : Nat} {xs : Nat → Int32} {sa sb c q : Nat} {ad : Nat → Nat} {n : Nat} {K N : Nat → Nat} {G : zG} {V : zI} {L : zL} {cc cc2 : ByteArray} {nL : Nat} {own : String} {fr lo pc fr2 lo2 n2 idx np : Nat} {ls : Array Slot} {st stk : List Value} {y : MethodName} {r : zS} {w ci : Nat} (As : List Value) (X : LX (zMb M c q) D cy cc nL own fr lo b0 Lx xs sa sb) (hls : ls.size = nL) (hM : RAv D cy ad n K N G y cc2 n2 fr2 lo2 (.ref (ad w) :: As) V L r) (hw : w < n ∧ K w = ci) (hlk : Cond.methodLink own idx y ∈ zTB) (gc : Cond.code y cc2 n2 (none) ∈ zTB ∧ Cond.initialized y.cls ∈ zTB ∧ Cond.instanceMethod y ∈ zTB ∧ y.name = "<init>") (hnp : As.length = np) (hd : (y.cls ≠ "java/lang/invoke/MethodHandle" ∧ y.cls ≠ "java/lang/invoke/VarHandle") ∧ (parseMethodDescriptor y.desc).map (fun d => d.parameters.length) = some np) (hR : fr2 + 1 ≤ fr ∧ 8 + (n2 + 11) + lo2 ≤ lo) (hroom : (st.map fun v => v.category).sum ≤ 8) (hstk : stk = As.reverse ++ .ref (ad w) :: st) (hcc : c + r.2.1 ≤ M.2.2.2.1.cells ∧ q + r.2.2.1 ≤ M.2.2.2.1.slots) (d : decode cc pc = .ok (.invokespecial idx, 3)) (k : ∀ ad' : Nat → Nat, (∀ w, w < n → ad' w = ad w) → zWF r.1 r.2.2.2.1 r.2.2.2.2.2.1 → n ≤ r.1 → (∀ w, w < n → r.2.2.2.1 w = K w) → LG (zMb M (c + r.2.1) (q + r.2.2.1)) D (z_w (zC D cy ad' r.1 r.2.2.2.1 r.2.2.2.2.1 r.2.2.2.2.2.1) r.2.2.2.2.2.2.1 r.2.2.2.2.2.2.2) wo (pc + 3) ls (st)) : LG (zMb M c q) D (z_w (zC D cy ad n K N G) V L) wo pc ls stk := by
  obtain ⟨p, l, e, Ro, s, m, args, below, meth, co, Q, A, c00, q00⟩ := M
  intro H locs hP hD hS
  subst hstk
  have hPc := zl_Pl hP
  have hDc := zl_Dl hD
  have hF : ∀ q : Nat, va_A (z_w (zC D cy ad n K N G) V L) H.size q → A q := by
    intro q h
    rcases h with ⟨k, e, h⟩ | h
    · exact hDc.2 k (q, e) h
    · exact (X.1.2.2 q).mpr (Nat.le_trans hS.1 h)
  refine va_callv (va_runI (As := As) (rest := st) X.1.1 (hM l H.size) ⟨callB_of np X.1.1.2.2.2.2 (z_goodC gc.1) rfl rfl rfl (X.1.1.2.2.2.2 _ gc.2.1) (X.1.1.2.2.2.2 _ hlk) ⟨hd.1.1, hd.1.2, hd.2⟩ ⟨Nat.le_trans hR.1 X.2.1.1, Nat.le_trans hR.2 X.2.1.2⟩, gc.2.2.2, X.1.1.2.2.2.2 _ gc.2.2.1⟩ ⟨fun a U g mk q => by obtain ⟨q0, q1, qP, qK, qD, qN, qS⟩ := q; exact ⟨q0, q1, qP, va_K.moved (u := U) (U := U.calling g mk a) (Vm.Alike.refl U.vm) qK, qD, zNf.same (u := U) (U := U.calling g mk a) rfl qN, zSt.moved (u := U) (U := U.calling g mk a) (Vm.Alike.refl U.vm) qS⟩, fun U hU hW => ⟨rfl, by rw [hU], by rw [hU]; exact hPc, va_K.moved hW.alike X.1.2.1, hDc.weaken (fun _ _ _ _ => trivial), zNf.warm hW X.2.2.2.2.1, zSt.moved hW.alike X.2.2.2.2.2.1⟩⟩ rfl hnp hls rfl (lv_room hroom) d hcc) hS (fun q _ h => hF q h) hF (fun u t H1 locs1 ht hvm hw2 hB hz1 hk1 hS => ?_)
  obtain ⟨⟨hag, hWF, hnn, hKg⟩, hP1, hD1⟩ := hB
  rw [ht] at hP1
  clear hw2
  obtain ⟨hP2, hD2⟩ := zl_left hP hD hk1 hF hP1 hD1
  exact k u hag hWF hnn hKg H1 locs1 hP2 hD2 hS
theorem zl_initR {M : zM} {wo : va_W} {D : va_G} {cy : Nat → ClassId} {b0 Lx : Nat} {xs : Nat → Int32} {sa sb c q : Nat} {ad : Nat → Nat} {n : Nat} {K N : Nat → Nat} {G : zG} {V : zI} {L : zL} {cc cc2 : ByteArray} {nL : Nat} {own : String} {fr lo pc fr2 lo2 n2 idx np : Nat} {ls : Array Slot} {st stk : List Value} {y : MethodName} {r : zS} {w ci : Nat} (As : List Value) (X : LX (zMb M c q) D cy cc nL own fr lo b0 Lx xs sa sb) (hls : ls.size = nL) (hM : RAv D cy ad n K N G y cc2 n2 fr2 lo2 (.ref (ad w) :: As) V L r) (hw : w < n ∧ K w = ci) (hlk : Cond.methodLink own idx y ∈ zTB) (gc : Cond.code y cc2 n2 (none) ∈ zTB ∧ Cond.initialized y.cls ∈ zTB ∧ Cond.instanceMethod y ∈ zTB ∧ y.name = "<init>") (hnp : As.length = np) (hd : (y.cls ≠ "java/lang/invoke/MethodHandle" ∧ y.cls ≠ "java/lang/invoke/VarHandle") ∧ (parseMethodDescriptor y.desc).map (fun d => d.parameters.length) = some np) (hR : fr2 + 1 ≤ fr ∧ 8 + (n2 + 11) + lo2 ≤ lo) (hroom : (st.map fun v => v.category).sum ≤ 8) (hstk : stk = As.reverse ++ .ref (ad w) :: st) (hcc : c + r.2.1 ≤ M.2.2.2.1.cells ∧ q + r.2.2.1 ≤ M.2.2.2.1.slots) (d : decode cc pc = .ok (.invokespecial idx, 3)) (k : ∀ ad' : Nat → Nat, (∀ w, w < n → ad' w = ad w) → zWF r.1 r.2.2.2.1 r.2.2.2.2.2.1 → n ≤ r.1 → (∀ w, w < n → r.2.2.2.1 w = K w) → LG (zMb M (c + r.2.1) (q + r.2.2.1)) D wo (z_w (zC D cy ad' r.1 r.2.2.2.1 r.2.2.2.2.1 r.2.2.2.2.2.1) r.2.2.2.2.2.2.1 r.2.2.2.2.2.2.2) (pc + 3) ls (st)) : LG (zMb M c q) D wo (z_w (zC D cy ad n K N G) V L) pc ls stk := by
  obtain ⟨p, l, e, Ro, s, m, args, below, meth, co, Q, A, c00, q00⟩ := M
  intro H locs hP hD hS
  subst hstk
  have hPc := zl_Pr hP
  have hDc := zl_Dr hD
  have hF : ∀ q : Nat, va_A (z_w (zC D cy ad n K N G) V L) H.size q → A q := by
    intro q h
    rcases h with ⟨k, e, h⟩ | h
    · exact hDc.2 k (q, e) h
    · exact (X.1.2.2 q).mpr (Nat.le_trans hS.1 h)
  refine va_callv (va_runI (As := As) (rest := st) X.1.1 (hM l H.size) ⟨callB_of np X.1.1.2.2.2.2 (z_goodC gc.1) rfl rfl rfl (X.1.1.2.2.2.2 _ gc.2.1) (X.1.1.2.2.2.2 _ hlk) ⟨hd.1.1, hd.1.2, hd.2⟩ ⟨Nat.le_trans hR.1 X.2.1.1, Nat.le_trans hR.2 X.2.1.2⟩, gc.2.2.2, X.1.1.2.2.2.2 _ gc.2.2.1⟩ ⟨fun a U g mk q => by obtain ⟨q0, q1, qP, qK, qD, qN, qS⟩ := q; exact ⟨q0, q1, qP, va_K.moved (u := U) (U := U.calling g mk a) (Vm.Alike.refl U.vm) qK, qD, zNf.same (u := U) (U := U.calling g mk a) rfl qN, zSt.moved (u := U) (U := U.calling g mk a) (Vm.Alike.refl U.vm) qS⟩, fun U hU hW => ⟨rfl, by rw [hU], by rw [hU]; exact hPc, va_K.moved hW.alike X.1.2.1, hDc.weaken (fun _ _ _ _ => trivial), zNf.warm hW X.2.2.2.2.1, zSt.moved hW.alike X.2.2.2.2.2.1⟩⟩ rfl hnp hls rfl (lv_room hroom) d hcc) hS (fun q _ h => hF q h) hF (fun u t H1 locs1 ht hvm hw2 hB hz1 hk1 hS => ?_)
  obtain ⟨⟨hag, hWF, hnn, hKg⟩, hP1, hD1⟩ := hB
  rw [ht] at hP1
  clear hw2
  obtain ⟨hP2, hD2⟩ := zl_right hP hD hk1 hF hP1 hD1
  exact k u hag hWF hnn hKg H1 locs1 hP2 hD2 hS
