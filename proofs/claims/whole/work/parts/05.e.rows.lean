theorem z_iconst {M : zM} {O : zO} {V : zI} {L : zL} {cc : ByteArray} {nL : Nat} {own : String} {fr lo pc : Nat} {ls : Array Slot} {st : List Value} {n : Int} {v : Int32} (X : RX M O cc nL own fr lo) (d : decode cc pc = .ok (.iconst n, 1)) (hv : Int32.ofInt n = v) (k : RG M O V L (pc + 1) ls (.int v :: st)) : RG M O V L pc ls (st) := by
  obtain ⟨p, l, e, Ro, s, m, args, below, meth, c, Q, A, cells, slots⟩ := M
  exact fun H locs hP hD hS => lv_iconst X.1.1.1 X.1.1.2.1 d hv (k H locs hP hD hS)
theorem z_bipush {M : zM} {O : zO} {V : zI} {L : zL} {cc : ByteArray} {nL : Nat} {own : String} {fr lo pc : Nat} {ls : Array Slot} {st : List Value} {n : Int} {v : Int32} (X : RX M O cc nL own fr lo) (d : decode cc pc = .ok (.bipush n, 2)) (hv : (Int8.ofInt n).toInt32 = v) (k : RG M O V L (pc + 2) ls (.int v :: st)) : RG M O V L pc ls (st) := by
  obtain ⟨p, l, e, Ro, s, m, args, below, meth, c, Q, A, cells, slots⟩ := M
  exact fun H locs hP hD hS => lv_bipush X.1.1.1 X.1.1.2.1 d hv (k H locs hP hD hS)
theorem z_sipush {M : zM} {O : zO} {V : zI} {L : zL} {cc : ByteArray} {nL : Nat} {own : String} {fr lo pc : Nat} {ls : Array Slot} {st : List Value} {n : Int} {v : Int32} (X : RX M O cc nL own fr lo) (d : decode cc pc = .ok (.sipush n, 3)) (hv : (Int16.ofInt n).toInt32 = v) (k : RG M O V L (pc + 3) ls (.int v :: st)) : RG M O V L pc ls (st) := by
  obtain ⟨p, l, e, Ro, s, m, args, below, meth, c, Q, A, cells, slots⟩ := M
  exact fun H locs hP hD hS => lv_sipush X.1.1.1 X.1.1.2.1 d hv (k H locs hP hD hS)
theorem z_lconst {M : zM} {O : zO} {V : zI} {L : zL} {cc : ByteArray} {nL : Nat} {own : String} {fr lo pc : Nat} {ls : Array Slot} {st : List Value} {n : Fin 2} {v : Int64} (X : RX M O cc nL own fr lo) (d : decode cc pc = .ok (.lconst n, 1)) (hv : Int64.ofNat (n : Nat) = v) (k : RG M O V L (pc + 1) ls (.long v :: st)) : RG M O V L pc ls (st) := by
  obtain ⟨p, l, e, Ro, s, m, args, below, meth, c, Q, A, cells, slots⟩ := M
  exact fun H locs hP hD hS => lv_lconst X.1.1.1 X.1.1.2.1 d hv (k H locs hP hD hS)
theorem z_iload_n {M : zM} {O : zO} {V : zI} {L : zL} {cc : ByteArray} {nL : Nat} {own : String} {fr lo pc : Nat} {ls : Array Slot} {st : List Value} {k0 : Fin 4} {i : Nat} {x : Int32} (X : RX M O cc nL own fr lo) (d : decode cc pc = .ok (.iload_n k0, 1)) (hi : (k0 : Nat) = i) (hl : ls[i]? = some (.val (.int x))) (k : RG M O V L (pc + 1) ls (.int x :: st)) : RG M O V L pc ls (st) := by
  obtain ⟨p, l, e, Ro, s, m, args, below, meth, c, Q, A, cells, slots⟩ := M
  exact fun H locs hP hD hS => lv_iload_n X.1.1.1 X.1.1.2.1 d hi hl (k H locs hP hD hS)
theorem z_iload {M : zM} {O : zO} {V : zI} {L : zL} {cc : ByteArray} {nL : Nat} {own : String} {fr lo pc : Nat} {ls : Array Slot} {st : List Value} {i : Nat} {x : Int32} (X : RX M O cc nL own fr lo) (d : decode cc pc = .ok (.iload i, 2)) (hl : ls[i]? = some (.val (.int x))) (k : RG M O V L (pc + 2) ls (.int x :: st)) : RG M O V L pc ls (st) := by
  obtain ⟨p, l, e, Ro, s, m, args, below, meth, c, Q, A, cells, slots⟩ := M
  exact fun H locs hP hD hS => lv_iload X.1.1.1 X.1.1.2.1 d hl (k H locs hP hD hS)
theorem z_lload_n {M : zM} {O : zO} {V : zI} {L : zL} {cc : ByteArray} {nL : Nat} {own : String} {fr lo pc : Nat} {ls : Array Slot} {st : List Value} {k0 : Fin 4} {i : Nat} {x : Int64} (X : RX M O cc nL own fr lo) (d : decode cc pc = .ok (.lload_n k0, 1)) (hi : (k0 : Nat) = i) (hl : ls[i]? = some (.val (.long x))) (k : RG M O V L (pc + 1) ls (.long x :: st)) : RG M O V L pc ls (st) := by
  obtain ⟨p, l, e, Ro, s, m, args, below, meth, c, Q, A, cells, slots⟩ := M
  exact fun H locs hP hD hS => lv_lload_n X.1.1.1 X.1.1.2.1 d hi hl (k H locs hP hD hS)
theorem z_lload {M : zM} {O : zO} {V : zI} {L : zL} {cc : ByteArray} {nL : Nat} {own : String} {fr lo pc : Nat} {ls : Array Slot} {st : List Value} {i : Nat} {x : Int64} (X : RX M O cc nL own fr lo) (d : decode cc pc = .ok (.lload i, 2)) (hl : ls[i]? = some (.val (.long x))) (k : RG M O V L (pc + 2) ls (.long x :: st)) : RG M O V L pc ls (st) := by
  obtain ⟨p, l, e, Ro, s, m, args, below, meth, c, Q, A, cells, slots⟩ := M
  exact fun H locs hP hD hS => lv_lload X.1.1.1 X.1.1.2.1 d hl (k H locs hP hD hS)
theorem z_aload_n {M : zM} {O : zO} {V : zI} {L : zL} {cc : ByteArray} {nL : Nat} {own : String} {fr lo pc : Nat} {ls : Array Slot} {st : List Value} {k0 : Fin 4} {i x : Nat} (X : RX M O cc nL own fr lo) (d : decode cc pc = .ok (.aload_n k0, 1)) (hi : (k0 : Nat) = i) (hl : ls[i]? = some (.val (.ref x))) (k : RG M O V L (pc + 1) ls (.ref x :: st)) : RG M O V L pc ls (st) := by
  obtain ⟨p, l, e, Ro, s, m, args, below, meth, c, Q, A, cells, slots⟩ := M
  exact fun H locs hP hD hS => lv_aload_n X.1.1.1 X.1.1.2.1 d hi hl (k H locs hP hD hS)
theorem z_aload {M : zM} {O : zO} {V : zI} {L : zL} {cc : ByteArray} {nL : Nat} {own : String} {fr lo pc : Nat} {ls : Array Slot} {st : List Value} {i x : Nat} (X : RX M O cc nL own fr lo) (d : decode cc pc = .ok (.aload i, 2)) (hl : ls[i]? = some (.val (.ref x))) (k : RG M O V L (pc + 2) ls (.ref x :: st)) : RG M O V L pc ls (st) := by
  obtain ⟨p, l, e, Ro, s, m, args, below, meth, c, Q, A, cells, slots⟩ := M
  exact fun H locs hP hD hS => lv_aload X.1.1.1 X.1.1.2.1 d hl (k H locs hP hD hS)
theorem z_istore_n {M : zM} {O : zO} {V : zI} {L : zL} {cc : ByteArray} {nL : Nat} {own : String} {fr lo pc : Nat} {ls : Array Slot} {st : List Value} {k0 : Fin 4} {i : Nat} {x : Int32} {lv lv' : List (Nat × Value)} (X : RX M O cc nL own fr lo) (d : decode cc pc = .ok (.istore_n k0, 1)) (hi : (k0 : Nat) = i) (h : lv_has ls nL lv) (hn : i < nL) (hl : (i, Value.int x) :: lv.filter (fun q => !(q.1 == i) && !(q.1 + 1 == i && q.2.category == 2)) = lv') (k : ∀ ls' : Array Slot, lv_has ls' nL lv' → RG M O V L (pc + 1) ls' st) : RG M O V L pc ls (.int x :: st) := by
  obtain ⟨p, l, e, Ro, s, m, args, below, meth, c, Q, A, cells, slots⟩ := M
  exact fun H locs hP hD hS => lv_istore_n X.1.1.1 X.1.1.2.1 d hi h hn hl (fun ls' h' => k ls' h' H locs hP hD hS)
theorem z_istore {M : zM} {O : zO} {V : zI} {L : zL} {cc : ByteArray} {nL : Nat} {own : String} {fr lo pc : Nat} {ls : Array Slot} {st : List Value} {i : Nat} {x : Int32} {lv lv' : List (Nat × Value)} (X : RX M O cc nL own fr lo) (d : decode cc pc = .ok (.istore i, 2)) (h : lv_has ls nL lv) (hn : i < nL) (hl : (i, Value.int x) :: lv.filter (fun q => !(q.1 == i) && !(q.1 + 1 == i && q.2.category == 2)) = lv') (k : ∀ ls' : Array Slot, lv_has ls' nL lv' → RG M O V L (pc + 2) ls' st) : RG M O V L pc ls (.int x :: st) := by
  obtain ⟨p, l, e, Ro, s, m, args, below, meth, c, Q, A, cells, slots⟩ := M
  exact fun H locs hP hD hS => lv_istore X.1.1.1 X.1.1.2.1 d h hn hl (fun ls' h' => k ls' h' H locs hP hD hS)
theorem z_lstore_n {M : zM} {O : zO} {V : zI} {L : zL} {cc : ByteArray} {nL : Nat} {own : String} {fr lo pc : Nat} {ls : Array Slot} {st : List Value} {k0 : Fin 4} {i : Nat} {x : Int64} {lv lv' : List (Nat × Value)} (X : RX M O cc nL own fr lo) (d : decode cc pc = .ok (.lstore_n k0, 1)) (hi : (k0 : Nat) = i) (h : lv_has ls nL lv) (hn : i + 1 < nL) (hl : (i, Value.long x) :: lv.filter (fun q => !(q.1 == i) && (!(q.1 == i + 1) && !(q.1 + 1 == i && q.2.category == 2))) = lv') (k : ∀ ls' : Array Slot, lv_has ls' nL lv' → RG M O V L (pc + 1) ls' st) : RG M O V L pc ls (.long x :: st) := by
  obtain ⟨p, l, e, Ro, s, m, args, below, meth, c, Q, A, cells, slots⟩ := M
  exact fun H locs hP hD hS => lv_lstore_n X.1.1.1 X.1.1.2.1 d hi h hn hl (fun ls' h' => k ls' h' H locs hP hD hS)
theorem z_lstore {M : zM} {O : zO} {V : zI} {L : zL} {cc : ByteArray} {nL : Nat} {own : String} {fr lo pc : Nat} {ls : Array Slot} {st : List Value} {i : Nat} {x : Int64} {lv lv' : List (Nat × Value)} (X : RX M O cc nL own fr lo) (d : decode cc pc = .ok (.lstore i, 2)) (h : lv_has ls nL lv) (hn : i + 1 < nL) (hl : (i, Value.long x) :: lv.filter (fun q => !(q.1 == i) && (!(q.1 == i + 1) && !(q.1 + 1 == i && q.2.category == 2))) = lv') (k : ∀ ls' : Array Slot, lv_has ls' nL lv' → RG M O V L (pc + 2) ls' st) : RG M O V L pc ls (.long x :: st) := by
  obtain ⟨p, l, e, Ro, s, m, args, below, meth, c, Q, A, cells, slots⟩ := M
  exact fun H locs hP hD hS => lv_lstore X.1.1.1 X.1.1.2.1 d h hn hl (fun ls' h' => k ls' h' H locs hP hD hS)
theorem z_iinc {M : zM} {O : zO} {V : zI} {L : zL} {cc : ByteArray} {nL : Nat} {own : String} {fr lo pc : Nat} {ls : Array Slot} {st : List Value} {i k0 : Nat} {n : Int} {x v : Int32} {lv lv' : List (Nat × Value)} (X : RX M O cc nL own fr lo) (d : decode cc pc = .ok (.iinc i n, 3)) (h : lv_has ls nL lv) (hk : lv[k0]? = some (i, .int x)) (hv : x + Int32.ofInt n = v) (hn : i < nL) (hl : (i, Value.int v) :: lv.filter (fun q => !(q.1 == i) && !(q.1 + 1 == i && q.2.category == 2)) = lv') (k : ∀ ls' : Array Slot, lv_has ls' nL lv' → RG M O V L (pc + 3) ls' st) : RG M O V L pc ls (st) := by
  obtain ⟨p, l, e, Ro, s, m, args, below, meth, c, Q, A, cells, slots⟩ := M
  exact fun H locs hP hD hS => lv_iinc X.1.1.1 X.1.1.2.1 d h hk hv hn hl (fun ls' h' => k ls' h' H locs hP hD hS)
theorem z_iadd {M : zM} {O : zO} {V : zI} {L : zL} {cc : ByteArray} {nL : Nat} {own : String} {fr lo pc : Nat} {ls : Array Slot} {st : List Value} {x y : Int32} (X : RX M O cc nL own fr lo) (d : decode cc pc = .ok (.iadd, 1)) (k : RG M O V L (pc + 1) ls (.int (x + y) :: st)) : RG M O V L pc ls (.int y :: .int x :: st) := by
  obtain ⟨p, l, e, Ro, s, m, args, below, meth, c, Q, A, cells, slots⟩ := M
  exact fun H locs hP hD hS => lv_iadd X.1.1.1 X.1.1.2.1 d (k H locs hP hD hS)
theorem z_isub {M : zM} {O : zO} {V : zI} {L : zL} {cc : ByteArray} {nL : Nat} {own : String} {fr lo pc : Nat} {ls : Array Slot} {st : List Value} {x y : Int32} (X : RX M O cc nL own fr lo) (d : decode cc pc = .ok (.isub, 1)) (k : RG M O V L (pc + 1) ls (.int (x - y) :: st)) : RG M O V L pc ls (.int y :: .int x :: st) := by
  obtain ⟨p, l, e, Ro, s, m, args, below, meth, c, Q, A, cells, slots⟩ := M
  exact fun H locs hP hD hS => lv_isub X.1.1.1 X.1.1.2.1 d (k H locs hP hD hS)
theorem z_imul {M : zM} {O : zO} {V : zI} {L : zL} {cc : ByteArray} {nL : Nat} {own : String} {fr lo pc : Nat} {ls : Array Slot} {st : List Value} {x y : Int32} (X : RX M O cc nL own fr lo) (d : decode cc pc = .ok (.imul, 1)) (k : RG M O V L (pc + 1) ls (.int (x * y) :: st)) : RG M O V L pc ls (.int y :: .int x :: st) := by
  obtain ⟨p, l, e, Ro, s, m, args, below, meth, c, Q, A, cells, slots⟩ := M
  exact fun H locs hP hD hS => lv_imul X.1.1.1 X.1.1.2.1 d (k H locs hP hD hS)
theorem z_iand {M : zM} {O : zO} {V : zI} {L : zL} {cc : ByteArray} {nL : Nat} {own : String} {fr lo pc : Nat} {ls : Array Slot} {st : List Value} {x y : Int32} (X : RX M O cc nL own fr lo) (d : decode cc pc = .ok (.iand, 1)) (k : RG M O V L (pc + 1) ls (.int (x &&& y) :: st)) : RG M O V L pc ls (.int y :: .int x :: st) := by
  obtain ⟨p, l, e, Ro, s, m, args, below, meth, c, Q, A, cells, slots⟩ := M
  exact fun H locs hP hD hS => lv_iand X.1.1.1 X.1.1.2.1 d (k H locs hP hD hS)
theorem z_ior {M : zM} {O : zO} {V : zI} {L : zL} {cc : ByteArray} {nL : Nat} {own : String} {fr lo pc : Nat} {ls : Array Slot} {st : List Value} {x y : Int32} (X : RX M O cc nL own fr lo) (d : decode cc pc = .ok (.ior, 1)) (k : RG M O V L (pc + 1) ls (.int (x ||| y) :: st)) : RG M O V L pc ls (.int y :: .int x :: st) := by
  obtain ⟨p, l, e, Ro, s, m, args, below, meth, c, Q, A, cells, slots⟩ := M
  exact fun H locs hP hD hS => lv_ior X.1.1.1 X.1.1.2.1 d (k H locs hP hD hS)
theorem z_ixor {M : zM} {O : zO} {V : zI} {L : zL} {cc : ByteArray} {nL : Nat} {own : String} {fr lo pc : Nat} {ls : Array Slot} {st : List Value} {x y : Int32} (X : RX M O cc nL own fr lo) (d : decode cc pc = .ok (.ixor, 1)) (k : RG M O V L (pc + 1) ls (.int (x ^^^ y) :: st)) : RG M O V L pc ls (.int y :: .int x :: st) := by
  obtain ⟨p, l, e, Ro, s, m, args, below, meth, c, Q, A, cells, slots⟩ := M
  exact fun H locs hP hD hS => lv_ixor X.1.1.1 X.1.1.2.1 d (k H locs hP hD hS)
theorem z_ishl {M : zM} {O : zO} {V : zI} {L : zL} {cc : ByteArray} {nL : Nat} {own : String} {fr lo pc : Nat} {ls : Array Slot} {st : List Value} {x y : Int32} (X : RX M O cc nL own fr lo) (d : decode cc pc = .ok (.ishl, 1)) (k : RG M O V L (pc + 1) ls (.int (x <<< (y &&& 31)) :: st)) : RG M O V L pc ls (.int y :: .int x :: st) := by
  obtain ⟨p, l, e, Ro, s, m, args, below, meth, c, Q, A, cells, slots⟩ := M
  exact fun H locs hP hD hS => lv_ishl X.1.1.1 X.1.1.2.1 d (k H locs hP hD hS)
theorem z_ishr {M : zM} {O : zO} {V : zI} {L : zL} {cc : ByteArray} {nL : Nat} {own : String} {fr lo pc : Nat} {ls : Array Slot} {st : List Value} {x y : Int32} (X : RX M O cc nL own fr lo) (d : decode cc pc = .ok (.ishr, 1)) (k : RG M O V L (pc + 1) ls (.int (x >>> (y &&& 31)) :: st)) : RG M O V L pc ls (.int y :: .int x :: st) := by
  obtain ⟨p, l, e, Ro, s, m, args, below, meth, c, Q, A, cells, slots⟩ := M
  exact fun H locs hP hD hS => lv_ishr X.1.1.1 X.1.1.2.1 d (k H locs hP hD hS)
theorem z_idiv {M : zM} {O : zO} {V : zI} {L : zL} {cc : ByteArray} {nL : Nat} {own : String} {fr lo pc : Nat} {ls : Array Slot} {st : List Value} {x y : Int32} (X : RX M O cc nL own fr lo) (d : decode cc pc = .ok (.idiv, 1)) (hne : ¬ y = 0) (k : RG M O V L (pc + 1) ls (.int (x / y) :: st)) : RG M O V L pc ls (.int y :: .int x :: st) := by
  obtain ⟨p, l, e, Ro, s, m, args, below, meth, c, Q, A, cells, slots⟩ := M
  exact fun H locs hP hD hS => lv_idiv X.1.1.1 X.1.1.2.1 d hne (k H locs hP hD hS)
theorem z_irem {M : zM} {O : zO} {V : zI} {L : zL} {cc : ByteArray} {nL : Nat} {own : String} {fr lo pc : Nat} {ls : Array Slot} {st : List Value} {x y : Int32} (X : RX M O cc nL own fr lo) (d : decode cc pc = .ok (.irem, 1)) (hne : ¬ y = 0) (k : RG M O V L (pc + 1) ls (.int (x - x / y * y) :: st)) : RG M O V L pc ls (.int y :: .int x :: st) := by
  obtain ⟨p, l, e, Ro, s, m, args, below, meth, c, Q, A, cells, slots⟩ := M
  exact fun H locs hP hD hS => lv_irem X.1.1.1 X.1.1.2.1 d hne (k H locs hP hD hS)
theorem z_ladd {M : zM} {O : zO} {V : zI} {L : zL} {cc : ByteArray} {nL : Nat} {own : String} {fr lo pc : Nat} {ls : Array Slot} {st : List Value} {x y : Int64} (X : RX M O cc nL own fr lo) (d : decode cc pc = .ok (.ladd, 1)) (k : RG M O V L (pc + 1) ls (.long (x + y) :: st)) : RG M O V L pc ls (.long y :: .long x :: st) := by
  obtain ⟨p, l, e, Ro, s, m, args, below, meth, c, Q, A, cells, slots⟩ := M
  exact fun H locs hP hD hS => lv_ladd X.1.1.1 X.1.1.2.1 d (k H locs hP hD hS)
theorem z_lsub {M : zM} {O : zO} {V : zI} {L : zL} {cc : ByteArray} {nL : Nat} {own : String} {fr lo pc : Nat} {ls : Array Slot} {st : List Value} {x y : Int64} (X : RX M O cc nL own fr lo) (d : decode cc pc = .ok (.lsub, 1)) (k : RG M O V L (pc + 1) ls (.long (x - y) :: st)) : RG M O V L pc ls (.long y :: .long x :: st) := by
  obtain ⟨p, l, e, Ro, s, m, args, below, meth, c, Q, A, cells, slots⟩ := M
  exact fun H locs hP hD hS => lv_lsub X.1.1.1 X.1.1.2.1 d (k H locs hP hD hS)
theorem z_lmul {M : zM} {O : zO} {V : zI} {L : zL} {cc : ByteArray} {nL : Nat} {own : String} {fr lo pc : Nat} {ls : Array Slot} {st : List Value} {x y : Int64} (X : RX M O cc nL own fr lo) (d : decode cc pc = .ok (.lmul, 1)) (k : RG M O V L (pc + 1) ls (.long (x * y) :: st)) : RG M O V L pc ls (.long y :: .long x :: st) := by
  obtain ⟨p, l, e, Ro, s, m, args, below, meth, c, Q, A, cells, slots⟩ := M
  exact fun H locs hP hD hS => lv_lmul X.1.1.1 X.1.1.2.1 d (k H locs hP hD hS)
theorem z_land {M : zM} {O : zO} {V : zI} {L : zL} {cc : ByteArray} {nL : Nat} {own : String} {fr lo pc : Nat} {ls : Array Slot} {st : List Value} {x y : Int64} (X : RX M O cc nL own fr lo) (d : decode cc pc = .ok (.land, 1)) (k : RG M O V L (pc + 1) ls (.long (x &&& y) :: st)) : RG M O V L pc ls (.long y :: .long x :: st) := by
  obtain ⟨p, l, e, Ro, s, m, args, below, meth, c, Q, A, cells, slots⟩ := M
  exact fun H locs hP hD hS => lv_land X.1.1.1 X.1.1.2.1 d (k H locs hP hD hS)
theorem z_lor {M : zM} {O : zO} {V : zI} {L : zL} {cc : ByteArray} {nL : Nat} {own : String} {fr lo pc : Nat} {ls : Array Slot} {st : List Value} {x y : Int64} (X : RX M O cc nL own fr lo) (d : decode cc pc = .ok (.lor, 1)) (k : RG M O V L (pc + 1) ls (.long (x ||| y) :: st)) : RG M O V L pc ls (.long y :: .long x :: st) := by
  obtain ⟨p, l, e, Ro, s, m, args, below, meth, c, Q, A, cells, slots⟩ := M
  exact fun H locs hP hD hS => lv_lor X.1.1.1 X.1.1.2.1 d (k H locs hP hD hS)
theorem z_lxor {M : zM} {O : zO} {V : zI} {L : zL} {cc : ByteArray} {nL : Nat} {own : String} {fr lo pc : Nat} {ls : Array Slot} {st : List Value} {x y : Int64} (X : RX M O cc nL own fr lo) (d : decode cc pc = .ok (.lxor, 1)) (k : RG M O V L (pc + 1) ls (.long (x ^^^ y) :: st)) : RG M O V L pc ls (.long y :: .long x :: st) := by
  obtain ⟨p, l, e, Ro, s, m, args, below, meth, c, Q, A, cells, slots⟩ := M
  exact fun H locs hP hD hS => lv_lxor X.1.1.1 X.1.1.2.1 d (k H locs hP hD hS)
theorem z_ldiv {M : zM} {O : zO} {V : zI} {L : zL} {cc : ByteArray} {nL : Nat} {own : String} {fr lo pc : Nat} {ls : Array Slot} {st : List Value} {x y : Int64} (X : RX M O cc nL own fr lo) (d : decode cc pc = .ok (.ldiv, 1)) (hne : ¬ y = 0) (k : RG M O V L (pc + 1) ls (.long (x / y) :: st)) : RG M O V L pc ls (.long y :: .long x :: st) := by
  obtain ⟨p, l, e, Ro, s, m, args, below, meth, c, Q, A, cells, slots⟩ := M
  exact fun H locs hP hD hS => lv_ldiv X.1.1.1 X.1.1.2.1 d hne (k H locs hP hD hS)
theorem z_lrem {M : zM} {O : zO} {V : zI} {L : zL} {cc : ByteArray} {nL : Nat} {own : String} {fr lo pc : Nat} {ls : Array Slot} {st : List Value} {x y : Int64} (X : RX M O cc nL own fr lo) (d : decode cc pc = .ok (.lrem, 1)) (hne : ¬ y = 0) (k : RG M O V L (pc + 1) ls (.long (x - x / y * y) :: st)) : RG M O V L pc ls (.long y :: .long x :: st) := by
  obtain ⟨p, l, e, Ro, s, m, args, below, meth, c, Q, A, cells, slots⟩ := M
  exact fun H locs hP hD hS => lv_lrem X.1.1.1 X.1.1.2.1 d hne (k H locs hP hD hS)
theorem z_i2l {M : zM} {O : zO} {V : zI} {L : zL} {cc : ByteArray} {nL : Nat} {own : String} {fr lo pc : Nat} {ls : Array Slot} {st : List Value} {x : Int32} (X : RX M O cc nL own fr lo) (d : decode cc pc = .ok (.i2l, 1)) (k : RG M O V L (pc + 1) ls (.long x.toInt64 :: st)) : RG M O V L pc ls (.int x :: st) := by
  obtain ⟨p, l, e, Ro, s, m, args, below, meth, c, Q, A, cells, slots⟩ := M
  exact fun H locs hP hD hS => lv_i2l X.1.1.1 X.1.1.2.1 d rfl (k H locs hP hD hS)
theorem z_l2i {M : zM} {O : zO} {V : zI} {L : zL} {cc : ByteArray} {nL : Nat} {own : String} {fr lo pc : Nat} {ls : Array Slot} {st : List Value} {x : Int64} (X : RX M O cc nL own fr lo) (d : decode cc pc = .ok (.l2i, 1)) (k : RG M O V L (pc + 1) ls (.int x.toInt32 :: st)) : RG M O V L pc ls (.long x :: st) := by
  obtain ⟨p, l, e, Ro, s, m, args, below, meth, c, Q, A, cells, slots⟩ := M
  exact fun H locs hP hD hS => lv_l2i X.1.1.1 X.1.1.2.1 d rfl (k H locs hP hD hS)
theorem z_i2b {M : zM} {O : zO} {V : zI} {L : zL} {cc : ByteArray} {nL : Nat} {own : String} {fr lo pc : Nat} {ls : Array Slot} {st : List Value} {x : Int32} (X : RX M O cc nL own fr lo) (d : decode cc pc = .ok (.i2b, 1)) (k : RG M O V L (pc + 1) ls (.int x.toInt8.toInt32 :: st)) : RG M O V L pc ls (.int x :: st) := by
  obtain ⟨p, l, e, Ro, s, m, args, below, meth, c, Q, A, cells, slots⟩ := M
  exact fun H locs hP hD hS => lv_i2b X.1.1.1 X.1.1.2.1 d rfl (k H locs hP hD hS)
theorem z_lushr {M : zM} {O : zO} {V : zI} {L : zL} {cc : ByteArray} {nL : Nat} {own : String} {fr lo pc : Nat} {ls : Array Slot} {st : List Value} {x : Int64} {y : Int32} (X : RX M O cc nL own fr lo) (d : decode cc pc = .ok (.lushr, 1)) (k : RG M O V L (pc + 1) ls (.long (x.toUInt64 >>> (y.toInt64.toUInt64 &&& Int64.toUInt64 63)).toInt64 :: st)) : RG M O V L pc ls (.int y :: .long x :: st) := by
  obtain ⟨p, l, e, Ro, s, m, args, below, meth, c, Q, A, cells, slots⟩ := M
  exact fun H locs hP hD hS => lv_lushr X.1.1.1 X.1.1.2.1 d rfl (k H locs hP hD hS)
theorem z_lshl {M : zM} {O : zO} {V : zI} {L : zL} {cc : ByteArray} {nL : Nat} {own : String} {fr lo pc : Nat} {ls : Array Slot} {st : List Value} {x : Int64} {y : Int32} (X : RX M O cc nL own fr lo) (d : decode cc pc = .ok (.lshl, 1)) (k : RG M O V L (pc + 1) ls (.long (x <<< (y.toInt64 &&& 63)) :: st)) : RG M O V L pc ls (.int y :: .long x :: st) := by
  obtain ⟨p, l, e, Ro, s, m, args, below, meth, c, Q, A, cells, slots⟩ := M
  exact fun H locs hP hD hS => lv_lshl X.1.1.1 X.1.1.2.1 d rfl (k H locs hP hD hS)
theorem z_lshr {M : zM} {O : zO} {V : zI} {L : zL} {cc : ByteArray} {nL : Nat} {own : String} {fr lo pc : Nat} {ls : Array Slot} {st : List Value} {x : Int64} {y : Int32} (X : RX M O cc nL own fr lo) (d : decode cc pc = .ok (.lshr, 1)) (k : RG M O V L (pc + 1) ls (.long (x >>> (y.toInt64 &&& 63)) :: st)) : RG M O V L pc ls (.int y :: .long x :: st) := by
  obtain ⟨p, l, e, Ro, s, m, args, below, meth, c, Q, A, cells, slots⟩ := M
  exact fun H locs hP hD hS => lv_lshr X.1.1.1 X.1.1.2.1 d rfl (k H locs hP hD hS)
theorem z_lcmp {M : zM} {O : zO} {V : zI} {L : zL} {cc : ByteArray} {nL : Nat} {own : String} {fr lo pc : Nat} {ls : Array Slot} {st : List Value} {x y : Int64} (X : RX M O cc nL own fr lo) (d : decode cc pc = .ok (.lcmp, 1)) (k : RG M O V L (pc + 1) ls (.int (lg_cmp x y) :: st)) : RG M O V L pc ls (.long y :: .long x :: st) := by
  obtain ⟨p, l, e, Ro, s, m, args, below, meth, c, Q, A, cells, slots⟩ := M
  exact fun H locs hP hD hS => W.lcmp X.1.1.1 X.1.1.2.1 d (k H locs hP hD hS)
theorem z_dup {M : zM} {O : zO} {V : zI} {L : zL} {cc : ByteArray} {nL : Nat} {own : String} {fr lo pc : Nat} {ls : Array Slot} {st : List Value} {va : Value} (X : RX M O cc nL own fr lo) (d : decode cc pc = .ok (.dup, 1)) (h1 : va.category = 1) (k : RG M O V L (pc + 1) ls (va :: va :: st)) : RG M O V L pc ls (va :: st) := by
  obtain ⟨p, l, e, Ro, s, m, args, below, meth, c, Q, A, cells, slots⟩ := M
  exact fun H locs hP hD hS => lv_dup X.1.1.1 X.1.1.2.1 d h1 (k H locs hP hD hS)
theorem z_pop {M : zM} {O : zO} {V : zI} {L : zL} {cc : ByteArray} {nL : Nat} {own : String} {fr lo pc : Nat} {ls : Array Slot} {st : List Value} {va : Value} (X : RX M O cc nL own fr lo) (d : decode cc pc = .ok (.pop, 1)) (h1 : va.category = 1) (k : RG M O V L (pc + 1) ls (st)) : RG M O V L pc ls (va :: st) := by
  obtain ⟨p, l, e, Ro, s, m, args, below, meth, c, Q, A, cells, slots⟩ := M
  exact fun H locs hP hD hS => lv_pop X.1.1.1 X.1.1.2.1 d h1 (k H locs hP hD hS)
theorem z_dup_x1 {M : zM} {O : zO} {V : zI} {L : zL} {cc : ByteArray} {nL : Nat} {own : String} {fr lo pc : Nat} {ls : Array Slot} {st : List Value} {va vb : Value} (X : RX M O cc nL own fr lo) (d : decode cc pc = .ok (.dup_x1, 1)) (h1 : va.category = 1) (h2 : vb.category = 1) (k : RG M O V L (pc + 1) ls (va :: vb :: va :: st)) : RG M O V L pc ls (va :: vb :: st) := by
  obtain ⟨p, l, e, Ro, s, m, args, below, meth, c, Q, A, cells, slots⟩ := M
  exact fun H locs hP hD hS => lv_dup_x1 X.1.1.1 X.1.1.2.1 d h1 h2 (k H locs hP hD hS)
theorem z_dup2 {M : zM} {O : zO} {V : zI} {L : zL} {cc : ByteArray} {nL : Nat} {own : String} {fr lo pc : Nat} {ls : Array Slot} {st : List Value} {va vb : Value} (X : RX M O cc nL own fr lo) (d : decode cc pc = .ok (.dup2, 1)) (h1 : va.category = 1) (h2 : vb.category = 1) (k : RG M O V L (pc + 1) ls (va :: vb :: va :: vb :: st)) : RG M O V L pc ls (va :: vb :: st) := by
  obtain ⟨p, l, e, Ro, s, m, args, below, meth, c, Q, A, cells, slots⟩ := M
  exact fun H locs hP hD hS => lv_dup2_11 X.1.1.1 X.1.1.2.1 d h1 h2 (k H locs hP hD hS)
theorem z_ldc {M : zM} {O : zO} {V : zI} {L : zL} {cc : ByteArray} {nL : Nat} {own : String} {fr lo pc : Nat} {ls : Array Slot} {st : List Value} {idx : Nat} {v : Int32} (X : RX M O cc nL own fr lo) (d : decode cc pc = .ok (.ldc idx, 2)) (hc : Cond.constant own idx v ∈ zTB) (k : RG M O V L (pc + 2) ls (.int v :: st)) : RG M O V L pc ls (st) := by
  obtain ⟨p, l, e, Ro, s, m, args, below, meth, c, Q, A, cells, slots⟩ := M
  exact fun H locs hP hD hS => lv_ldc X.1.1.1 X.1.1.2.1 X.1.1.2.2.2.1 (X.1.1.2.2.2.2 _ hc) d (k H locs hP hD hS)
theorem z_ldcw {M : zM} {O : zO} {V : zI} {L : zL} {cc : ByteArray} {nL : Nat} {own : String} {fr lo pc : Nat} {ls : Array Slot} {st : List Value} {idx : Nat} {v : Int32} (X : RX M O cc nL own fr lo) (d : decode cc pc = .ok (.ldc_w idx, 3)) (hc : Cond.constant own idx v ∈ zTB) (k : RG M O V L (pc + 3) ls (.int v :: st)) : RG M O V L pc ls (st) := by
  obtain ⟨p, l, e, Ro, s, m, args, below, meth, c, Q, A, cells, slots⟩ := M
  exact fun H locs hP hD hS => lv_ldcw X.1.1.1 X.1.1.2.1 X.1.1.2.2.2.1 (X.1.1.2.2.2.2 _ hc) d (k H locs hP hD hS)
theorem z_ldc2 {M : zM} {O : zO} {V : zI} {L : zL} {cc : ByteArray} {nL : Nat} {own : String} {fr lo pc : Nat} {ls : Array Slot} {st : List Value} {idx : Nat} {v : Int64} (X : RX M O cc nL own fr lo) (d : decode cc pc = .ok (.ldc2_w idx, 3)) (hc : Cond.constantLong own idx v ∈ zTB) (k : RG M O V L (pc + 3) ls (.long v :: st)) : RG M O V L pc ls (st) := by
  obtain ⟨p, l, e, Ro, s, m, args, below, meth, c, Q, A, cells, slots⟩ := M
  exact fun H locs hP hD hS => lv_ldc2 X.1.1.1 X.1.1.2.1 X.1.1.2.2.2.1 (X.1.1.2.2.2.2 _ hc) d (k H locs hP hD hS)
theorem z_if_eq {M : zM} {O : zO} {V : zI} {L : zL} {cc : ByteArray} {nL : Nat} {own : String} {fr lo pc : Nat} {ls : Array Slot} {st : List Value} {x : Int32} {off : Int} {tgt : Nat} (X : RX M O cc nL own fr lo) (d : decode cc pc = .ok (.ifCond .eq off, 3)) (ht : (pc : Int) + off = (tgt : Int)) (kt : x = 0 → RG M O V L tgt ls st) (kf : ¬ x = 0 → RG M O V L (pc + 3) ls st) : RG M O V L pc ls (.int x :: st) := by
  obtain ⟨p, l, e, Ro, s, m, args, below, meth, c, Q, A, cells, slots⟩ := M
  exact fun H locs hP hD hS => lv_if_eq X.1.1.1 X.1.1.2.1 d ht (fun h => kt h H locs hP hD hS) (fun h => kf h H locs hP hD hS)
theorem z_icmp_eq {M : zM} {O : zO} {V : zI} {L : zL} {cc : ByteArray} {nL : Nat} {own : String} {fr lo pc : Nat} {ls : Array Slot} {st : List Value} {x y : Int32} {off : Int} {tgt : Nat} (X : RX M O cc nL own fr lo) (d : decode cc pc = .ok (.if_icmp .eq off, 3)) (ht : (pc : Int) + off = (tgt : Int)) (kt : x = y → RG M O V L tgt ls st) (kf : ¬ x = y → RG M O V L (pc + 3) ls st) : RG M O V L pc ls (.int y :: .int x :: st) := by
  obtain ⟨p, l, e, Ro, s, m, args, below, meth, c, Q, A, cells, slots⟩ := M
  exact fun H locs hP hD hS => lv_icmp_eq X.1.1.1 X.1.1.2.1 d ht (fun h => kt h H locs hP hD hS) (fun h => kf h H locs hP hD hS)
theorem z_if_ne {M : zM} {O : zO} {V : zI} {L : zL} {cc : ByteArray} {nL : Nat} {own : String} {fr lo pc : Nat} {ls : Array Slot} {st : List Value} {x : Int32} {off : Int} {tgt : Nat} (X : RX M O cc nL own fr lo) (d : decode cc pc = .ok (.ifCond .ne off, 3)) (ht : (pc : Int) + off = (tgt : Int)) (kt : ¬ x = 0 → RG M O V L tgt ls st) (kf : x = 0 → RG M O V L (pc + 3) ls st) : RG M O V L pc ls (.int x :: st) := by
  obtain ⟨p, l, e, Ro, s, m, args, below, meth, c, Q, A, cells, slots⟩ := M
  exact fun H locs hP hD hS => lv_if_ne X.1.1.1 X.1.1.2.1 d ht (fun h => kt h H locs hP hD hS) (fun h => kf h H locs hP hD hS)
theorem z_icmp_ne {M : zM} {O : zO} {V : zI} {L : zL} {cc : ByteArray} {nL : Nat} {own : String} {fr lo pc : Nat} {ls : Array Slot} {st : List Value} {x y : Int32} {off : Int} {tgt : Nat} (X : RX M O cc nL own fr lo) (d : decode cc pc = .ok (.if_icmp .ne off, 3)) (ht : (pc : Int) + off = (tgt : Int)) (kt : ¬ x = y → RG M O V L tgt ls st) (kf : x = y → RG M O V L (pc + 3) ls st) : RG M O V L pc ls (.int y :: .int x :: st) := by
  obtain ⟨p, l, e, Ro, s, m, args, below, meth, c, Q, A, cells, slots⟩ := M
  exact fun H locs hP hD hS => lv_icmp_ne X.1.1.1 X.1.1.2.1 d ht (fun h => kt h H locs hP hD hS) (fun h => kf h H locs hP hD hS)
theorem z_if_lt {M : zM} {O : zO} {V : zI} {L : zL} {cc : ByteArray} {nL : Nat} {own : String} {fr lo pc : Nat} {ls : Array Slot} {st : List Value} {x : Int32} {off : Int} {tgt : Nat} (X : RX M O cc nL own fr lo) (d : decode cc pc = .ok (.ifCond .lt off, 3)) (ht : (pc : Int) + off = (tgt : Int)) (kt : x < 0 → RG M O V L tgt ls st) (kf : ¬ x < 0 → RG M O V L (pc + 3) ls st) : RG M O V L pc ls (.int x :: st) := by
  obtain ⟨p, l, e, Ro, s, m, args, below, meth, c, Q, A, cells, slots⟩ := M
  exact fun H locs hP hD hS => lv_if_lt X.1.1.1 X.1.1.2.1 d ht (fun h => kt h H locs hP hD hS) (fun h => kf h H locs hP hD hS)
theorem z_icmp_lt {M : zM} {O : zO} {V : zI} {L : zL} {cc : ByteArray} {nL : Nat} {own : String} {fr lo pc : Nat} {ls : Array Slot} {st : List Value} {x y : Int32} {off : Int} {tgt : Nat} (X : RX M O cc nL own fr lo) (d : decode cc pc = .ok (.if_icmp .lt off, 3)) (ht : (pc : Int) + off = (tgt : Int)) (kt : x < y → RG M O V L tgt ls st) (kf : ¬ x < y → RG M O V L (pc + 3) ls st) : RG M O V L pc ls (.int y :: .int x :: st) := by
  obtain ⟨p, l, e, Ro, s, m, args, below, meth, c, Q, A, cells, slots⟩ := M
  exact fun H locs hP hD hS => lv_icmp_lt X.1.1.1 X.1.1.2.1 d ht (fun h => kt h H locs hP hD hS) (fun h => kf h H locs hP hD hS)
theorem z_if_ge {M : zM} {O : zO} {V : zI} {L : zL} {cc : ByteArray} {nL : Nat} {own : String} {fr lo pc : Nat} {ls : Array Slot} {st : List Value} {x : Int32} {off : Int} {tgt : Nat} (X : RX M O cc nL own fr lo) (d : decode cc pc = .ok (.ifCond .ge off, 3)) (ht : (pc : Int) + off = (tgt : Int)) (kt : 0 ≤ x → RG M O V L tgt ls st) (kf : ¬ 0 ≤ x → RG M O V L (pc + 3) ls st) : RG M O V L pc ls (.int x :: st) := by
  obtain ⟨p, l, e, Ro, s, m, args, below, meth, c, Q, A, cells, slots⟩ := M
  exact fun H locs hP hD hS => lv_if_ge X.1.1.1 X.1.1.2.1 d ht (fun h => kt h H locs hP hD hS) (fun h => kf h H locs hP hD hS)
theorem z_icmp_ge {M : zM} {O : zO} {V : zI} {L : zL} {cc : ByteArray} {nL : Nat} {own : String} {fr lo pc : Nat} {ls : Array Slot} {st : List Value} {x y : Int32} {off : Int} {tgt : Nat} (X : RX M O cc nL own fr lo) (d : decode cc pc = .ok (.if_icmp .ge off, 3)) (ht : (pc : Int) + off = (tgt : Int)) (kt : y ≤ x → RG M O V L tgt ls st) (kf : ¬ y ≤ x → RG M O V L (pc + 3) ls st) : RG M O V L pc ls (.int y :: .int x :: st) := by
  obtain ⟨p, l, e, Ro, s, m, args, below, meth, c, Q, A, cells, slots⟩ := M
  exact fun H locs hP hD hS => lv_icmp_ge X.1.1.1 X.1.1.2.1 d ht (fun h => kt h H locs hP hD hS) (fun h => kf h H locs hP hD hS)
theorem z_if_gt {M : zM} {O : zO} {V : zI} {L : zL} {cc : ByteArray} {nL : Nat} {own : String} {fr lo pc : Nat} {ls : Array Slot} {st : List Value} {x : Int32} {off : Int} {tgt : Nat} (X : RX M O cc nL own fr lo) (d : decode cc pc = .ok (.ifCond .gt off, 3)) (ht : (pc : Int) + off = (tgt : Int)) (kt : 0 < x → RG M O V L tgt ls st) (kf : ¬ 0 < x → RG M O V L (pc + 3) ls st) : RG M O V L pc ls (.int x :: st) := by
  obtain ⟨p, l, e, Ro, s, m, args, below, meth, c, Q, A, cells, slots⟩ := M
  exact fun H locs hP hD hS => lv_if_gt X.1.1.1 X.1.1.2.1 d ht (fun h => kt h H locs hP hD hS) (fun h => kf h H locs hP hD hS)
theorem z_icmp_gt {M : zM} {O : zO} {V : zI} {L : zL} {cc : ByteArray} {nL : Nat} {own : String} {fr lo pc : Nat} {ls : Array Slot} {st : List Value} {x y : Int32} {off : Int} {tgt : Nat} (X : RX M O cc nL own fr lo) (d : decode cc pc = .ok (.if_icmp .gt off, 3)) (ht : (pc : Int) + off = (tgt : Int)) (kt : y < x → RG M O V L tgt ls st) (kf : ¬ y < x → RG M O V L (pc + 3) ls st) : RG M O V L pc ls (.int y :: .int x :: st) := by
  obtain ⟨p, l, e, Ro, s, m, args, below, meth, c, Q, A, cells, slots⟩ := M
  exact fun H locs hP hD hS => lv_icmp_gt X.1.1.1 X.1.1.2.1 d ht (fun h => kt h H locs hP hD hS) (fun h => kf h H locs hP hD hS)
theorem z_if_le {M : zM} {O : zO} {V : zI} {L : zL} {cc : ByteArray} {nL : Nat} {own : String} {fr lo pc : Nat} {ls : Array Slot} {st : List Value} {x : Int32} {off : Int} {tgt : Nat} (X : RX M O cc nL own fr lo) (d : decode cc pc = .ok (.ifCond .le off, 3)) (ht : (pc : Int) + off = (tgt : Int)) (kt : x ≤ 0 → RG M O V L tgt ls st) (kf : ¬ x ≤ 0 → RG M O V L (pc + 3) ls st) : RG M O V L pc ls (.int x :: st) := by
  obtain ⟨p, l, e, Ro, s, m, args, below, meth, c, Q, A, cells, slots⟩ := M
  exact fun H locs hP hD hS => lv_if_le X.1.1.1 X.1.1.2.1 d ht (fun h => kt h H locs hP hD hS) (fun h => kf h H locs hP hD hS)
theorem z_icmp_le {M : zM} {O : zO} {V : zI} {L : zL} {cc : ByteArray} {nL : Nat} {own : String} {fr lo pc : Nat} {ls : Array Slot} {st : List Value} {x y : Int32} {off : Int} {tgt : Nat} (X : RX M O cc nL own fr lo) (d : decode cc pc = .ok (.if_icmp .le off, 3)) (ht : (pc : Int) + off = (tgt : Int)) (kt : x ≤ y → RG M O V L tgt ls st) (kf : ¬ x ≤ y → RG M O V L (pc + 3) ls st) : RG M O V L pc ls (.int y :: .int x :: st) := by
  obtain ⟨p, l, e, Ro, s, m, args, below, meth, c, Q, A, cells, slots⟩ := M
  exact fun H locs hP hD hS => lv_icmp_le X.1.1.1 X.1.1.2.1 d ht (fun h => kt h H locs hP hD hS) (fun h => kf h H locs hP hD hS)
theorem z_goto {M : zM} {O : zO} {V : zI} {L : zL} {cc : ByteArray} {nL : Nat} {own : String} {fr lo pc : Nat} {ls : Array Slot} {st : List Value} {off : Int} {tgt : Nat} (X : RX M O cc nL own fr lo) (d : decode cc pc = .ok (.goto off, 3)) (ht : (pc : Int) + off = (tgt : Int)) (k : RG M O V L tgt ls st) : RG M O V L pc ls (st) := by
  obtain ⟨p, l, e, Ro, s, m, args, below, meth, c, Q, A, cells, slots⟩ := M
  exact fun H locs hP hD hS => lv_goto X.1.1.1 X.1.1.2.1 d ht (k H locs hP hD hS)
theorem z_tabOut {M : zM} {O : zO} {V : zI} {L : zL} {cc : ByteArray} {nL : Nat} {own : String} {fr lo pc : Nat} {ls : Array Slot} {st : List Value} {dflt lo0 hi0 : Int} {offs : Array Int} {len : Nat} {x : Int32} {tgt : Nat} (X : RX M O cc nL own fr lo) (d : decode cc pc = .ok (.tableswitch dflt lo0 hi0 offs, len)) (h : x.toInt < lo0 ∨ hi0 < x.toInt) (ht : (pc : Int) + dflt = (tgt : Int)) (k : RG M O V L tgt ls st) : RG M O V L pc ls (.int x :: st) := by
  obtain ⟨p, l, e, Ro, s, m, args, below, meth, c, Q, A, cells, slots⟩ := M
  exact fun H locs hP hD hS => lv_tableOut X.1.1.1 X.1.1.2.1 d h ht (k H locs hP hD hS)
theorem z_tabIn {M : zM} {O : zO} {V : zI} {L : zL} {cc : ByteArray} {nL : Nat} {own : String} {fr lo pc : Nat} {ls : Array Slot} {st : List Value} {dflt lo0 hi0 : Int} {offs : Array Int} {len : Nat} {x : Int32} {off : Int} {tgt : Nat} (X : RX M O cc nL own fr lo) (d : decode cc pc = .ok (.tableswitch dflt lo0 hi0 offs, len)) (h1 : ¬ x.toInt < lo0) (h2 : ¬ hi0 < x.toInt) (ho : offs[(x.toInt - lo0).toNat]? = some off) (ht : (pc : Int) + off = (tgt : Int)) (k : RG M O V L tgt ls st) : RG M O V L pc ls (.int x :: st) := by
  obtain ⟨p, l, e, Ro, s, m, args, below, meth, c, Q, A, cells, slots⟩ := M
  exact fun H locs hP hD hS => lv_tableIn X.1.1.1 X.1.1.2.1 d h1 h2 ho ht (k H locs hP hD hS)
theorem z_geti {M : zM} {O : zO} {V : zI} {L : zL} {cc : ByteArray} {nL : Nat} {own : String} {fr lo pc : Nat} {ls : Array Slot} {st : List Value} {w ci k0 idx Nf : Nat} {C : String} {T : u_T} (X : RX M O cc nL own fr lo) (hw : w ∈ z_P O) (hk : z_K O w = ci) (h100 : ci < 100) (hc : zcl[ci]? = some (C, T, Nf)) (hin : ∀ q ∈ u_ws C T Nf, q ∈ zTB) (hkN : k0 < Nf) (hT : (T k0).1 = C) (hl : Cond.fieldLink own idx C (T k0).2.1 (T k0).2.2.1 ∈ zTB) (ht : (zft ci)[k0]? = some 0) (d : decode cc pc = .ok (.getfield idx, 3)) (k : RG M O V L (pc + 3) ls (.int (V w k0) :: st)) : RG M O V L pc ls (.ref (z_ad O w) :: st) := by
  obtain ⟨p, l, e, Ro, s, m, args, below, meth, c, Q, A, cells, slots⟩ := M
  intro H locs hP hD hS
  obtain ⟨q, hq, he⟩ := z_at (V := V) (L := L) hw
  rw [z_cellO hk h100] at he
  exact va_get X.1.1.1 X.1.1.2.1 X.1.1.2.2.2.2 hin X.1.1.2.2.2.1 X.1.2.1 hP q he hc k0 hkN (X.1.1.2.2.2.2 _ hl) (fun x h => by rw [← hT]; exact h) (v := .int (V w k0)) (by rw [List.getElem?_mapIdx, ht]; simp [z_fv]) d (k H locs hP hD hS)
theorem z_getl {M : zM} {O : zO} {V : zI} {L : zL} {cc : ByteArray} {nL : Nat} {own : String} {fr lo pc : Nat} {ls : Array Slot} {st : List Value} {w ci k0 idx Nf : Nat} {C : String} {T : u_T} (X : RX M O cc nL own fr lo) (hw : w ∈ z_P O) (hk : z_K O w = ci) (h100 : ci < 100) (hc : zcl[ci]? = some (C, T, Nf)) (hin : ∀ q ∈ u_ws C T Nf, q ∈ zTB) (hkN : k0 < Nf) (hT : (T k0).1 = C) (hl : Cond.fieldLink own idx C (T k0).2.1 (T k0).2.2.1 ∈ zTB) (ht : (zft ci)[k0]? = some 1) (d : decode cc pc = .ok (.getfield idx, 3)) (k : RG M O V L (pc + 3) ls (.long (L w k0) :: st)) : RG M O V L pc ls (.ref (z_ad O w) :: st) := by
  obtain ⟨p, l, e, Ro, s, m, args, below, meth, c, Q, A, cells, slots⟩ := M
  intro H locs hP hD hS
  obtain ⟨q, hq, he⟩ := z_at (V := V) (L := L) hw
  rw [z_cellO hk h100] at he
  exact va_get X.1.1.1 X.1.1.2.1 X.1.1.2.2.2.2 hin X.1.1.2.2.2.1 X.1.2.1 hP q he hc k0 hkN (X.1.1.2.2.2.2 _ hl) (fun x h => by rw [← hT]; exact h) (v := .long (L w k0)) (by rw [List.getElem?_mapIdx, ht]; simp [z_fv]) d (k H locs hP hD hS)
theorem z_geta {M : zM} {O : zO} {V : zI} {L : zL} {cc : ByteArray} {nL : Nat} {own : String} {fr lo pc : Nat} {ls : Array Slot} {st : List Value} {w ci k0 idx Nf : Nat} {C : String} {T : u_T} {v : Nat} (X : RX M O cc nL own fr lo) (hw : w ∈ z_P O) (hk : z_K O w = ci) (h100 : ci < 100) (hc : zcl[ci]? = some (C, T, Nf)) (hin : ∀ q ∈ u_ws C T Nf, q ∈ zTB) (hkN : k0 < Nf) (hT : (T k0).1 = C) (hl : Cond.fieldLink own idx C (T k0).2.1 (T k0).2.2.1 ∈ zTB) (ht : (zft ci)[k0]? = some 2) (hG : z_G O w k0 = some v) (d : decode cc pc = .ok (.getfield idx, 3)) (k : RG M O V L (pc + 3) ls (.ref (z_ad O v) :: st)) : RG M O V L pc ls (.ref (z_ad O w) :: st) := by
  obtain ⟨p, l, e, Ro, s, m, args, below, meth, c, Q, A, cells, slots⟩ := M
  intro H locs hP hD hS
  obtain ⟨q, hq, he⟩ := z_at (V := V) (L := L) hw
  rw [z_cellO hk h100] at he
  exact va_get X.1.1.1 X.1.1.2.1 X.1.1.2.2.2.2 hin X.1.1.2.2.2.1 X.1.2.1 hP q he hc k0 hkN (X.1.1.2.2.2.2 _ hl) (fun x h => by rw [← hT]; exact h) (v := .ref (z_ad O v)) (by rw [List.getElem?_mapIdx, ht]; simp [z_fv, hG, va_rf]) d (k H locs hP hD hS)
theorem z_puti {M : zM} {O : zO} {V : zI} {L : zL} {cc : ByteArray} {nL : Nat} {own : String} {fr lo pc : Nat} {ls : Array Slot} {st : List Value} {w ci k0 idx Nf : Nat} {C : String} {T : u_T} {x : Int32} {ty : FieldType} {ty0 : Nat → FieldType} (X : RX M O cc nL own fr lo) (hw : w ∈ z_P O) (hk : z_K O w = ci) (h100 : ci < 100) (hc : zcl[ci]? = some (C, T, Nf)) (hin : ∀ q ∈ u_ws C T Nf, q ∈ zTB) (hkN : k0 < Nf) (hT : (T k0).1 = C) (hl : Cond.fieldLink own idx C (T k0).2.1 (T k0).2.2.1 ∈ zTB) (ht : (zft ci)[k0]? = some 0) (hty : ∀ k, k < Nf → parseFieldDescriptor (T k).2.2.1 = some (ty0 k)) (hnm : ∀ a, a < Nf → ∀ b, b < Nf → a ≠ b → (T a).2.1 ≠ (T b).2.1) (hfin : (T k0).2.2.2 = false) (hd : parseFieldDescriptor (T k0).2.2.1 = some ty) (hn : narrow ty (.int x) = .int x) (hfit : fits ty (.int x) = true) (d : decode cc pc = .ok (.putfield idx, 3)) (k : RG M O (z_uI V w k0 x) L (pc + 3) ls st) : RG M O V L pc ls (.int x :: .ref (z_ad O w) :: st) := by
  obtain ⟨p, l, e, Ro, s, m, args, below, meth, c, Q, A, cells, slots⟩ := M
  intro H locs hP hD hS
  obtain ⟨q, hq, he⟩ := z_at (V := V) (L := L) hw
  rw [z_cellO hk h100] at he
  have hlen : k0 < ((zft ci).mapIdx (fun k t => z_fv (z_ad O) (V w) (L w) (z_G O w) k t)).length := by
    rw [List.length_mapIdx]; exact (List.getElem?_eq_some_iff.mp ht).1
  refine va_put X.1.1.1 X.1.1.2.1 X.1.1.2.2.2.2 hin ty0 hty hnm X.1.1.2.2.2.1 X.1.2.1 hP hD hS q he hc k0 hkN (X.1.1.2.2.2.2 _ hl) (fun x h => by rw [← hT]; exact h) hfin hd hn hfit hlen d (fun H1 locs1 hP hD hS => ?_)
  have hset : (z_w O V L).set q (z_ad O w, .inr (ci, ((zft ci).mapIdx (fun k t => z_fv (z_ad O) (V w) (L w) (z_G O w) k t)).set k0 (.int x))) = z_w O (z_uI V w k0 x) L := by
    rw [z_fset (V' := (z_uI V w k0 x) w) (L' := L w) ht (by simp [z_fv, z_uI_eq, z_uL_eq, upd, vp_updL]) (fun j t hj => by simp [z_fv, z_uI_eq, z_uL_eq, upd, vp_updL, hj])]
    rw [← z_cellO (O := O) (V := (z_uI V w k0 x)) (L := L) hk h100]
    exact z_mapset (f := fun u => (z_ad O u, z_cell O V L u)) (g := fun u => (z_ad O u, z_cell O (z_uI V w k0 x) L u)) hq X.1.2.2.2 (fun v hv => by rw [z_cell_ne (O := O) (V := V) (V' := (z_uI V w k0 x)) (L := L) (L' := L) (z_uI_ne hv) rfl])
  rw [hset] at hP hD
  exact k H1 locs1 hP hD hS
theorem z_putl {M : zM} {O : zO} {V : zI} {L : zL} {cc : ByteArray} {nL : Nat} {own : String} {fr lo pc : Nat} {ls : Array Slot} {st : List Value} {w ci k0 idx Nf : Nat} {C : String} {T : u_T} {x : Int64} {ty : FieldType} {ty0 : Nat → FieldType} (X : RX M O cc nL own fr lo) (hw : w ∈ z_P O) (hk : z_K O w = ci) (h100 : ci < 100) (hc : zcl[ci]? = some (C, T, Nf)) (hin : ∀ q ∈ u_ws C T Nf, q ∈ zTB) (hkN : k0 < Nf) (hT : (T k0).1 = C) (hl : Cond.fieldLink own idx C (T k0).2.1 (T k0).2.2.1 ∈ zTB) (ht : (zft ci)[k0]? = some 1) (hty : ∀ k, k < Nf → parseFieldDescriptor (T k).2.2.1 = some (ty0 k)) (hnm : ∀ a, a < Nf → ∀ b, b < Nf → a ≠ b → (T a).2.1 ≠ (T b).2.1) (hfin : (T k0).2.2.2 = false) (hd : parseFieldDescriptor (T k0).2.2.1 = some ty) (hn : narrow ty (.long x) = .long x) (hfit : fits ty (.long x) = true) (d : decode cc pc = .ok (.putfield idx, 3)) (k : RG M O V (z_uL L w k0 x) (pc + 3) ls st) : RG M O V L pc ls (.long x :: .ref (z_ad O w) :: st) := by
  obtain ⟨p, l, e, Ro, s, m, args, below, meth, c, Q, A, cells, slots⟩ := M
  intro H locs hP hD hS
  obtain ⟨q, hq, he⟩ := z_at (V := V) (L := L) hw
  rw [z_cellO hk h100] at he
  have hlen : k0 < ((zft ci).mapIdx (fun k t => z_fv (z_ad O) (V w) (L w) (z_G O w) k t)).length := by
    rw [List.length_mapIdx]; exact (List.getElem?_eq_some_iff.mp ht).1
  refine va_put X.1.1.1 X.1.1.2.1 X.1.1.2.2.2.2 hin ty0 hty hnm X.1.1.2.2.2.1 X.1.2.1 hP hD hS q he hc k0 hkN (X.1.1.2.2.2.2 _ hl) (fun x h => by rw [← hT]; exact h) hfin hd hn hfit hlen d (fun H1 locs1 hP hD hS => ?_)
  have hset : (z_w O V L).set q (z_ad O w, .inr (ci, ((zft ci).mapIdx (fun k t => z_fv (z_ad O) (V w) (L w) (z_G O w) k t)).set k0 (.long x))) = z_w O V (z_uL L w k0 x) := by
    rw [z_fset (V' := V w) (L' := (z_uL L w k0 x) w) ht (by simp [z_fv, z_uI_eq, z_uL_eq, upd, vp_updL]) (fun j t hj => by simp [z_fv, z_uI_eq, z_uL_eq, upd, vp_updL, hj])]
    rw [← z_cellO (O := O) (V := V) (L := (z_uL L w k0 x)) hk h100]
    exact z_mapset (f := fun u => (z_ad O u, z_cell O V L u)) (g := fun u => (z_ad O u, z_cell O V (z_uL L w k0 x) u)) hq X.1.2.2.2 (fun v hv => by rw [z_cell_ne (O := O) (V := V) (V' := V) (L := L) (L' := (z_uL L w k0 x)) rfl (z_uL_ne hv)])
  rw [hset] at hP hD
  exact k H1 locs1 hP hD hS
theorem z_iald {M : zM} {O : zO} {V : zI} {L : zL} {cc : ByteArray} {nL : Nat} {own : String} {fr lo pc : Nat} {ls : Array Slot} {st : List Value} {w n : Nat} {i : Int32} (X : RX M O cc nL own fr lo) (hw : w ∈ z_P O) (hk : z_K O w = 100) (hN : z_N O w = n) (h : inB i n) (d : decode cc pc = .ok (.iaload, 1)) (k : RG M O V L (pc + 1) ls (.int (V w i.toNatClampNeg) :: st)) : RG M O V L pc ls (.int i :: .ref (z_ad O w) :: st) := by
  obtain ⟨p, l, e, Ro, s, m, args, below, meth, c, Q, A, cells, slots⟩ := M
  intro H locs hP hD hS
  subst hN
  obtain ⟨q, hq, he⟩ := z_at (V := V) (L := L) hw
  rw [z_cellI hk (Or.inl rfl)] at he
  exact va_iald X.1.1.1 X.1.1.2.1 X.1.2.1 hP q 0 he rfl h d (k H locs hP hD hS)
theorem z_bald {M : zM} {O : zO} {V : zI} {L : zL} {cc : ByteArray} {nL : Nat} {own : String} {fr lo pc : Nat} {ls : Array Slot} {st : List Value} {w n : Nat} {i : Int32} (X : RX M O cc nL own fr lo) (hw : w ∈ z_P O) (hk : z_K O w = 101) (hN : z_N O w = n) (h : inB i n) (d : decode cc pc = .ok (.baload, 1)) (k : RG M O V L (pc + 1) ls (.int (V w i.toNatClampNeg) :: st)) : RG M O V L pc ls (.int i :: .ref (z_ad O w) :: st) := by
  obtain ⟨p, l, e, Ro, s, m, args, below, meth, c, Q, A, cells, slots⟩ := M
  intro H locs hP hD hS
  subst hN
  obtain ⟨q, hq, he⟩ := z_at (V := V) (L := L) hw
  rw [z_cellI hk (Or.inr (Or.inl rfl))] at he
  exact va_bald X.1.1.1 X.1.1.2.1 X.1.2.1 hP q 1 he rfl h d (k H locs hP hD hS)
theorem z_zald {M : zM} {O : zO} {V : zI} {L : zL} {cc : ByteArray} {nL : Nat} {own : String} {fr lo pc : Nat} {ls : Array Slot} {st : List Value} {w n : Nat} {i : Int32} (X : RX M O cc nL own fr lo) (hw : w ∈ z_P O) (hk : z_K O w = 102) (hN : z_N O w = n) (h : inB i n) (d : decode cc pc = .ok (.baload, 1)) (k : RG M O V L (pc + 1) ls (.int (V w i.toNatClampNeg) :: st)) : RG M O V L pc ls (.int i :: .ref (z_ad O w) :: st) := by
  obtain ⟨p, l, e, Ro, s, m, args, below, meth, c, Q, A, cells, slots⟩ := M
  intro H locs hP hD hS
  subst hN
  obtain ⟨q, hq, he⟩ := z_at (V := V) (L := L) hw
  rw [z_cellI hk (Or.inr (Or.inr rfl))] at he
  exact va_zald X.1.1.1 X.1.1.2.1 X.1.2.1 hP q 2 he rfl h d (k H locs hP hD hS)
theorem z_lald {M : zM} {O : zO} {V : zI} {L : zL} {cc : ByteArray} {nL : Nat} {own : String} {fr lo pc : Nat} {ls : Array Slot} {st : List Value} {w n : Nat} {i : Int32} (X : RX M O cc nL own fr lo) (hw : w ∈ z_P O) (hk : z_K O w = 103) (hN : z_N O w = n) (h : inB i n) (d : decode cc pc = .ok (.laload, 1)) (k : RG M O V L (pc + 1) ls (.long (L w i.toNatClampNeg) :: st)) : RG M O V L pc ls (.int i :: .ref (z_ad O w) :: st) := by
  obtain ⟨p, l, e, Ro, s, m, args, below, meth, c, Q, A, cells, slots⟩ := M
  intro H locs hP hD hS
  subst hN
  obtain ⟨q, hq, he⟩ := z_at (V := V) (L := L) hw
  rw [z_cellL hk] at he
  exact va_lald X.1.1.1 X.1.1.2.1 X.1.2.1 hP q 3 he rfl h d (k H locs hP hD hS)
theorem z_iast {M : zM} {O : zO} {V : zI} {L : zL} {cc : ByteArray} {nL : Nat} {own : String} {fr lo pc : Nat} {ls : Array Slot} {st : List Value} {w n : Nat} {i : Int32} {x : Int32} (X : RX M O cc nL own fr lo) (hw : w ∈ z_P O) (hk : z_K O w = 100) (hN : z_N O w = n) (h : inB i n) (d : decode cc pc = .ok (.iastore, 1)) (k : RG M O (z_uI V w i.toNatClampNeg x) L (pc + 1) ls st) : RG M O V L pc ls (.int x :: .int i :: .ref (z_ad O w) :: st) := by
  obtain ⟨p, l, e, Ro, s, m, args, below, meth, c, Q, A, cells, slots⟩ := M
  intro H locs hP hD hS
  subst hN
  obtain ⟨q, hq, he⟩ := z_at (V := V) (L := L) hw
  rw [z_cellI hk (Or.inl rfl)] at he
  refine va_iast X.1.1.1 X.1.1.2.1 X.1.2.1 hP hD hS q 0 he rfl h d (fun H1 locs1 hP hD hS => ?_)
  have hset : (z_w O V L).set q (z_ad O w, .inl (O.2.1 100, z_N O w, .inl (upd (V w) i.toNatClampNeg x))) = z_w O (z_uI V w i.toNatClampNeg x) L := by
    rw [← z_uI_eq, ← z_cellI (O := O) (V := (z_uI V w i.toNatClampNeg x)) (L := L) hk (Or.inl rfl)]
    exact z_mapset (f := fun u => (z_ad O u, z_cell O V L u)) (g := fun u => (z_ad O u, z_cell O (z_uI V w i.toNatClampNeg x) L u)) hq X.1.2.2.2 (fun v hv => by rw [z_cell_ne (O := O) (V := V) (V' := (z_uI V w i.toNatClampNeg x)) (L := L) (L' := L) (z_uI_ne hv) rfl])
  rw [hset] at hP hD
  exact k H1 locs1 hP hD hS
theorem z_bast {M : zM} {O : zO} {V : zI} {L : zL} {cc : ByteArray} {nL : Nat} {own : String} {fr lo pc : Nat} {ls : Array Slot} {st : List Value} {w n : Nat} {i : Int32} {x : Int32} (X : RX M O cc nL own fr lo) (hw : w ∈ z_P O) (hk : z_K O w = 101) (hN : z_N O w = n) (h : inB i n) (d : decode cc pc = .ok (.bastore, 1)) (k : RG M O (z_uI V w i.toNatClampNeg (vp_nar .byte x)) L (pc + 1) ls st) : RG M O V L pc ls (.int x :: .int i :: .ref (z_ad O w) :: st) := by
  obtain ⟨p, l, e, Ro, s, m, args, below, meth, c, Q, A, cells, slots⟩ := M
  intro H locs hP hD hS
  subst hN
  obtain ⟨q, hq, he⟩ := z_at (V := V) (L := L) hw
  rw [z_cellI hk (Or.inr (Or.inl rfl))] at he
  refine va_bast X.1.1.1 X.1.1.2.1 X.1.2.1 hP hD hS q 1 he rfl h d (fun H1 locs1 hP hD hS => ?_)
  have hset : (z_w O V L).set q (z_ad O w, .inl (O.2.1 101, z_N O w, .inl (upd (V w) i.toNatClampNeg (vp_nar .byte x)))) = z_w O (z_uI V w i.toNatClampNeg (vp_nar .byte x)) L := by
    rw [← z_uI_eq, ← z_cellI (O := O) (V := (z_uI V w i.toNatClampNeg (vp_nar .byte x))) (L := L) hk (Or.inr (Or.inl rfl))]
    exact z_mapset (f := fun u => (z_ad O u, z_cell O V L u)) (g := fun u => (z_ad O u, z_cell O (z_uI V w i.toNatClampNeg (vp_nar .byte x)) L u)) hq X.1.2.2.2 (fun v hv => by rw [z_cell_ne (O := O) (V := V) (V' := (z_uI V w i.toNatClampNeg (vp_nar .byte x))) (L := L) (L' := L) (z_uI_ne hv) rfl])
  rw [hset] at hP hD
  exact k H1 locs1 hP hD hS
theorem z_zast {M : zM} {O : zO} {V : zI} {L : zL} {cc : ByteArray} {nL : Nat} {own : String} {fr lo pc : Nat} {ls : Array Slot} {st : List Value} {w n : Nat} {i : Int32} {x : Int32} (X : RX M O cc nL own fr lo) (hw : w ∈ z_P O) (hk : z_K O w = 102) (hN : z_N O w = n) (h : inB i n) (d : decode cc pc = .ok (.bastore, 1)) (k : RG M O (z_uI V w i.toNatClampNeg (vp_nar .boolean x)) L (pc + 1) ls st) : RG M O V L pc ls (.int x :: .int i :: .ref (z_ad O w) :: st) := by
  obtain ⟨p, l, e, Ro, s, m, args, below, meth, c, Q, A, cells, slots⟩ := M
  intro H locs hP hD hS
  subst hN
  obtain ⟨q, hq, he⟩ := z_at (V := V) (L := L) hw
  rw [z_cellI hk (Or.inr (Or.inr rfl))] at he
  refine va_zast X.1.1.1 X.1.1.2.1 X.1.2.1 hP hD hS q 2 he rfl h d (fun H1 locs1 hP hD hS => ?_)
  have hset : (z_w O V L).set q (z_ad O w, .inl (O.2.1 102, z_N O w, .inl (upd (V w) i.toNatClampNeg (vp_nar .boolean x)))) = z_w O (z_uI V w i.toNatClampNeg (vp_nar .boolean x)) L := by
    rw [← z_uI_eq, ← z_cellI (O := O) (V := (z_uI V w i.toNatClampNeg (vp_nar .boolean x))) (L := L) hk (Or.inr (Or.inr rfl))]
    exact z_mapset (f := fun u => (z_ad O u, z_cell O V L u)) (g := fun u => (z_ad O u, z_cell O (z_uI V w i.toNatClampNeg (vp_nar .boolean x)) L u)) hq X.1.2.2.2 (fun v hv => by rw [z_cell_ne (O := O) (V := V) (V' := (z_uI V w i.toNatClampNeg (vp_nar .boolean x))) (L := L) (L' := L) (z_uI_ne hv) rfl])
  rw [hset] at hP hD
  exact k H1 locs1 hP hD hS
theorem z_last {M : zM} {O : zO} {V : zI} {L : zL} {cc : ByteArray} {nL : Nat} {own : String} {fr lo pc : Nat} {ls : Array Slot} {st : List Value} {w n : Nat} {i : Int32} {x : Int64} (X : RX M O cc nL own fr lo) (hw : w ∈ z_P O) (hk : z_K O w = 103) (hN : z_N O w = n) (h : inB i n) (d : decode cc pc = .ok (.lastore, 1)) (k : RG M O V (z_uL L w i.toNatClampNeg x) (pc + 1) ls st) : RG M O V L pc ls (.long x :: .int i :: .ref (z_ad O w) :: st) := by
  obtain ⟨p, l, e, Ro, s, m, args, below, meth, c, Q, A, cells, slots⟩ := M
  intro H locs hP hD hS
  subst hN
  obtain ⟨q, hq, he⟩ := z_at (V := V) (L := L) hw
  rw [z_cellL hk] at he
  refine va_last X.1.1.1 X.1.1.2.1 X.1.2.1 hP hD hS q 3 he rfl h d (fun H1 locs1 hP hD hS => ?_)
  have hset : (z_w O V L).set q (z_ad O w, .inl (O.2.1 103, z_N O w, .inr (.inl (vp_updL (L w) i.toNatClampNeg x)))) = z_w O V (z_uL L w i.toNatClampNeg x) := by
    rw [← z_uL_eq, ← z_cellL (O := O) (V := V) (L := (z_uL L w i.toNatClampNeg x)) hk]
    exact z_mapset (f := fun u => (z_ad O u, z_cell O V L u)) (g := fun u => (z_ad O u, z_cell O V (z_uL L w i.toNatClampNeg x) u)) hq X.1.2.2.2 (fun v hv => by rw [z_cell_ne (O := O) (V := V) (V' := V) (L := L) (L' := (z_uL L w i.toNatClampNeg x)) rfl (z_uL_ne hv)])
  rw [hset] at hP hD
  exact k H1 locs1 hP hD hS
