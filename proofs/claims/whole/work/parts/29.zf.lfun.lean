/-! What the law does: call k on both sides; a t: the t-th int behind the call's own. -/
def fCl (k : Nat) (a : Nat → Int32) (S : zS) : Option (Int32 × zS) := match S with
  | (n, _, _, K, N, G, V, L) => match k with
    | 0 => (f_X10_feed N G 0 (a 1) (a 2) (a 3) (a 4) (a 5) V L).bind fun r => some (r.1, (n, 0, 0, K, N, G, r.2.1, r.2.2))
    | 1 => (f_X10_end N G 0 (a 1) V L).bind fun r => some (r.1, (n, 0, 0, K, N, G, r.2.1, r.2.2))
    | 2 => f_X10_union 0  n K N G V L
    | 3 => (f_X10_fault N G 0 (a 1) V L).bind fun r => some (r, (n, 0, 0, K, N, G, V, L))
    | 4 => (f_X10_has N G 0 (a 1) V L).bind fun r => some (r, (n, 0, 0, K, N, G, V, L))
    | 5 => (f_X10_letter N G 0 (a 1) (a 2) V L).bind fun r => some (r, (n, 0, 0, K, N, G, V, L))
    | 6 => (f_X10_pair N G 0 (a 1) (a 2) (a 3) V L).bind fun r => some (r, (n, 0, 0, K, N, G, V, L))
    | 7 => (f_X10_mail N G 0 (a 1) (a 2) V L).bind fun r => some (r, (n, 0, 0, K, N, G, V, L))
    | 8 => (f_X10_writes N G 0 (a 1) V L).bind fun r => some (r.1, (n, 0, 0, K, N, G, r.2.1, r.2.2))
    | 9 => (f_X10_later N G 0 (a 1) (a 2) (a 3) (a 4) V L).bind fun r => some (r.1, (n, 0, 0, K, N, G, r.2.1, r.2.2))
    | 10 => (f_X10_comes N G 0 (a 1) (a 2) V L).bind fun r => some (r.1, (n, 0, 0, K, N, G, r.2.1, r.2.2))
    | 11 => (f_X10_silent N G 0  V L).bind fun r => some (r.1, (n, 0, 0, K, N, G, r.2.1, r.2.2))
    | 12 => (f_X10_word N G 0 (a 1) V L).bind fun r => some (r, (n, 0, 0, K, N, G, V, L))
    | 13 => f_X10_wide 0 (a 1) n K N G V L
    | 14 => f_X10_cut 0 (a 1) (a 2) (a 3) n K N G V L
    | 15 => f_X10_ring 0 (a 1) (a 2) n K N G V L
    | 16 => f_X10_swap 0 (a 1) n K N G V L
    | 17 => (f_X10_bag N G 0  V L).bind fun r => some (r.1, (n, 0, 0, K, N, G, r.2.1, r.2.2))
    | 18 => (f_X10_whose N G 0 (a 1) V L).bind fun r => some (r, (n, 0, 0, K, N, G, V, L))
    | 19 => f_X10_days 0 (a 1) n K N G V L
    | 20 => f_X10_chance 0 (a 1) n K N G V L
    | 21 => f_X10_give 0 (a 1) (a 2) (a 3) n K N G V L
    | 22 => f_X10_find 0 (a 1) (a 2) n K N G V L
    | 23 => f_X10_burn 0 (a 1) (a 2) n K N G V L
    | 24 => f_X10_undo 0  n K N G V L
    | 25 => (f_X10_seed N G 0 (a 1) V L).bind fun r => some (r.1, (n, 0, 0, K, N, G, r.2.1, r.2.2))
    | 26 => (f_X10_kept N G 0 (a 1) (a 2) V L).bind fun r => some (r, (n, 0, 0, K, N, G, V, L))
    | 27 => (f_X10_image N G 0  V L).bind fun r => some (r.1, (n, 0, 0, K, N, G, r.2.1, r.2.2))
    | 28 => (f_X10_octet N G 0 (a 1) V L).bind fun r => some (r, (n, 0, 0, K, N, G, V, L))
    | 29 => (f_X10_on N G 0  V L).bind fun r => some (r.1, (n, 0, 0, K, N, G, r.2.1, r.2.2))
    | 30 => (f_X10_status N G 0 (a 1) V L).bind fun r => some (r, (n, 0, 0, K, N, G, V, L))
    | _ => none
def fRl (k : Nat) (a : Nat → Int32) (V : zI) (L : zL) : Option (Int32 × zI × zL) := match k with
  | 0 => f_feed (a 1) (a 2) (a 3) (a 4) (a 5) V L
  | 1 => f_end (a 1) V L
  | 2 => f_union  V L
  | 3 => f_fault (a 1) V L
  | 4 => f_has (a 1) V L
  | 5 => f_letter (a 1) (a 2) V L
  | 6 => f_pair (a 1) (a 2) (a 3) V L
  | 7 => f_mail (a 1) (a 2) V L
  | 8 => f_writes (a 1) V L
  | 9 => f_later (a 1) (a 2) (a 3) (a 4) V L
  | 10 => f_comes (a 1) (a 2) V L
  | 11 => f_silent  V L
  | 12 => f_word (a 1) V L
  | 13 => f_wide (a 1) V L
  | 14 => f_cut (a 1) (a 2) (a 3) V L
  | 15 => f_ring (a 1) (a 2) V L
  | 16 => f_swap (a 1) V L
  | 17 => f_bag  V L
  | 18 => f_whose (a 1) V L
  | 19 => f_days (a 1) V L
  | 20 => f_chance (a 1) V L
  | 21 => f_give (a 1) (a 2) (a 3) V L
  | 22 => f_find (a 1) (a 2) V L
  | 23 => f_burn (a 1) (a 2) V L
  | 24 => f_undo  V L
  | 25 => f_seed (a 1) V L
  | 26 => f_kept (a 1) (a 2) V L
  | 27 => f_image  V L
  | 28 => f_octet (a 1) V L
  | 29 => f_on  V L
  | 30 => f_status (a 1) V L
  | _ => none
def lS (S r : zS) : zS := (r.1, S.2.1 + r.2.1, S.2.2.1 + r.2.2.1, r.2.2.2)
/-- what the law's walk asks of an invariant over calls -/
def LI (I : Nat → zS → zI → zL → Prop) : Prop := (∀ j S V L, I j S V L → (0 < S.1 ∧ S.2.2.2.1 0 = 8) ∧ S.2.1 ≤ 600000 ∧ S.2.2.1 ≤ 7302250) ∧ (∀ j k a S V L, j < 512 → k < 31 → I j S V L → ∃ v S' V' L', fCl k a S = some (v, S') ∧ fRl k a V L = some (v, V', L') ∧ I (j + 1) (lS S S') V' L') ∧ ∀ j S V L, I j S V L → I (j + 1) S V L
abbrev lW1 (D : va_G) (cy : Nat → ClassId) (ad : Nat → Nat) (S : zS) : va_W := z_w (zC D cy ad S.1 S.2.2.2.1 S.2.2.2.2.1 S.2.2.2.2.2.1) S.2.2.2.2.2.2.1 S.2.2.2.2.2.2.2
def lPt (M : zM) (D : va_G) (cy : Nat → ClassId) (ad ad2 : Nat → Nat) (S : zS) (V : zI) (L : zL) (pc : Nat) (ls : Array Slot) : Prop := LG (zMb M S.2.1 S.2.2.1) D (lW1 D cy ad S) (z_w (zR D cy ad2) V L) pc ls []
abbrev lHas (ls : Array Slot) (b j : Nat) (a1 a2 : Nat) : Prop := lv_has ls 4 [(0, .ref b), (1, .ref a1), (2, .ref a2), (3, .int (Int32.ofNat (6 * j)))]
theorem zl_ix {j t Lx : Nat} (h : 6 * j + 6 ≤ Lx) (hL : Lx ≤ 3072) (ht : t < 6) : inB (Int32.ofNat (6 * j) + Int32.ofNat t) Lx ∧ (Int32.ofNat (6 * j) + Int32.ofNat t).toNatClampNeg = 6 * j + t := by
  have e : Int32.ofNat (6 * j) + Int32.ofNat t = Int32.ofNat (6 * j + t) := (Int32.ofNat_add _ _).symm
  have hi : (Int32.ofNat (6 * j + t)).toInt = ((6 * j + t : Nat) : Int) := Int32.toInt_ofNat_of_lt (by omega)
  have hn : (Int32.ofNat (6 * j + t)).toNatClampNeg = 6 * j + t := by
    show (Int32.ofNat (6 * j + t)).toInt.toNat = _
    rw [hi]; rfl
  rw [e]
  refine ⟨?_, hn⟩
  show ¬ (_ ∨ _)
  rw [hn, Int32.lt_iff_toInt_lt, hi]
  simp only [Int32.toInt_zero]
  omega
theorem zl_sldK {M : zM} {w1 w2 : va_W} {D : va_G} {cy : Nat → ClassId} {b0 Lx : Nat} {xs : Nat → Int32} {sa sb : Nat} {cc : ByteArray} {nL : Nat} {own : String} {fr lo pc : Nat} {ls : Array Slot} {st : List Value} {i : Int32} {n : Nat} (X : LX M D cy cc nL own fr lo b0 Lx xs sa sb) (h : inB i Lx ∧ i.toNatClampNeg = n) (d : decode cc pc = .ok (.iaload, 1)) (k : LG M D w1 w2 (pc + 1) ls (.int (xs n) :: st)) : LG M D w1 w2 pc ls (.int i :: .ref b0 :: st) :=
  zl_sld X h.1 d (by rw [h.2]; exact k)
/-- the shape of a case of the law: from its first instruction, given what is behind it -/
def lCase (I : Nat → zS → zI → zL → Prop) (k tgt : Nat) : Prop := ∀ {M : zM} {D : va_G} {cy : Nat → ClassId} {b0 Lx : Nat} {xs : Nat → Int32} {sa sb j : Nat} {S : zS} {V : zI} {L : zL} {ad ad2 : Nat → Nat} {ls : Array Slot}, LX (zMb M S.2.1 S.2.2.1) D cy cL_law 4 RL 200 4000 b0 Lx xs sa sb → (M.2.2.2.1.cells = 600000 ∧ M.2.2.2.1.slots = 7302250) → Lx ≤ 3072 → 6 * j + 6 ≤ Lx → I j S V L → zWF S.1 S.2.2.2.1 S.2.2.2.2.2.1 → lHas ls b0 j (ad 0) (ad2 0) → (∀ S' V' L' ad', I (j + 1) S' V' L' → zWF S'.1 S'.2.2.2.1 S'.2.2.2.2.2.1 → ad' 0 = ad 0 → lPt M D cy ad' ad2 S' V' L' 1025 ls) → lPt M D cy ad ad2 S V L tgt ls
