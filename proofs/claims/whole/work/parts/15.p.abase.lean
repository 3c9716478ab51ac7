abbrev zS : Type := Nat × Nat × Nat × (Nat → Nat) × (Nat → Nat) × zG × zI × zL
def kU {α : Type} (K : Nat → α) (n : Nat) (x : α) : Nat → α := fun w => if w = n then x else K w
theorem kU_ne {α : Type} {K : Nat → α} {n w : Nat} {x : α} (h : w ≠ n) : kU K n x w = K w := if_neg h
theorem kU_eq {α : Type} {K : Nat → α} {n : Nat} {x : α} : kU K n x n = x := if_pos rfl
def gS (G : zG) (w k : Nat) (o : Option Nat) : zG := fun a => if a = w then (fun j => if j = k then o else G w j) else G a
def zMb (M : zM) (c q : Nat) : zM := (M.1, M.2.1, M.2.2.1, M.2.2.2.1, M.2.2.2.2.1, M.2.2.2.2.2.1, M.2.2.2.2.2.2.1, M.2.2.2.2.2.2.2.1, M.2.2.2.2.2.2.2.2.1, M.2.2.2.2.2.2.2.2.2.1, M.2.2.2.2.2.2.2.2.2.2.1, M.2.2.2.2.2.2.2.2.2.2.2.1, c, q)
def zSt (U : State) (cy : Nat → ClassId) : Prop := (ArrOfT U (cy 104) (.object RX7) ∧ va_RA U (cy 104) (.object RX7)) ∧ va_AO RX7 U
def RXA (M : zM) (D : va_G) (cy : Nat → ClassId) (ad : Nat → Nat) (n c q : Nat) (K N : Nat → Nat) (G : zG) (cc : ByteArray) (nL : Nat) (own : String) (fr lo : Nat) : Prop := RXc (zMb M c q) D cy ad n K N G cc nL own fr lo ∧ zSt M.2.2.2.2.1 cy
/-- of each reference field of an object the kind is known -/
theorem zft_zrt : ∀ ci, ci < 10 → ∀ k, k < 65 → (zft ci)[k]? = some 2 → ∃ c, (zrt ci)[k]? = some (some c) := by
  have h : ∀ ci, ci < 10 → ∀ k, k < 65 → (zft ci)[k]? = some 2 → ((zrt ci)[k]?).any (fun o => o.isSome) = true := by decide +kernel
  intro ci hci k hk h2
  have h3 := h ci hci k hk h2
  cases h4 : (zrt ci)[k]? with
  | none => rw [h4] at h3; cases h3
  | some o =>
    cases o with
    | none => rw [h4] at h3; cases h3
    | some c => exact ⟨c, rfl⟩
theorem zft_01 : ∀ ci, ci < 10 → ∀ k, k < 65 → ∀ t, (zft ci)[k]? = some t → t = 0 ∨ t = 1 ∨ t = 2 := by
  have h : ∀ ci, ci < 10 → ∀ k, k < 65 → ((zft ci)[k]?).all (fun t => t == 0 || t == 1 || t == 2) = true := by decide +kernel
  intro ci hci k hk t ht
  have h1 := h ci hci k hk
  rw [ht] at h1
  simp at h1
  omega
theorem zft_len : ∀ ci k t, (zft ci)[k]? = some t → ci < 10 ∧ k < 65 := by
  intro ci k t h
  have hl : ∀ ci, ci < 10 → (zft ci).length ≤ 65 := by decide +kernel
  by_cases hc : ci < 10
  · exact ⟨hc, Nat.lt_of_lt_of_le (List.getElem?_eq_some_iff.mp h).1 (hl ci hc)⟩
  · have h0 : zft ci = [] := by
      unfold zft
      rw [List.getD_eq_getElem?_getD, List.getElem?_eq_none (by simp; omega)]
      rfl
    rw [h0] at h
    simp at h
theorem z_fv_ext {ad ad' : Nat → Nat} {V : Nat → Int32} {L : Nat → Int64} {G : Nat → Option Nat} {k t : Nat} (h : t = 0 ∨ t = 1 ∨ (G k).map ad' = (G k).map ad) : z_fv ad' V L G k t = z_fv ad V L G k t := by
  unfold z_fv
  rcases h with rfl | rfl | h
  · rfl
  · rfl
  · rw [h]
theorem z_ext {D : va_G} {cy : Nat → ClassId} {ad ad' : Nat → Nat} {n n' : Nat} {K N K' N' : Nat → Nat} {G G' : zG} {V V' : zI} {L L' : zL} (hWF : zWF n K G) (ha : ∀ w, w < n → ad' w = ad w) (hK : ∀ w, w < n → K' w = K w) (hN : ∀ w, w < n → N' w = N w) (hG : ∀ w, w < n → G' w = G w) (hV : ∀ w, w < n → V' w = V w) (hL : ∀ w, w < n → L' w = L w) : (List.range n).map (fun w => (ad' w, z_cell (zC D cy ad' n' K' N' G') V' L' w)) = z_w (zC D cy ad n K N G) V L := by
  refine List.map_congr_left (fun w hw => ?_)
  have hw := List.mem_range.mp hw
  have hmap : ∀ o : Option Nat, (o = none ∨ ∃ v, o = some v ∧ v < n) → o.map ad' = o.map ad := by
    intro o ho
    rcases ho with rfl | ⟨v, rfl, hv⟩
    · rfl
    · simp [ha v hv]
  refine Prod.ext (ha w hw) ?_
  show z_cell (zC D cy ad' n' K' N' G') V' L' w = z_cell (zC D cy ad n K N G) V L w
  simp only [z_cell, hK w hw, hN w hw, hG w hw, hV w hw, hL w hw]
  have hobj : (zft (K w)).mapIdx (fun k t => z_fv ad' (V w) (L w) (G w) k t) = (zft (K w)).mapIdx (fun k t => z_fv ad (V w) (L w) (G w) k t) := by
    apply List.ext_getElem?
    intro j
    simp only [List.getElem?_mapIdx]
    cases hj : (zft (K w))[j]? with
    | none => rfl
    | some t =>
      obtain ⟨h1, h2⟩ := zft_len _ _ _ hj
      have ht := zft_01 _ h1 _ h2 _ hj
      simp only [Option.map_some]
      congr 1
      apply z_fv_ext
      rcases ht with h | h | h
      · exact Or.inl h
      · exact Or.inr (Or.inl h)
      · subst h
        obtain ⟨c, hc⟩ := zft_zrt _ h1 _ h2 hj
        refine Or.inr (Or.inr (hmap _ ?_))
        rcases (hWF w hw).1 j c hc with h | ⟨v, h, hv, -⟩
        · exact Or.inl h
        · exact Or.inr ⟨v, h, hv⟩
  rw [hobj]
  by_cases h104 : K w = 104
  · have : (fun i => (G w i).map ad') = (fun i => (G w i).map ad) := by
      funext i
      refine hmap _ ?_
      rcases (hWF w hw).2 h104 i with h | ⟨v, h, hv, -⟩
      · exact Or.inl h
      · exact Or.inr ⟨v, h, hv⟩
    rw [this]
  · simp only [if_neg h104]
theorem z_push {D : va_G} {cy : Nat → ClassId} {ad ad' : Nat → Nat} {n : Nat} {K N K' N' : Nat → Nat} {G G' : zG} {V V' : zI} {L L' : zL} (hWF : zWF n K G) (ha : ∀ w, w < n → ad' w = ad w) (hK : ∀ w, w < n → K' w = K w) (hN : ∀ w, w < n → N' w = N w) (hG : ∀ w, w < n → G' w = G w) (hV : ∀ w, w < n → V' w = V w) (hL : ∀ w, w < n → L' w = L w) : z_w (zC D cy ad n K N G) V L ++ [(ad' n, z_cell (zC D cy ad' (n + 1) K' N' G') V' L' n)] = z_w (zC D cy ad' (n + 1) K' N' G') V' L' := by
  rw [← z_ext (D := D) (cy := cy) (n' := n + 1) hWF ha hK hN hG hV hL]
  show _ = (List.range (n + 1)).map _
  rw [List.range_succ, List.map_append]
  rfl
/-- what a new place is: nothing in it -/
abbrev zn0 : Nat → Option Nat := fun _ => none
theorem zWF.push {n : Nat} {K : Nat → Nat} {G : zG} (h : zWF n K G) (kd : Nat) : zWF (n + 1) (kU K n kd) (kU G n zn0) := by
  intro w hw
  by_cases e : w = n
  · subst e
    rw [kU_eq, kU_eq]
    exact ⟨fun k c _ => Or.inl rfl, fun _ i => Or.inl rfl⟩
  · have hlt : w < n := by omega
    rw [kU_ne e, kU_ne e]
    have lift : ∀ o : Option Nat, ∀ c, (o = none ∨ ∃ v, o = some v ∧ v < n ∧ K v = c) → (o = none ∨ ∃ v, o = some v ∧ v < n + 1 ∧ kU K n kd v = c) := by
      intro o c ho
      rcases ho with h | ⟨v, h1, h2, h3⟩
      · exact Or.inl h
      · exact Or.inr ⟨v, h1, by omega, by rw [kU_ne (by omega)]; exact h3⟩
    exact ⟨fun k c hk => lift _ _ ((h w hlt).1 k c hk), fun hk i => lift _ _ ((h w hlt).2 hk i)⟩
/-- facts of places go on -/
theorem zh_up {n kd ci p : Nat} {K : Nat → Nat} (h : p < n ∧ K p = ci) : p < n + 1 ∧ kU K n kd p = ci := ⟨by omega, by rw [kU_ne (by omega)]; exact h.2⟩
theorem zh_new {n kd : Nat} {K : Nat → Nat} : n < n + 1 ∧ kU K n kd n = kd := ⟨by omega, kU_eq⟩
theorem zag_up {n m : Nat} {ad ad' a0 : Nat → Nat} (h0 : ∀ w, w < m → ad w = a0 w) (hm : m ≤ n) (h : ∀ w, w < n → ad' w = ad w) : ∀ w, w < m → ad' w = a0 w := fun w hw => (h w (by omega)).trans (h0 w hw)

