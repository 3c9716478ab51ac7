section
variable {t : Nat → Nat} {tl i m s e κ c y n c0 q0 : Nat} {V V0 : zI} {L : zL} {K N : Nat → Nat} {G : zG} {A B F A' B' F' ix : Nat → Nat}
set_option maxHeartbeats 2000000 in
theorem s_mark {w q : Nat} (hg : AG y tl N G) (hc : c ≤ tl + 1) (hw : w < 2147483648) (hAB : ∀ j, j < c → A j < 100 ∧ B j < 2147483648) (h : AR y c A B F V) (hf : AF y V0 V) : zW (f_X8_markOwnWord N G y (qi w) (qi q) V L) (fun r => r.2 = L ∧ AR y c (fun j => if A j = 3 ∧ B j = w then 4 else A j) (fun j => if A j = 3 ∧ B j = w then q else B j) F r.1 ∧ AF y V0 r.1) := by
  obtain ⟨⟨g0, g1, g2⟩, n0, n1, n2, ht⟩ := id hg
  unfold f_X8_markOwnWord
  rw [g0, o_bind, g1, o_bind]
  unfold g_X8_markOwnWord
  refine zW_lp (I := fun r z => ∃ (i : Nat) (V1 : zI), i ≤ c ∧ r = c - i ∧ z = (qi w, qi q, qi i, V1, L) ∧ AR y c (fun j => if j < i ∧ A j = 3 ∧ B j = w then 4 else A j) (fun j => if j < i ∧ A j = 3 ∧ B j = w then q else B j) F V1 ∧ AF y V0 V1) ?_ FU c _ ⟨0, V, Nat.zero_le _, rfl, rfl, AR_e h (fun j _ => ⟨if_neg (fun h => by omega), if_neg (fun h => by omega), rfl⟩), hf⟩ (FU_big (by omega))
  rintro kk r z ⟨i, V1, hi, rfl, rfl, h1, hf1⟩ ih
  show zW (if (V1 y 3) ≤ qi i then some (V1, L) else if inB (qi i) (N (y + 1)) then (if (V1 (y + 1) (qi i).toNatClampNeg) = 3 then if inB (qi i) (N (y + 2)) then (if (V1 (y + 2) (qi i).toNatClampNeg) = qi w then if inB (qi i) (N (y + 1)) then if inB (qi i) (N (y + 2)) then kk (qi w, qi q, (qi i + 1), z_uI (z_uI V1 (y + 1) (qi i).toNatClampNeg 4) (y + 2) (qi i).toNatClampNeg (qi q), L) else none else none else kk (qi w, qi q, (qi i + 1), V1, L)) else none else kk (qi w, qi q, (qi i + 1), V1, L)) else none) _
  have h3 : V1 y 3 = qi c := h1.1
  by_cases e : i = c
  · subst e
    refine zW_if1 (by rw [h3, q_le (by omega) (by omega)]; exact Nat.le_refl _) (zW_some ⟨rfl, AR_e h1 (fun j hj => ⟨?_, ?_, rfl⟩), hf1⟩)
    · by_cases g : A j = 3 ∧ B j = w
      · rw [if_pos g, if_pos (show j < i ∧ A j = 3 ∧ B j = w from ⟨hj, g⟩)]
      · rw [if_neg g, if_neg (show ¬ (j < i ∧ A j = 3 ∧ B j = w) from fun x => g x.2)]
    · by_cases g : A j = 3 ∧ B j = w
      · rw [if_pos g, if_pos (show j < i ∧ A j = 3 ∧ B j = w from ⟨hj, g⟩)]
      · rw [if_neg g, if_neg (show ¬ (j < i ∧ A j = 3 ∧ B j = w) from fun x => g x.2)]
  have hic : i < c := by omega
  obtain ⟨ha, hb⟩ := hAB i hic
  obtain ⟨j1, j2, j3⟩ := h1.2 i hic
  dsimp only at j1 j2
  rw [if_neg (fun h => by omega)] at j1 j2
  have hnn := q_nn (a := i) (by omega)
  have j1' : V1 (y + 1) (qi i).toNatClampNeg = qi (A i) := by rw [hnn]; exact j1
  have j2' : V1 (y + 2) (qi i).toNatClampNeg = qi (B i) := by rw [hnn]; exact j2
  have ex : qi i + 1 = qi (i + 1) := by rw [show (1 : Int32) = qi 1 from rfl, q_add]
  have hsame : ¬ (A i = 3 ∧ B i = w) → zW (kk (qi w, qi q, (qi i + 1), V1, L)) (fun r => r.2 = L ∧ AR y c (fun j => if A j = 3 ∧ B j = w then 4 else A j) (fun j => if A j = 3 ∧ B j = w then q else B j) F r.1 ∧ AF y V0 r.1) := fun hn => by
    rw [ex]
    refine ih (c - (i + 1)) _ (by omega) ⟨i + 1, V1, by omega, rfl, rfl, AR_e h1 (fun j hj => ?_), hf1⟩
    have hiff : (j < i + 1 ∧ A j = 3 ∧ B j = w) ↔ (j < i ∧ A j = 3 ∧ B j = w) := by
      constructor
      · rintro ⟨x1, x2⟩
        refine ⟨?_, x2⟩
        rcases Nat.lt_or_ge j i with x | x
        · exact x
        · have : j = i := by omega
          subst this
          exact absurd x2 hn
      · rintro ⟨x1, x2⟩
        exact ⟨by omega, x2⟩
    by_cases x : j < i ∧ A j = 3 ∧ B j = w
    · rw [if_pos x, if_pos x, if_pos (hiff.mpr x), if_pos (hiff.mpr x)]; exact ⟨rfl, rfl, rfl⟩
    · rw [if_neg x, if_neg x, if_neg (fun g => x (hiff.mp g)), if_neg (fun g => x (hiff.mp g))]; exact ⟨rfl, rfl, rfl⟩
  refine zW_if0 (by rw [h3, q_le (by omega) (by omega)]; omega) (zW_if1 (by rw [n0]; exact q_inP (by omega) (by omega)) ?_)
  by_cases a3 : A i = 3
  · refine zW_if1 (by rw [j1', a3]; rfl) (zW_if1 (by rw [n1]; exact q_inP (by omega) (by omega)) ?_)
    by_cases bw : B i = w
    · refine zW_if1 (by rw [j2', bw]) (zW_if1 (by rw [n0]; exact q_inP (by omega) (by omega)) (zW_if1 (by rw [n1]; exact q_inP (by omega) (by omega)) ?_))
      rw [ex, hnn]
      refine ih (c - (i + 1)) _ (by omega) ⟨i + 1, _, by omega, rfl, rfl, ⟨?_, fun j hj => ?_⟩, fun x x0 x1 x2 x3 => ?_, fun j hj3 => ?_⟩
      · rw [z_neP (by omega), z_neP (by omega)]; exact h3
      · dsimp only
        by_cases ej : j = i
        · subst ej
          rw [if_pos ⟨by omega, a3, bw⟩, if_pos ⟨by omega, a3, bw⟩, z_neP (by omega), z_same, z_same, z_neP (by omega), z_neP (by omega)]
          exact ⟨rfl, rfl, j3⟩
        · have hiff : (j < i + 1 ∧ A j = 3 ∧ B j = w) ↔ (j < i ∧ A j = 3 ∧ B j = w) := by
            constructor
            · rintro ⟨x1, x2⟩; exact ⟨by omega, x2⟩
            · rintro ⟨x1, x2⟩; exact ⟨by omega, x2⟩
          rw [z_neP (by omega), z_neK ej, z_neK ej, z_neP (by omega), z_neP (by omega), z_neP (by omega)]
          have hh := h1.2 j hj
          dsimp only at hh
          by_cases x : j < i ∧ A j = 3 ∧ B j = w
          · rw [if_pos x, if_pos x] at hh
            rw [if_pos (hiff.mpr x), if_pos (hiff.mpr x)]
            exact hh
          · rw [if_neg x, if_neg x] at hh
            rw [if_neg (fun g => x (hiff.mp g)), if_neg (fun g => x (hiff.mp g))]
            exact hh
      · rw [z_neP x2, z_neP x1]; exact hf1.1 x x0 x1 x2 x3
      · rw [z_neP (by omega), z_neP (by omega)]; exact hf1.2 j hj3
    · exact zW_if0 (by rw [j2', q_eq (by omega) hw]; exact bw) (hsame (fun g => bw g.2))
  · exact zW_if0 (by rw [j1', q_lit, q_eq (by omega) (by omega)]; exact a3) (hsame (fun g => a3 g.1))
def owS : List (List Nat) := [[20, 15, 23, 14], [3, 1, 18, 20], [20, 15], [4, 1, 25, 19], [8, 15, 12, 4, 19], [15, 6], [23, 18, 9, 20, 5, 19], [12, 9, 11, 5, 19], [23, 15, 18, 20, 8], [5, 14, 3, 12], [12, 15, 19, 20], [8, 5, 12, 4], [6, 1, 18], [4, 1, 25], [19, 5, 14, 20], [7, 15, 20], [9, 6], [15, 18], [1, 14, 4], [14, 15, 20], [1, 12, 12], [13, 9, 14], [13, 1, 24]]
abbrev owW (k : Nat) : List Nat := owS.getD k []
def psW : Nat → Nat
  | 0 => 0
  | k + 1 => psW k + (owW k).length + 1
theorem ow_1 : ∀ k, k < 23 → ∀ j, j < (owW k).length → (zsb.getD (psW k + j) 0 &&& 255) = qi ((owW k).getD j 0 + 96) := by decide +kernel
theorem ow_2 : ∀ k, k < 23 → (zsb.getD (psW k + (owW k).length) 0 &&& 255) = qi 32 := by decide +kernel
theorem ow_3 : psW 23 = 104 := by decide
theorem ow_4 : ∀ k, k < 23 → ((1 ≤ (owW k).length ∧ (owW k).length ≤ 6) ∧ ∀ a ∈ owW k, 1 ≤ a ∧ a ≤ 26) ∧ nmR (owW k) = ow k ∧ ixF owL (ow k) = k := by decide
theorem ow_5 : ∀ k, k < 23 → psW k + (owW k).length < 104 := by decide
theorem takeS : ∀ (l : List Nat) (j : Nat), j < l.length → l.take (j + 1) = l.take j ++ [l.getD j 0] := by
  intro l
  induction l with
  | nil => intro j h; exact absurd h (Nat.not_lt_zero _)
  | cons a l ih =>
    intro j h
    cases j with
    | zero => rfl
    | succ j =>
      show a :: l.take (j + 1) = a :: (l.take j ++ [l.getD j 0])
      rw [ih j (by have : j + 1 < l.length + 1 := h; omega)]
/-- after k of the own words -/
abbrev mA (A ix : Nat → Nat) (k : Nat) : Nat → Nat := fun j => if A j = 3 ∧ ix j < k then 4 else A j
abbrev mB (A B ix : Nat → Nat) (k : Nat) : Nat → Nat := fun j => if A j = 3 ∧ ix j < k then ix j else B j
set_option maxHeartbeats 4000000 in
theorem s_marks {P : zS → Prop} (hg : AG y tl N G) (hc : c ≤ tl + 1) (hAB : ∀ j, j < c → A j < 100 ∧ B j < 2147483648) (hl : ∀ j, j < c → A j = 3 → ∃ l, nmK l ∧ B j = nmC l ∧ ix j = ixF owL (nmR l)) (h : AR y c A B F V) (hf : AF y V0 V) (hk : ∀ V1, AR y c (mA A ix 23) (mB A B ix 23) F V1 → AF y V0 V1 → P (n, 0, 0, K, N, G, V1, L)) : zW (f_X8_markOwnWords y n K N G V L) P := by
  have htl := hg.2.2.2.2
  unfold f_X8_markOwnWords g_X8_markOwnWords
  refine zW_lp (I := fun r z => ∃ (k j : Nat) (V1 : zI), k ≤ 23 ∧ (k < 23 → j ≤ (owW k).length) ∧ (k = 23 → j = 0) ∧ r = 104 - (psW k + j) ∧ z = (y, qi (nmC ((owW k).take j)), qi j, qi k, qi (psW k + j), n, 0, 0, K, N, G, V1, L) ∧ AR y c (mA A ix k) (mB A B ix k) F V1 ∧ AF y V0 V1) ?_ FU 104 _ ⟨0, 0, V, by omega, fun _ => Nat.zero_le _, fun _ => rfl, rfl, rfl, AR_e h (fun j _ => ⟨if_neg (fun x => by omega), if_neg (fun x => by omega), rfl⟩), hf⟩ (FU_big (by omega))
  rintro kk r z ⟨k, j, V1, hk23, hj, hj0, rfl, rfl, h1, hf1⟩ ih
  show zW (if 104 ≤ qi (psW k + j) then some (n, 0, 0, K, N, G, V1, L) else if inB (qi (psW k + j)) 104 then (if (zsb.getD (qi (psW k + j)).toNatClampNeg 0 &&& 255) = 32 then (f_X8_markOwnWord N G y (qi (nmC ((owW k).take j))) (qi k) V1 L).bind fun r2 => kk (y, 0, 0, (qi k + 1), (qi (psW k + j) + 1), n, 0, 0, K, N, G, r2.1, r2.2) else kk (y, (qi (nmC ((owW k).take j)) ||| ((((zsb.getD (qi (psW k + j)).toNatClampNeg 0 &&& 255) - 97) + 1) <<< ((qi j * 5) &&& 31))), (qi j + 1), qi k, (qi (psW k + j) + 1), n, 0, 0, K, N, G, V1, L)) else none) P
  by_cases e23 : k = 23
  · subst e23
    have := hj0 rfl
    subst this
    rw [ow_3]
    exact zW_if1 (by decide) (zW_some (hk V1 h1 hf1))
  have hk' : k < 23 := by omega
  have hjl := hj hk'
  have h5 := ow_5 k hk'
  obtain ⟨⟨hlen, hmem⟩, hR, hixk⟩ := ow_4 k hk'
  have hnn := q_nn (a := psW k + j) (by omega)
  refine zW_if0 (by rw [q_lit, q_le (by omega) (by omega)]; omega) (zW_if1 (q_inP (by omega) (by omega)) ?_)
  have ex : qi (psW k + j) + 1 = qi (psW k + j + 1) := by rw [show (1 : Int32) = qi 1 from rfl, q_add]
  by_cases ej : j = (owW k).length
  · have hz : zsb.getD (qi (psW k + j)).toNatClampNeg 0 &&& 255 = 32 := by rw [hnn, ej]; exact ow_2 k hk'
    refine zW_if1 hz ?_
    rw [ex, ej, List.take_length]
    have hwb : nmC (owW k) < 2147483648 := by
      have h1 := nmC_b (owW k) hmem
      have h2 : 32 ^ (owW k).length ≤ 32 ^ 6 := Nat.pow_le_pow_right (by decide) hlen.2
      have h3 : (32 : Nat) ^ 6 = 1073741824 := rfl
      omega
    have hABk : ∀ j, j < c → mA A ix k j < 100 ∧ mB A B ix k j < 2147483648 := fun j hj => by
      obtain ⟨x1, x2⟩ := hAB j hj
      show (if A j = 3 ∧ ix j < k then 4 else A j) < 100 ∧ (if A j = 3 ∧ ix j < k then ix j else B j) < 2147483648
      by_cases x : A j = 3 ∧ ix j < k
      · rw [if_pos x, if_pos x]; omega
      · rw [if_neg x, if_neg x]; exact ⟨x1, x2⟩
    refine zW_call (s_mark (w := nmC (owW k)) (q := k) hg hc hwb hABk h1 hf1) ?_
    rintro ⟨V2, L2⟩ ⟨rfl, h2, hf2⟩
    dsimp only at h2 hf2 ⊢
    rw [show (0 : Int32) = qi 0 from rfl, show (1 : Int32) = qi 1 from rfl, q_add]
    have hp : psW (k + 1) = psW k + (owW k).length + 1 := rfl
    refine ih (104 - (psW (k + 1) + 0)) _ (by omega) ⟨k + 1, 0, V2, by omega, fun _ => Nat.zero_le _, fun _ => rfl, rfl, rfl, AR_e h2 (fun j hj => ?_), hf2⟩
    show (if A j = 3 ∧ ix j < k + 1 then 4 else A j) = (if (if A j = 3 ∧ ix j < k then 4 else A j) = 3 ∧ (if A j = 3 ∧ ix j < k then ix j else B j) = nmC (owW k) then 4 else (if A j = 3 ∧ ix j < k then 4 else A j)) ∧ (if A j = 3 ∧ ix j < k + 1 then ix j else B j) = (if (if A j = 3 ∧ ix j < k then 4 else A j) = 3 ∧ (if A j = 3 ∧ ix j < k then ix j else B j) = nmC (owW k) then k else (if A j = 3 ∧ ix j < k then ix j else B j)) ∧ _
    by_cases a3 : A j = 3
    · obtain ⟨l, l1, l2, l3⟩ := hl j hj a3
      by_cases x : ix j < k
      · have e1 : A j = 3 ∧ ix j < k + 1 := ⟨a3, by omega⟩
        have e2 : A j = 3 ∧ ix j < k := ⟨a3, x⟩
        have e3 : ¬ (4 = 3 ∧ ix j = nmC (owW k)) := fun g => absurd g.1 (by decide)
        rw [if_pos e1, if_pos e1, if_pos e2, if_pos e2, if_neg e3, if_neg e3]
        exact ⟨rfl, rfl, rfl⟩
      · have e2 : ¬ (A j = 3 ∧ ix j < k) := fun g => x g.2
        have hiff : B j = nmC (owW k) ↔ ix j = k := by
          rw [l2]
          constructor
          · intro g
            have := nmC_inj l1 ⟨hlen, hmem⟩ g
            rw [l3, this, hR]
            exact hixk
          · intro g
            have g2 := ixF_lt owL (nmR l) (by rw [← l3, g]; exact hk')
            rw [← l3, g] at g2
            have : nmR l = nmR (owW k) := by rw [hR]; exact g2.symm
            rw [nmR_inj _ rfl l1.2 hmem this]
        rw [if_neg e2, if_neg e2]
        by_cases x2 : ix j = k
        · have e1 : A j = 3 ∧ ix j < k + 1 := ⟨a3, by omega⟩
          have e3 : A j = 3 ∧ B j = nmC (owW k) := ⟨a3, hiff.mpr x2⟩
          rw [if_pos e1, if_pos e1, if_pos e3, if_pos e3]
          exact ⟨rfl, x2, rfl⟩
        · have e1 : ¬ (A j = 3 ∧ ix j < k + 1) := fun g => by have := g.2; omega
          have e3 : ¬ (A j = 3 ∧ B j = nmC (owW k)) := fun g => x2 (hiff.mp g.2)
          rw [if_neg e1, if_neg e1, if_neg e3, if_neg e3]
          exact ⟨rfl, rfl, rfl⟩
    · have e1 : ¬ (A j = 3 ∧ ix j < k + 1) := fun g => a3 g.1
      have e2 : ¬ (A j = 3 ∧ ix j < k) := fun g => a3 g.1
      have e3 : ¬ (A j = 3 ∧ B j = nmC (owW k)) := fun g => a3 g.1
      rw [if_neg e1, if_neg e1, if_neg e2, if_neg e2, if_neg e3, if_neg e3]
      exact ⟨rfl, rfl, rfl⟩
  · have hjl' : j < (owW k).length := by omega
    have ho1 := ow_1 k hk' j hjl'
    have ha : 1 ≤ (owW k).getD j 0 ∧ (owW k).getD j 0 ≤ 26 := by
      rw [gD_lt hjl']
      exact hmem _ (List.getElem_mem hjl')
    have hz : zsb.getD (qi (psW k + j)).toNatClampNeg 0 &&& 255 = qi ((owW k).getD j 0 + 96) := by rw [hnn]; exact ho1
    refine zW_if0 (by rw [hz, q_lit, q_eq (by omega) (by omega)]; omega) ?_
    rw [hz, ex]
    have hb := nmC_b ((owW k).take j) (fun a ha => hmem a (List.mem_of_mem_take ha))
    rw [List.length_take, Nat.min_eq_left (by omega)] at hb
    rw [q_letC (k := j) (by omega) hb ⟨by omega, by omega⟩, Nat.add_sub_cancel, show (1 : Int32) = qi 1 from rfl, q_add]
    have etk : nmC ((owW k).take j) + (owW k).getD j 0 * 32 ^ j = nmC ((owW k).take (j + 1)) := by
      rw [takeS _ _ hjl', nmC_app, List.length_take, Nat.min_eq_left (by omega)]
    rw [etk]
    exact ih (104 - (psW k + (j + 1))) _ (by omega) ⟨k, j + 1, V1, hk23, fun _ => by omega, fun g => absurd g e23, rfl, rfl, h1, hf1⟩
end
