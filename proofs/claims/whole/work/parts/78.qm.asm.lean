section
variable {n c q j : Nat} {K N : Nat → Nat} {G : zG} {V R : zI} {L M : zL}
/-! what holds between calls -/
def II (j : Nat) (S : zS) (R : zI) (M : zL) : Prop := (S.2.1 ≤ 2002 + 100 * min j 512 ∧ S.2.2.1 ≤ 62000 + 14000 * min j 512) ∧ JP S.1 S.2.2.2.1 S.2.2.2.2.1 S.2.2.2.2.2.1 S.2.2.2.2.2.2.1 R M
theorem li_Q {o : Option (Int32 × zS)} {o' : Option (Int32 × zI × zL)} (hj : j < 512) (hb : c ≤ 2002 + 100 * min j 512 ∧ q ≤ 62000 + 14000 * min j 512) (h : zX o o' (fun r r' => r.1 = r'.1 ∧ JQ r.2 r'.2.1 r'.2.2)) : ∃ v S' V' L', o = some (v, S') ∧ o' = some (v, V', L') ∧ II (j + 1) (lS (n, c, q, K, N, G, V, L) S') V' L' := by
  obtain ⟨⟨v, S'⟩, ⟨v', V', L'⟩, rfl, rfl, e, ⟨b1, b2⟩, hq⟩ := h
  dsimp only at e b1 b2 hq
  subst e
  refine ⟨v, S', V', L', rfl, rfl, ⟨?_, ?_⟩, hq⟩
  · show c + S'.2.1 ≤ _
    omega
  · show q + S'.2.2.1 ≤ _
    omega
theorem li_W {o : Option (Int32 × zI × zL)} {o' : Option (Int32 × zI × zL)} (hj : j < 512) (hb : c ≤ 2002 + 100 * min j 512 ∧ q ≤ 62000 + 14000 * min j 512) (h : zX o o' (fun r r' => r.1 = r'.1 ∧ JP n K N G r.2.1 r'.2.1 r'.2.2)) : ∃ v S' V' L', (o.bind fun r => some (r.1, ((n, 0, 0, K, N, G, r.2.1, r.2.2) : zS))) = some (v, S') ∧ o' = some (v, V', L') ∧ II (j + 1) (lS (n, c, q, K, N, G, V, L) S') V' L' := by
  obtain ⟨⟨v, V1, L1⟩, ⟨v', V', L'⟩, rfl, rfl, e, hq⟩ := h
  dsimp only at e hq
  subst e
  refine ⟨v, (n, 0, 0, K, N, G, V1, L1), V', L', rfl, rfl, ⟨?_, ?_⟩, hq⟩
  · show c + 0 ≤ _
    omega
  · show q + 0 ≤ _
    omega
theorem li_R {o : Option Int32} {o' : Option (Int32 × zI × zL)} (hj : j < 512) (hb : c ≤ 2002 + 100 * min j 512 ∧ q ≤ 62000 + 14000 * min j 512) (h : zX o o' (fun r r' => r = r'.1 ∧ JP n K N G V r'.2.1 r'.2.2)) : ∃ v S' V' L', (o.bind fun r => some (r, ((n, 0, 0, K, N, G, V, L) : zS))) = some (v, S') ∧ o' = some (v, V', L') ∧ II (j + 1) (lS (n, c, q, K, N, G, V, L) S') V' L' := by
  obtain ⟨v, ⟨v', V', L'⟩, rfl, rfl, e, hq⟩ := h
  dsimp only at e hq
  subst e
  refine ⟨_, (n, 0, 0, K, N, G, V, L), V', L', rfl, rfl, ⟨?_, ?_⟩, hq⟩
  · show c + 0 ≤ _
    omega
  · show q + 0 ≤ _
    omega
set_option maxHeartbeats 4000000 in
theorem LI_II (hun : ∀ (n : Nat) (K N : Nat → Nat) (G : zG) (V R : zI) (L M : zL), JP n K N G V R M → zX (f_X10_union 0 n K N G V L) (f_union R M) (fun r r' => r.1 = r'.1 ∧ JQ r.2 r'.2.1 r'.2.2)) : LI II := by
  refine ⟨fun j S V L h => ?_, fun j k a S V L hj hk h => ?_, fun j S V L h => ?_⟩
  · obtain ⟨⟨h1, h2⟩, u, b, f0, cnt, acts, x, pl, U, A, hi, ⟨⟨⟨g1, g2, -⟩, -⟩, -⟩⟩ := h
    exact ⟨⟨by omega, g2⟩, by omega, by omega⟩
  · obtain ⟨n, c, q, K, N, G, V0, L0⟩ := S
    obtain ⟨hb, hJ⟩ := h
    dsimp only at hb hJ
    match k, hk with
    | 0, _ => exact li_W hj hb (m_feed hJ)
    | 1, _ => exact li_W hj hb (m_end hJ)
    | 2, _ => exact li_Q hj hb (hun n K N G V0 V L0 L hJ)
    | 3, _ => exact li_R hj hb (m_fault hJ)
    | 4, _ => exact li_R hj hb (m_has hJ)
    | 5, _ => exact li_R hj hb (m_letter hJ)
    | 6, _ => exact li_R hj hb (m_pair hJ)
    | 7, _ => exact li_R hj hb (m_mail hJ)
    | 8, _ => exact li_W hj hb (m_writes hJ)
    | 9, _ => exact li_W hj hb (m_later hJ)
    | 10, _ => exact li_W hj hb (m_comes hJ)
    | 11, _ => exact li_W hj hb (m_silent hJ)
    | 12, _ => exact li_R hj hb (m_word hJ)
    | 13, _ => exact li_Q hj hb (m_wide hJ)
    | 14, _ => exact li_Q hj hb (m_cut hJ)
    | 15, _ => exact li_Q hj hb (m_ring hJ)
    | 16, _ => exact li_Q hj hb (m_swap hJ)
    | 17, _ => exact li_W hj hb (m_bag hJ)
    | 18, _ => exact li_R hj hb (m_whose hJ)
    | 19, _ => exact li_Q hj hb (m_days hJ)
    | 20, _ => exact li_Q hj hb (m_chance hJ)
    | 21, _ => exact li_Q hj hb (m_give hJ)
    | 22, _ => exact li_Q hj hb (m_find hJ)
    | 23, _ => exact li_Q hj hb (m_burn hJ)
    | 24, _ => exact li_Q hj hb (m_undo hJ)
    | 25, _ => exact li_W hj hb (m_seed hJ)
    | 26, _ => exact li_R hj hb (m_kept hJ)
    | 27, _ => exact li_W hj hb (m_image hJ)
    | 28, _ => exact li_R hj hb (m_octet hJ)
    | 29, _ => exact li_W hj hb (m_on hJ)
    | 30, _ => exact li_R hj hb (m_status hJ)
    | k + 31, hk => exact absurd hk (by omega)
  · obtain ⟨⟨h1, h2⟩, hJ⟩ := h
    exact ⟨⟨by omega, by omega⟩, hJ⟩
theorem init_J : ∃ r1 : zS, f_X10_init 0 1 (fun _ => 8) (fun _ => 0) (fun _ _ => none) (fun _ _ => 0) (fun _ _ => 0) = some r1 ∧ r1.2.1 ≤ 1000 ∧ r1.2.2.1 ≤ 10000 ∧ ∃ r2 : zS, f_X11_init 0 1 (fun _ => 9) (fun _ => 0) (fun _ _ => none) (fun _ _ => 0) (fun _ _ => 0) = some r2 ∧ r2.2.1 ≤ 1000 ∧ r2.2.2.1 ≤ 50000 ∧ (r2.1 = 36 ∧ ∀ w, w < 36 → r2.2.2.2.1 w = zR_K w ∧ r2.2.2.2.2.1 w = zR_N w ∧ r2.2.2.2.2.2.1 w = zR_G w) ∧ II 0 (r1.1, r1.2.1 + r2.2.1 + 2, r1.2.2.1 + r2.2.2.1 + 82, r1.2.2.2) r2.2.2.2.2.2.2.1 r2.2.2.2.2.2.2.2 := by
  obtain ⟨⟨n1, c1, q1, K1, N1, G1, V1, L1⟩, hf1, a1, a2, a3, a4, a5, a6, ⟨v1, v2, v3, v4, v5, v6, v7⟩, a8⟩ := init_C
  obtain ⟨⟨n2, c2, q2, K2, N2, G2, R, M⟩, hf2, ⟨b1, b2, b3⟩, b4, b5, b6, ⟨w1, w2, w3, w4, w5, w6, w7, w8⟩, b8⟩ := init_R
  dsimp only at a1 a2 a3 a4 a5 a6 a8 v1 v2 v3 v4 v5 v6 v7 b1 b2 b3 b4 b5 b6 b8 w1 w2 w3 w4 w5 w6 w7 w8
  subst a1
  refine ⟨_, hf1, by show c1 ≤ 1000; omega, by show q1 ≤ 10000; omega, _, hf2, by show c2 ≤ 1000; omega, by show q2 ≤ 50000; omega, ⟨b1, b4⟩, ⟨⟨?_, ?_⟩, 2, 0, 0, 0, 0, 1, fun _ => 0, U00, A00, fun _ => A00, a4, ⟨⟨a5, a6, b5, b6⟩, ⟨?_, ?_⟩, fun i hi => absurd hi (by omega)⟩, ⟨0, by omega, v1, w1, fun k hk => absurd hk (by omega)⟩, ⟨v2.trans w2.symm, v3.trans w3.symm⟩, fun k _ => (a8 k).trans (b8 k).symm, ⟨0, by omega, v5, w6, fun k hk => absurd hk (by omega)⟩, ⟨0, by omega, v6, w7, fun k hk => absurd hk (by omega)⟩, ⟨by omega, v7, w8⟩, ⟨Nat.le_refl _, by omega, v4, w5, w4⟩⟩⟩
  · show c1 + c2 + 2 ≤ _
    omega
  · show q1 + q2 + 82 ≤ _
    omega
  · exact ⟨⟨by decide, by decide, by decide, by decide⟩, fun k _ => ⟨Nat.zero_le _, fun h => absurd h (Nat.lt_irrefl 0)⟩, fun r l _ hl => (by cases hl), fun k hk => absurd hk (Nat.not_lt_zero _)⟩
  · exact ⟨⟨by decide, by decide, by decide⟩, fun k _ => ⟨Nat.zero_le _, Nat.zero_le _, Nat.zero_le _⟩, fun k _ _ => ⟨rfl, rfl, rfl⟩, fun k hk => absurd hk (Nat.not_lt_zero _), fun k hk => absurd hk (Nat.not_lt_zero _)⟩
end
