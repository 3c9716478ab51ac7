section
variable {b k cd n0 n tn tl tw u p7 : Nat} {V V' R R' : zI} {L M M' : zL} {K N : Nat → Nat} {G : zG} {ed t w st : Nat → Nat} {tk : Nat → tkT} {C : List Nat} {U : aU}
/-- how many rules are given -/
def nR (U : aU) : Nat := (rulU U 0).isSome.toNat + (rulU U 1).isSome.toNat + (rulU U 2).isSome.toNat
theorem b_le : ∀ x : Bool, x.toNat ≤ 1 := by decide
theorem nR3 : nR U ≤ 3 := by
  unfold nR
  have h0 := b_le (rulU U 0).isSome
  have h1 := b_le (rulU U 1).isSome
  have h2 := b_le (rulU U 2).isSome
  omega
def PF (n0 tn tl : Nat) (tk : Nat → tkT) (N : Nat → Nat) (G : zG) (V R : zI) : Prop := ∃ k' C', CV N G n0 (n0 + 5) (n0 + 6) (n0 + 7) (n0 + 8) (n0 + 9) tn tl ∧ TV V (n0 + 5) (n0 + 6) (n0 + 7) (n0 + 8) tn tk ∧ CS n0 (n0 + 9) V tk tn k' C' 0 V ∧ C'.length ≤ 1600 ∧ (tk k').1 = 5 ∧ R 0 8 = qi 1 ∧ R 0 9 = qi (tk k').2.1
def S2 (n0 b tn tl : Nat) (t ed : Nat → Nat) (tk : Nat → tkT) (k : Nat) (U : aU) (n : Nat) (K N : Nat → Nat) (G : zG) (V R : zI) (M : zL) (n' c' q' : Nat) (K' N' : Nat → Nat) (G' : zG) (V' R' : zI) (M' : zL) : Prop := (∀ x, x < n0 → K' x = K x ∧ N' x = N x ∧ G' x = G x ∧ V' x = V x) ∧ (RQ b R M R' M' ∧ V' (n0 + 1) 2 = V (n0 + 1) 2 ∧ G' n0 5 = some (n0 + 1) ∧ n ≤ n') ∧ ((∃ k' cd' U' w' st', k < k' ∧ ST n0 b tn tl t ed tk k' cd' U' w' st' n' N' G' V' R' M' ∧ c' + nR U ≤ nR U' ∧ q' + 1600 * nR U ≤ 1600 * nR U') ∨ ((PF n0 tn tl tk N' G' V' R' ∨ FL n0 tn V' R') ∧ c' + nR U ≤ 3 ∧ q' + 1600 * nR U ≤ 4800))
def k_rl (y0 : Nat) (s0 : Int32) (fd n c q : Nat) (K N : Nat → Nat) (G : zG) (V : zI) (L : zL) : Option zS := (G y0 5).bind fun v4 => (G y0 5).bind fun v5 => (zopt (G v5 fd) ((f_X5_readRule_n y0 s0 n K N G V L).bind fun r7 => some (r7.2.1, c + r7.2.2.1, q + r7.2.2.2.1, r7.2.2.2.2.1, r7.2.2.2.2.2.1, gS r7.2.2.2.2.2.2.1 v4 fd (some r7.1), r7.2.2.2.2.2.2.2.1, r7.2.2.2.2.2.2.2.2)) (fun v6 => (f_X5_readRule_s y0 v6 s0 n K N G V L).bind fun r8 => some (r8.2.1, c + r8.2.2.1, q + r8.2.2.2.1, r8.2.2.2.2.1, r8.2.2.2.2.2.1, gS r8.2.2.2.2.2.2.1 v4 fd (some r8.1), r8.2.2.2.2.2.2.2.1, r8.2.2.2.2.2.2.2.2)))
/-- the rule's copy -/
theorem k_copy {pc cl : Nat} (hpc : pc < n) (hN : N pc = tl) (hcl : cl < tl) (ht : tl ≤ 1600) : ∃ V', f_J7_copyOf_59c91 pc (qi cl) n K N G V L = some (n, n + 1, 1, cl, kU K n 100, kU N n cl, kU G n zn0, V', kU L n (fun _ => 0)) ∧ (∀ x, x ≠ n → V' x = V x) ∧ ∀ j, j < cl → V' n j = V pc j := by
  have hne : pc ≠ n := by omega
  have eN : kU N n cl pc = tl := by rw [kU_ne hne]; exact hN
  have eN' : kU N n cl n = cl := kU_same
  have hlt : qi cl < Int32.ofNat tl := (q_lt (by omega) (by omega)).mpr hcl
  refine ⟨z_row (kU V n (fun _ => 0)) n (va_cpy (kU V n (fun _ => 0) pc) (kU V n (fun _ => 0) n) (0 : Int32).toNatClampNeg (0 : Int32).toNatClampNeg (qi cl).toNatClampNeg), ?_, fun x hx => ?_, fun j hj => ?_⟩
  rotate_left
  · rw [zr_ne hx, kU_ne hx]
  · rw [zr_same, cpy_at (n := cl) (q_nn (by omega)) hj, kU_ne hne]
  · unfold f_J7_copyOf_59c91 g_J7_copyOf_59c91
    rw [hN, if_neg (show ¬ qi cl = Int32.ofNat tl from fun e => by
      have := (q_eq (a := cl) (b := tl) (by omega) (by omega)).mp e
      omega), if_pos (show ¬ qi cl < 0 ∧ (qi cl).toNatClampNeg ≤ 100000 from ⟨q_neg (by omega), by rw [q_nn (by omega)]; omega⟩)]
    unfold f_J7_copyOf_59c91_17
    rw [q_nn (by omega), eN, eN', if_pos hlt, if_pos (show _ ∧ _ ∧ _ ∧ _ ∧ _ from ⟨by decide, by decide, q_neg (by omega), by rw [q_nn (by omega)]; show 0 + cl ≤ tl; omega, by rw [q_nn (by omega)]; show 0 + cl ≤ cl; omega⟩)]
    simp only [Nat.zero_add]
    rw [q_nn (by omega)]
theorem RF_r {fr : Nat} : RF b fr R M R M := ⟨fun _ _ _ _ _ _ _ _ _ _ _ _ _ => rfl, fun _ _ => ⟨rfl, rfl⟩, fun _ _ _ _ _ => rfl, fun _ _ => rfl, fun _ _ => rfl⟩
theorem RQ_F {fr : Nat} (h : RF b fr R M R' M') : RQ b R M R' M' := by
  obtain ⟨a1, a2, a3, a4, a5⟩ := h
  refine ⟨fun j c1 c2 c3 c4 c5 c6 c7 c8 c9 c10 c11 c12 c13 => a1 j c1 c2 c3 c4 c5 c6 c7 c8 c10 c11 c12 c13, fun j _ => ⟨by rw [a3 2 (by omega) (by omega) (by omega) (by omega)], by rw [a3 3 (by omega) (by omega) (by omega) (by omega)]⟩, fun j _ => ⟨by rw [a3 4 (by omega) (by omega) (by omega) (by omega)], by rw [a3 6 (by omega) (by omega) (by omega) (by omega)]⟩, fun j _ => by rw [a3 7 (by omega) (by omega) (by omega) (by omega)], fun j _ => ⟨by rw [a3 8 (by omega) (by omega) (by omega) (by omega)], by rw [a3 9 (by omega) (by omega) (by omega) (by omega)]⟩, fun j hj => a2 j (by omega), ⟨a3 1 (by omega) (by omega) (by omega) (by omega), a3 5 (by omega) (by omega) (by omega) (by omega), fun v hv => a3 v (by omega) (by omega) (by omega) (by omega)⟩, a4, fun j _ => by rw [a5 12 (by omega)], fun v hv _ => a5 v hv⟩
theorem RQ_8 {r : Nat} {y z : Int32} (hr : r < 3) : RQ b R M (z_uI (z_uI R 0 27 y) 8 (3 * b + r) z) M := by
  refine ⟨fun j c1 c2 c3 c4 c5 c6 c7 c8 c9 c10 c11 c12 c13 => by rw [z_neP (by omega), z_neK c9], fun j _ => ⟨by rw [z_neP (by omega), z_neP (by omega)], by rw [z_neP (by omega), z_neP (by omega)]⟩, fun j _ => ⟨by rw [z_neP (by omega), z_neP (by omega)], by rw [z_neP (by omega), z_neP (by omega)]⟩, fun j _ => by rw [z_neP (by omega), z_neP (by omega)], fun j hj => ⟨by rw [z_neK (by omega), z_neP (by omega)], by rw [z_neP (by omega), z_neP (by omega)]⟩, fun j hj => ⟨by rw [z_neP (by omega), z_neP (by omega)], by rw [z_neP (by omega), z_neP (by omega)]⟩, ⟨by rw [z_neP (by omega), z_neP (by omega)], by rw [z_neP (by omega), z_neP (by omega)], fun v hv => by rw [z_neP (by omega), z_neP (by omega)]⟩, fun _ _ => rfl, fun _ _ => rfl, fun _ _ _ => rfl⟩
theorem RQ_9 {r : Nat} {z : Int32} (hr : r < 3) : RQ b R M (z_uI R 9 (3 * b + r) z) M := by
  refine ⟨fun j c1 c2 c3 c4 c5 c6 c7 c8 c9 c10 c11 c12 c13 => by rw [z_neP (by omega)], fun j _ => ⟨by rw [z_neP (by omega)], by rw [z_neP (by omega)]⟩, fun j _ => ⟨by rw [z_neP (by omega)], by rw [z_neP (by omega)]⟩, fun j _ => by rw [z_neP (by omega)], fun j hj => ⟨by rw [z_neP (by omega)], by rw [z_neK (by omega)]⟩, fun j hj => ⟨by rw [z_neP (by omega)], by rw [z_neP (by omega)]⟩, ⟨by rw [z_neP (by omega)], by rw [z_neP (by omega)], fun v hv => by rw [z_neP (by omega)]⟩, fun _ _ => rfl, fun _ _ => rfl, fun _ _ _ => rfl⟩
/-- a rule that was given already -/
theorem s_rul2 {r : Nat} {l : List Nat} {z s0 : Int32} (hr : r < 3) (hz : z = qi r) (hW : TW tk tn) (h : ST n0 b tn tl t ed tk k cd U w st n N G V R M) (hl : rulU U r = some l) : zX (k_rl n0 s0 (8 + r) n 0 0 K N G V L) (f_reading z R M) (fun x x' => ∃ n' c' q' K' N' G' V' L', x = (n', c', q', K', N', G', V', L') ∧ S2 n0 b tn tl t ed tk k U n K N G V R M n' c' q' K' N' G' V' x'.1 x'.2) := by
  subst hz
  obtain ⟨C, hCl, hj⟩ := ST_JK h
  obtain ⟨tw, ct, way, encl, lost, rul, nam⟩ := U
  obtain ⟨hCU, ⟨h26, h2b, h3b⟩, -⟩ := ST_CU h
  have hCV := h.1.1
  have hy5 := h.1.2.1.2.1
  have hb2 := h.2.2.2.2.2.1
  have hd9 := hCV.2.2.1.2.2.2.2.1
  obtain ⟨p, hp, -⟩ := (h.1.2.2.2.1.2.2.2 r hr).2 l hl
  obtain ⟨fr, hfr, hfr9, hfl, -⟩ := h.2.2.2.2.1.2.2 r l hr hl
  have hcd := h.2.2.2.2.2.2.1
  have hkt := hj.1.2.1
  have htl := hCV.2.2.2
  unfold k_rl
  rw [hy5, o_bind, o_bind, hp]
  show zX ((f_X5_readRule_s n0 p s0 n K N G V L).bind _) _ _
  unfold f_X5_readRule_s g_X5_readRule_s
  have b4 : V n0 4 = qi (tk k).2.2 := hj.1.2.2.1.2.2.2
  obtain ⟨⟨V1, L1⟩, e1, rfl, g1⟩ := k_fail (N := N) (G := G) (L := L) (f := 6) (pl := (tk k).2.2) hj.1 hd9 (by omega)
  obtain ⟨⟨z, R1, M1⟩, f1, rfl, g1'⟩ := z_cnt1 hj.2
  dsimp only at g1 g1'
  rw [b4, show (6 : Int32) = qi 6 from rfl, e1, o_bind, o_bind]
  unfold f_reading
  have e3 : (3 : Int32) * R 0 26 + qi r = qi (3 * b + r) := by rw [h26, q_lit, q_mul, q_add]
  rw [e3, if_pos (show inB (qi (3 * b + r)) 6 from q_inP (by omega) (by omega)), q_nn (by omega), if_neg (show ¬ R 8 (3 * b + r) = -1 by rw [hfr]; exact q_nem (by omega))]
  unfold f_reading_25
  rw [f1, o_bind, if_pos (show (0 : Int32) = 0 from rfl)]
  have hG : gS G (n0 + 1) (8 + r) (some p) = G := by
    funext x j
    unfold gS
    by_cases e : x = n0 + 1
    · rw [if_pos e]
      by_cases e' : j = 8 + r
      · rw [if_pos e', e, e', hp]
      · rw [if_neg e', e]
    · rw [if_neg e]
  dsimp only
  rw [hG]
  have hF : JF n0 (n0 + 9) V tn R M V1 R1 M1 := ⟨_, _, ⟨_, _, g1, by omega⟩, g1'⟩
  have hn3 := nR3 (U := (tw, ct, way, encl, lost, rul, nam))
  refine zX_some ⟨_, _, _, _, _, _, _, _, rfl, fun x hx => ⟨rfl, rfl, rfl, (JF_v (b := b) hF).1 x hx⟩, ⟨(JF_v hF).2.1, by rw [(JF_v (b := b) hF).2.2], hy5, Nat.le_refl _⟩, Or.inr ⟨Or.inr (FL_J hF), by omega, by omega⟩⟩
end
