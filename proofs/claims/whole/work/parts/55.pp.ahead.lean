section
/-! bits -/
theorem qb_c : ∀ k, k < 64 → ((qi k).toInt64 &&& 63) = qI k := by decide +kernel
theorem qb_sm : ∀ k, k < 64 → (BitVec.ofNat 64 k).smod 64 = BitVec.ofNat 64 k := by decide +kernel
theorem qb_s32 : ∀ k, k < 32 → ((qi k &&& 31).toBitVec.smod 32) = BitVec.ofNat 32 k := by decide +kernel
theorem qb_1 : ∀ k, k < 32 → ((1 : Int32) <<< (qi k &&& 31)) = qi (2 ^ k) := by decide +kernel
theorem qb_L1 : ∀ k, k < 63 → ((1 : Int64) <<< ((qi k).toInt64 &&& 63)) = qI (2 ^ k) := by decide +kernel
theorem q_tb (n : Nat) : (qi n).toBitVec = BitVec.ofNat 32 n := rfl
theorem Q_tb (n : Nat) : (qI n).toBitVec = BitVec.ofNat 64 n := rfl
theorem q_and {a b : Nat} (ha : a < 4294967296) (hb : b < 4294967296) : qi a &&& qi b = qi (a &&& b) := by
  apply Int32.toBitVec_inj.mp
  rw [Int32.toBitVec_and, q_tb, q_tb, q_tb]
  apply BitVec.eq_of_toNat_eq
  rw [BitVec.toNat_and, BitVec.toNat_ofNat, BitVec.toNat_ofNat, BitVec.toNat_ofNat, Nat.mod_eq_of_lt ha, Nat.mod_eq_of_lt hb, Nat.mod_eq_of_lt (Nat.and_lt_two_pow _ hb)]
theorem q_or {a b : Nat} (ha : a < 4294967296) (hb : b < 4294967296) : qi a ||| qi b = qi (a ||| b) := by
  apply Int32.toBitVec_inj.mp
  rw [Int32.toBitVec_or, q_tb, q_tb, q_tb]
  apply BitVec.eq_of_toNat_eq
  rw [BitVec.toNat_or, BitVec.toNat_ofNat, BitVec.toNat_ofNat, BitVec.toNat_ofNat, Nat.mod_eq_of_lt ha, Nat.mod_eq_of_lt hb, Nat.mod_eq_of_lt (Nat.or_lt_two_pow (n := 32) ha hb)]
theorem Q_or {a b : Nat} (ha : a < 18446744073709551616) (hb : b < 18446744073709551616) : qI a ||| qI b = qI (a ||| b) := by
  apply Int64.toBitVec_inj.mp
  rw [Int64.toBitVec_or, Q_tb, Q_tb, Q_tb]
  apply BitVec.eq_of_toNat_eq
  rw [BitVec.toNat_or, BitVec.toNat_ofNat, BitVec.toNat_ofNat, BitVec.toNat_ofNat, Nat.mod_eq_of_lt ha, Nat.mod_eq_of_lt hb, Nat.mod_eq_of_lt (Nat.or_lt_two_pow (n := 64) ha hb)]
theorem Q_and {a b : Nat} (ha : a < 18446744073709551616) (hb : b < 18446744073709551616) : qI a &&& qI b = qI (a &&& b) := by
  apply Int64.toBitVec_inj.mp
  rw [Int64.toBitVec_and, Q_tb, Q_tb, Q_tb]
  apply BitVec.eq_of_toNat_eq
  rw [BitVec.toNat_and, BitVec.toNat_ofNat, BitVec.toNat_ofNat, BitVec.toNat_ofNat, Nat.mod_eq_of_lt ha, Nat.mod_eq_of_lt hb, Nat.mod_eq_of_lt (Nat.and_lt_two_pow (n := 64) _ hb)]
theorem Q_xor {a b : Nat} (ha : a < 18446744073709551616) (hb : b < 18446744073709551616) : qI a ^^^ qI b = qI (a ^^^ b) := by
  apply Int64.toBitVec_inj.mp
  rw [Int64.toBitVec_xor, Q_tb, Q_tb, Q_tb]
  apply BitVec.eq_of_toNat_eq
  rw [BitVec.toNat_xor, BitVec.toNat_ofNat, BitVec.toNat_ofNat, BitVec.toNat_ofNat, Nat.mod_eq_of_lt ha, Nat.mod_eq_of_lt hb, Nat.mod_eq_of_lt (Nat.xor_lt_two_pow (n := 64) ha hb)]
theorem q_shr {a k : Nat} (ha : a < 2147483648) (hk : k < 32) : qi a >>> (qi k &&& 31) = qi (a / 2 ^ k) := by
  have hd : a / 2 ^ k ≤ a := Nat.div_le_self _ _
  apply Int32.toBitVec_inj.mp
  rw [Int32.toBitVec_shiftRight, qb_s32 k hk, q_tb, q_tb, BitVec.sshiftRight'_ofNat_eq_sshiftRight, Nat.mod_eq_of_lt (by omega)]
  have hm : (BitVec.ofNat 32 a).msb = false := by
    rw [BitVec.msb_eq_decide, BitVec.toNat_ofNat, Nat.mod_eq_of_lt (by omega)]
    simp only [decide_eq_false_iff_not, Nat.not_le]
    omega
  apply BitVec.eq_of_toNat_eq
  rw [BitVec.toNat_sshiftRight_of_msb_false hm, BitVec.toNat_ofNat, BitVec.toNat_ofNat, Nat.shiftRight_eq_div_pow, Nat.mod_eq_of_lt (by omega), Nat.mod_eq_of_lt (by omega)]
theorem Q_shr {a k : Nat} (ha : a < 9223372036854775808) (hk : k < 64) : qI a >>> ((qi k).toInt64 &&& 63) = qI (a / 2 ^ k) := by
  have hd : a / 2 ^ k ≤ a := Nat.div_le_self _ _
  rw [qb_c k hk]
  apply Int64.toBitVec_inj.mp
  rw [Int64.toBitVec_shiftRight, Q_tb, Q_tb, Q_tb, qb_sm k hk, BitVec.sshiftRight'_ofNat_eq_sshiftRight, Nat.mod_eq_of_lt (by omega)]
  have hm : (BitVec.ofNat 64 a).msb = false := by
    rw [BitVec.msb_eq_decide, BitVec.toNat_ofNat, Nat.mod_eq_of_lt (by omega)]
    simp only [decide_eq_false_iff_not, Nat.not_le]
    omega
  apply BitVec.eq_of_toNat_eq
  rw [BitVec.toNat_sshiftRight_of_msb_false hm, BitVec.toNat_ofNat, BitVec.toNat_ofNat, Nat.shiftRight_eq_div_pow, Nat.mod_eq_of_lt (by omega), Nat.mod_eq_of_lt (by omega)]
theorem bt_r (w : Int64) {p : Nat} (hp : p < 63) : ((w >>> ((qi p).toInt64 &&& 63)) &&& 1 = 1) ↔ w.toBitVec.getLsbD p = true := by
  rw [qb_c p (by omega), ← Int64.toBitVec_inj, Int64.toBitVec_and]
  show (w >>> qI p).toBitVec &&& 1#64 = 1#64 ↔ _
  rw [Int64.toBitVec_shiftRight, Q_tb, qb_sm p (by omega), BitVec.sshiftRight'_ofNat_eq_sshiftRight, Nat.mod_eq_of_lt (by omega), BitVec.and_one_eq_setWidth_ofBool_getLsbD, BitVec.getLsbD_sshiftRight]
  simp only [Nat.add_zero, show p < 64 by omega, ↓reduceIte]
  cases w.toBitVec.getLsbD p <;> decide
theorem bt_l (w : Int64) {p : Nat} (hp : p < 63) : (w &&& bit6 p = 0) ↔ w.toBitVec.getLsbD p = false := by
  unfold bit6
  rw [qb_L1 p hp, ← Int64.toBitVec_inj, Int64.toBitVec_and, Q_tb]
  have e : BitVec.ofNat 64 (2 ^ p) = BitVec.twoPow 64 p := by
    apply BitVec.eq_of_toNat_eq
    rw [BitVec.toNat_ofNat, BitVec.toNat_twoPow]
  rw [e, BitVec.and_twoPow]
  show (if w.toBitVec.getLsbD p then _ else _) = 0#64 ↔ _
  cases h : w.toBitVec.getLsbD p
  · simp
  · simp only [↓reduceIte, Bool.true_eq_false, iff_false]
    intro h2
    have := congrArg BitVec.toNat h2
    rw [BitVec.toNat_twoPow] at this
    have h3 : 2 ^ p < 2 ^ 64 := Nat.pow_lt_pow_right (by decide) (by omega)
    rw [Nat.mod_eq_of_lt h3] at this
    have h4 : 0 < 2 ^ p := Nat.two_pow_pos p
    have h5 : (0#64).toNat = 0 := rfl
    omega
variable {n n' : Nat} {K K' N N' : Nat → Nat} {G G' : zG} {V V' R R' : zI} {L M M' : zL} {u b f0 cnt acts x : Nat} {pl : Nat → Nat} {U : aU} {A : aS} {hi : Nat → aS}
/-! frames -/
def cR (R R' : zI) : Prop := (∀ j, (j ≤ 48 ∨ 59 ≤ j) → R' 0 j = R 0 j) ∧ (∀ w, (1 ≤ w ∧ w < 20) ∨ (33 ≤ w ∧ w < 36) → R' w = R w) ∧ ∀ v A, v ≠ 1 → v < 22 → A.2.2.2.2.1 ≤ 60 → A.2.2.2.2.2.2.2.1 ≤ 50 → SR R v A → SR R' v A
theorem cR_rf : cR R R := ⟨fun _ _ => rfl, fun _ _ => rfl, fun _ _ _ _ _ _ h => h⟩
theorem cR_tr {R2 : zI} (h : cR R R') (g : cR R' R2) : cR R R2 := ⟨fun j a => (g.1 j a).trans (h.1 j a), fun w a => (g.2.1 w a).trans (h.2.1 w a), fun v A a1 a2 a3 a4 a5 => g.2.2 v A a1 a2 a3 a4 (h.2.2 v A a1 a2 a3 a4 a5)⟩
theorem cR_RFr (h : RFr 1 R R') : cR R R' := ⟨fun j a => h.2.1 j (by omega) (by omega), fun w a => h.1 w (by omega) (by omega), fun v A a1 a2 a3 a4 a5 => RFr_SR h a1 a3 a4 a5⟩
theorem cR_29 (h : ∀ w, w ≠ 29 → R' w = R w) : cR R R' := cR_RFr (RFr_29 h)
theorem cR_pl (h : ∀ w, w < 28 ∨ 33 ≤ w → R' w = R w) : cR R R' := ⟨fun j a => by rw [h 0 (by omega)], fun w a => h w (by omega), fun v A a1 a2 a3 a4 a5 => SR_fr a5 (fun w b1 b2 => h w (by omega))⟩
theorem SB_k (h : SB U A) : A.2.2.2.2.1 ≤ 60 ∧ A.2.2.2.2.2.2.2.1 ≤ 50 := ⟨h.1.2.1, h.1.2.2⟩
theorem JJ_core (h : JJ n K N G V R M u b f0 cnt acts x pl U A hi) (hv : ∀ w, (w < 13 ∨ 22 ≤ w) → w < n → V' w = V w) (hr : cR R R') (hm : M' 12 = M 12 ∧ M' 0 49 = M 0 49) : JJ n K N G V' R' M' u b f0 cnt acts x pl U A hi := by
  obtain ⟨h1, h2, h3, h4, h5, h6, h7, h8, h9⟩ := h
  have hn : 28 ≤ n := h1.1.1
  have hj := hr.1
  have hw := hr.2.1
  refine ⟨h1, ?_, ?_, ?_, ?_, ?_, ?_, ?_, ?_⟩
  · obtain ⟨⟨-, -, hx, -, hu, hun, -⟩, hp, -, -, -, -, hlast⟩ := h1
    obtain ⟨⟨g1, g2, g3, g4⟩, g5, g6⟩ := h2
    have hu1 := hu.1
    refine ⟨⟨UC_fr g1 (fun w hw' => ?_), SC_fr g2 (fun w a1 a2 => hv w (by omega) (by omega)), UR_fr g3 (hj 13 (by omega)) (fun w a1 a2 a3 a4 => hw w (by omega)) hm.1, hr.2.2 0 A (by omega) (by omega) (SB_k g5.2).1 (SB_k g5.2).2 g4⟩, g5, fun i hi' => ?_⟩
    · rcases hw' with rfl | rfl | rfl | rfl | ⟨r, hr', hg⟩
      · exact hv w (by omega) (by omega)
      · exact hv _ (by omega) (by omega)
      · exact hv _ (by omega) (by omega)
      · exact hv _ (by omega) (by omega)
      · have hlt := hlast r w hr' hg
        have h28 : 28 ≤ w := by
          have h3' := g1.2.2.2 r hr'
          cases hl : U.2.2.2.2.2.1 r with
          | none => rw [h3'.1 hl] at hg; cases hg
          | some l =>
            obtain ⟨p, q1, q2, -⟩ := h3'.2 l hl
            rw [q1] at hg
            cases hg
            exact q2
        exact hv w (by omega) hlt
    · obtain ⟨k1, k2, k3⟩ := g6 i hi'
      have hpi := (hp i (Nat.lt_of_lt_of_le hi' h9.1)).2.2
      have hsl : 2 + (f0 + i) % 20 < 22 := by omega
      exact ⟨SC_fr k1 (fun w a1 a2 => hv w (by omega) (by omega)), hr.2.2 _ _ (by omega) hsl (SB_k k3).1 (SB_k k3).2 k2, k3⟩
  · rw [hv 0 (by omega) (by omega), hv 1 (by omega) (by omega), hj 1 (by omega), hw 1 (by omega)]; exact h3
  · rw [hv 0 (by omega) (by omega), hj 10 (by omega), hj 11 (by omega)]; exact h4
  · rw [hv 27 (by omega) (by omega), hw 19 (by omega)]; exact h5
  · rw [hv 0 (by omega) (by omega), hv 24 (by omega) (by omega), hv 25 (by omega) (by omega), hj 60 (by omega), hw 33 (by omega), hw 34 (by omega)]; exact h6
  · rw [hv 0 (by omega) (by omega), hv 26 (by omega) (by omega), hj 64 (by omega), hw 35 (by omega)]; exact h7
  · rw [hv 22 (by omega) (by omega), hm.2]; exact h8
  · rw [hv 0 (by omega) (by omega), hj 48 (by omega), hj 47 (by omega)]; exact h9
theorem stS_gr {s : Nat} (h : stS N G s) (hs : s + 7 ≤ n) (hN : ∀ w, w < n → N' w = N w) (hG : ∀ w, w < n → G' w = G w) : stS N' G' s := by
  unfold stS at h ⊢
  rw [hG s (by omega), hN (s + 1) (by omega), hN (s + 2) (by omega), hN (s + 3) (by omega), hN (s + 4) (by omega), hN (s + 5) (by omega), hN (s + 6) (by omega)]
  exact h
theorem fxS_gr (h : fxS N G) (hn : 28 ≤ n) (hN : ∀ w, w < n → N' w = N w) (hG : ∀ w, w < n → G' w = G w) : fxS N' G' := by
  obtain ⟨h1, h2, h3, h4⟩ := h
  refine ⟨?_, stS_gr h2 (by omega) hN hG, stS_gr h3 (by omega) hN hG, ?_⟩
  · rw [hG 0 (by omega), hG 20 (by omega)]; exact h1
  · rw [hN 1 (by omega), hN 21 (by omega), hN 23 (by omega), hN 24 (by omega), hN 25 (by omega), hN 26 (by omega), hN 27 (by omega)]; exact h4
theorem unS_gr {s : Nat} (h : unS N G s) (hs : s + 4 ≤ n) (hN : ∀ w, w < n → N' w = N w) (hG : ∀ w, w < n → G' w = G w) : unS N' G' s := by
  unfold unS at h ⊢
  rw [hG s (by omega), hN (s + 1) (by omega), hN (s + 2) (by omega), hN (s + 3) (by omega)]
  exact h
theorem Jg_gr (h : Jg n K N G u cnt pl) (hn : n ≤ n') (hK : K' 0 = 8) (hN : ∀ w, w < n → N' w = N w) (hG : ∀ w, w < n → G' w = G w) : Jg n' K' N' G' u cnt pl := by
  obtain ⟨⟨a1, a2, a3, a4, a5, a6, a7⟩, b1, b2, b3, b4, b5, b6⟩ := h
  refine ⟨⟨by omega, hK, fxS_gr a3 a1 hN hG, by rw [hG 0 (by omega)]; exact a4, unS_gr a5 a6 hN hG, by omega, a7⟩, fun i hi => ?_, fun i h1 h2 => ?_, b3, b4, fun i r p h1 h2 h3 => ?_, fun r p h1 h2 => ?_⟩
  · obtain ⟨c1, c2, c3, c4⟩ := b1 i hi
    exact ⟨by rw [hG 23 (by omega)]; exact c1, stS_gr c2 c4 hN hG, c3, by omega⟩
  · rw [hG 23 (by omega)]; exact b2 i h1 h2
  · rw [hG u (by omega)] at h3; exact b5 i r p h1 h2 h3
  · rw [hG u (by omega)] at h2; have := b6 r p h1 h2; omega
theorem UC_gr (h : UC N G V u U) (hu : u < n) (hp : ∀ r p, r < 3 → G u (8 + r) = some p → p < n) (hN : ∀ w, w < n → N' w = N w) (hG : ∀ w, w < n → G' w = G w) : UC N' G' V u U := by
  obtain ⟨tw, ct, way, encl, lost, rul, nam⟩ := U
  obtain ⟨h0, h1, h2, h3⟩ := h
  refine ⟨h0, h1, h2, fun r hr => ?_⟩
  rw [hG u hu]
  refine ⟨(h3 r hr).1, fun l hl => ?_⟩
  obtain ⟨p, q1, q2, q3, q4⟩ := (h3 r hr).2 l hl
  exact ⟨p, q1, q2, by rw [hN p (hp r p hr q1)]; exact q3, q4⟩
theorem JJ_gr (h : JJ n K N G V R M u b f0 cnt acts x pl U A hi) (hn : n ≤ n') (hK : K' 0 = 8) (hN : ∀ w, w < n → N' w = N w) (hG : ∀ w, w < n → G' w = G w) (hV : ∀ w, (w < 13 ∨ 22 ≤ w) → w < n → V' w = V w) : JJ n' K' N' G' V' R M u b f0 cnt acts x pl U A hi := by
  obtain ⟨h1, h2, h3⟩ := JJ_core h hV cR_rf ⟨rfl, rfl⟩
  refine ⟨Jg_gr h1 hn hK hN hG, ?_, h3⟩
  obtain ⟨⟨g1, g2, g3, g4⟩, g5⟩ := h2
  exact ⟨⟨UC_gr g1 (by have := h1.1.2.2.2.2.2.1; omega) h1.2.2.2.2.2.2 hN hG, g2, g3, g4⟩, g5⟩
theorem m_writes {a1 : Int32} (h : JP n K N G V R M) : zX (f_X10_writes N G 0 a1 V L) (f_writes a1 R M) (fun r r' => r.1 = r'.1 ∧ JP n K N G r.2.1 r'.2.1 r'.2.2) := by
  obtain ⟨u, b, f0, cnt, acts, x, pl, U, A, hi, h⟩ := h
  obtain ⟨⟨hn, -, hx, g2, hu, -⟩, -⟩ := id h.1
  obtain ⟨⟨g1, gs, gr, gt⟩, ⟨hU, hA⟩, -⟩ := id h.2.1
  unfold f_X10_writes g_X10_writes f_writes
  rw [g2, hx.1.2.1, hx.1.2.2.2.1]
  simp only [o_bind]
  rcases x_isTown (L := L) g1 gr hU a1 with ⟨e1, e2⟩ | ⟨a, rfl, ha, e1, e2⟩
  · rw [e1, e2]
    exact zX_some ⟨rfl, u, b, f0, cnt, acts, x, pl, U, A, hi, h⟩
  · rw [e1, e2]
    simp (disch := omega) only [↓reduceIte, o_bind, and_true, true_and, and_false, false_and, or_true, true_or, or_false, false_or, not_true, not_false_eq_true, not_false_iff, ne_eq, Nat.reduceAdd, Nat.reduceMul, Nat.reduceSub, Nat.reduceDiv, Nat.reduceMod, Nat.reduceLT, Nat.reduceLeDiff, Nat.reduceEqDiff, Nat.not_lt, Nat.not_le, q_lit, ↓q_m1, q_om, q_on, q_add, q_mul, q_sub, q_div, q_md, q_ltT, q_ltF, q_leT, q_leF, q_eqT, q_eqF, q_inT, q_inF, q_nn, q_mlt, q_ltm, q_mle, q_lem, q_nem, q_mne]
    refine zX_callL (c_next hx hu hx.2.1 (by omega) g1 gs hU hA ha (fun _ _ => rfl)) ?_
    rintro ⟨y, V1, L1⟩ ⟨p1, p2, p3⟩
    refine zX_callR (r_next (v := 0) (by omega) gr gt hU hA ha (fun _ _ => rfl) (fun _ _ => rfl)) ?_
    rintro ⟨y', R1, M1⟩ ⟨q1, q2, q3⟩
    dsimp only at p1 p2 p3 q1 q2 q3 ⊢
    exact zX_some ⟨p1.trans q1.symm, u, b, f0, cnt, acts, x, pl, U, A, hi, JJ_core h (fun w h1 _ => p3 w (by omega)) (cR_29 q2) ⟨q3 12 (by omega), congrFun (q3 0 (by omega)) 49⟩⟩
/-! days ahead -/
def ahS (U : aU) (A : aS) (x : Nat) : Nat → aS
  | 0 => A
  | k + 1 => dS (dayW U false (ahS U A x k) x) ((ahS U A x k).1 + 1)
theorem ah_SB (hU : UB U) (hA : SB U A) (hx : x < 2147483648) : ∀ k, A.1 + k ≤ 999 → SB U (ahS U A x k) ∧ (ahS U A x k).1 = A.1 + k := by
  intro k
  induction k with
  | zero => intro _; exact ⟨hA, rfl⟩
  | succ k ih =>
    intro hk
    obtain ⟨h1, h2⟩ := ih (by omega)
    exact ⟨dayW_SB hU h1 hx (by omega), by show (ahS U A x k).1 + 1 = _; omega⟩
theorem brF_x {e lo : Nat} {X : aX} : ∀ i, (brF e lo false X i).2.2.1 = X.2.2.1 := by
  intro i
  induction i with
  | zero => rfl
  | succ i ih =>
    rw [← ih]
    show (brS e lo false i (brF e lo false X i)).2.2.1 = _
    generalize brF e lo false X i = Y
    obtain ⟨B, st, y, cm, ls, bt⟩ := Y
    unfold brS
    dsimp only
    split
    · rfl
    · simp [drX]
theorem bX_x : (bX U false A x).2.2.1 = x := brF_x _
def cntV (B : aS) (p : Nat) (w : Int32) : Int32 := if w = qi 0 then qi (B.2.1 p) else if w = qi 1 then qi (B.2.2.1 p) else if w = qi 2 then qi (B.2.2.2.1 p) else qm
theorem c_count {s p : Nat} {w : Int32} (hs : stS N G s) (hS : SC V s A) (hp : p < 36) : f_X7_countOf N G s (qi p) w V L = some (cntV A p w) := by
  obtain ⟨⟨g1, g2, g3, -⟩, n1, n2, n3, -⟩ := hs
  have e1 : V (s + 1) p = qi (A.2.1 p) := hS.2.1 p hp
  have e2 : V (s + 2) p = qi (A.2.2.1 p) := hS.2.2.1 p hp
  have e3 : V (s + 3) p = qi (A.2.2.2.1 p) := hS.2.2.2.1 p hp
  unfold f_X7_countOf g_X7_countOf cntV
  rw [g1, g2, g3]
  simp (disch := omega) only [n1, n2, n3, e1, e2, e3, ↓reduceIte, o_bind, and_true, true_and, and_false, false_and, or_true, true_or, or_false, false_or, not_true, not_false_eq_true, not_false_iff, ne_eq, Nat.reduceAdd, Nat.reduceMul, Nat.reduceSub, Nat.reduceDiv, Nat.reduceMod, Nat.reduceLT, Nat.reduceLeDiff, Nat.reduceEqDiff, Nat.not_lt, Nat.not_le, q_lit, ↓q_m1, q_om, q_on, q_add, q_mul, q_sub, q_div, q_md, q_ltT, q_ltF, q_leT, q_leF, q_eqT, q_eqF, q_inT, q_inF, q_nn, q_mlt, q_ltm, q_mle, q_lem, q_nem, q_mne]
  split
  · rfl
  · split
    · rfl
    · split <;> rfl
theorem c_laterL {a c k : Nat} {w : Int32} (hx : fxS N G) (hu : unS N G u) (hC : UC N G V u U) (hS : SC V 13 A) (hU : UB U) (hA : SB U A) (hxb : x < 2147483648) (ha : 6 * a + c < 36) (hk : A.1 + k ≤ 999) : zW (zfix (b_X10_later_40 N G 0 u 6 13 20) FU (qi a, qi c, qi k, w, 0, V, L)) (fun r => r.1 = cntV (ahS U A x k) (6 * a + c) w ∧ ∀ w, (w < 13 ∨ 22 ≤ w) → r.2.1 w = V w) := by
  have h13 : stS N G 13 := hx.2.2.1
  have hu1 := hu.1
  refine zW_lp (I := fun r q => ∃ (i : Nat) (V1 : zI) (L1 : zL), i ≤ k ∧ r = k - i ∧ q = (qi a, qi c, qi k, w, qi i, V1, L1) ∧ SC V1 13 (ahS U A x i) ∧ ∀ w, (w < 13 ∨ 22 ≤ w) → V1 w = V w) ?_ FU k _ ⟨0, V, L, by omega, by omega, rfl, hS, fun _ _ => rfl⟩ (FU_big (by omega))
  rintro kk r q ⟨i, V1, L1, hi, rfl, rfl, hS1, hw⟩ ih
  obtain ⟨hB, hB1⟩ := ah_SB hU hA hxb i (by omega)
  by_cases hend : i = k
  · subst hend
    have ei : a * 6 + c = 6 * a + c := by omega
    simp (disch := omega) only [b_X10_later_40, Nat.le_refl, ei, c_count h13 hS1 ha, ↓reduceIte, o_bind, and_true, true_and, and_false, false_and, or_true, true_or, or_false, false_or, not_true, not_false_eq_true, not_false_iff, ne_eq, Nat.reduceAdd, Nat.reduceMul, Nat.reduceSub, Nat.reduceDiv, Nat.reduceMod, Nat.reduceLT, Nat.reduceLeDiff, Nat.reduceEqDiff, Nat.not_lt, Nat.not_le, q_lit, ↓q_m1, q_om, q_on, q_add, q_mul, q_sub, q_div, q_md, q_ltT, q_ltF, q_leT, q_leF, q_eqT, q_eqF, q_inT, q_inF, q_nn, q_mlt, q_ltm, q_mle, q_lem, q_nem, q_mne]
    exact zW_some ⟨rfl, hw⟩
  · have hC1 : UC N G V1 u U := UC_fr2 hu hC (fun w h => hw w (by omega))
    have hp := c_pass_n (L := L1) (x := x) hx hu h13 (by omega) hC1 hS1 hU hB hxb
    simp (disch := omega) only [b_X10_later_40, ↓reduceIte, o_bind, and_true, true_and, and_false, false_and, or_true, true_or, or_false, false_or, not_true, not_false_eq_true, not_false_iff, ne_eq, Nat.reduceAdd, Nat.reduceMul, Nat.reduceSub, Nat.reduceDiv, Nat.reduceMod, Nat.reduceLT, Nat.reduceLeDiff, Nat.reduceEqDiff, Nat.not_lt, Nat.not_le, q_lit, ↓q_m1, q_om, q_on, q_add, q_mul, q_sub, q_div, q_md, q_ltT, q_ltF, q_leT, q_leF, q_eqT, q_eqF, q_inT, q_inF, q_nn, q_mlt, q_ltm, q_mle, q_lem, q_nem, q_mne]
    refine zW_call hp ?_
    rintro ⟨V2, L2⟩ ⟨p1, -, -, -, p5, -, p7⟩
    dsimp only at p1 p5 p7 ⊢
    refine ih (k - (i + 1)) _ (by omega) ⟨i + 1, V2, L2, by omega, rfl, rfl, ?_, fun w h => ?_⟩
    · have e : (if (ahS U A x i).1 + 1 < 999 then (ahS U A x i).1 + 1 else 999) = (ahS U A x i).1 + 1 := by split <;> omega
      rw [e] at p1
      exact p1
    · by_cases h22 : w = 22
      · subst h22; rw [p7]; exact hw 22 (by omega)
      · rw [p5 w (by omega) (by omega) h22]; exact hw w h
theorem r_at1 {a c : Nat} (hS : SR R 1 A) (hp : 6 * a + c < 36) : R 21 (36 + (6 * a + c)) = qi (A.2.1 (6 * a + c)) ∧ R 22 (36 + (6 * a + c)) = qi (A.2.2.1 (6 * a + c)) ∧ R 23 (36 + (6 * a + c)) = qi (A.2.2.2.1 (6 * a + c)) := ⟨hS.2.1 _ hp, hS.2.2.1 _ hp, hS.2.2.2.1 _ hp⟩
theorem r_laterL {a c k w : Nat} (hR : UR R M b U) (hS : SR R 1 A) (hU : UB U) (hA : SB U A) (hx : M 0 49 = qI x) (hxb : x < 2147483648) (ha : 6 * a + c < 36) (hk : A.1 + k ≤ 999) (hw : w < 3) : zW (zfix b_later_41 FU (qi a, qi c, qi k, qi w, 0, R, M)) (fun r => r.1 = cntV (ahS U A x k) (6 * a + c) (qi w) ∧ RFr 1 R r.2.1 ∧ r.2.2 0 49 = qI x ∧ ∀ w, w ≠ 0 → w ≠ 28 → r.2.2 w = M w) := by
  refine zW_lp (I := fun r q => ∃ (i : Nat) (R1 : zI) (M1 : zL), i ≤ k ∧ r = k - i ∧ q = (qi a, qi c, qi k, qi w, qi i, R1, M1) ∧ SR R1 1 (ahS U A x i) ∧ RFr 1 R R1 ∧ M1 0 49 = qI x ∧ ∀ w, w ≠ 0 → w ≠ 28 → M1 w = M w) ?_ FU k _ ⟨0, R, M, by omega, by omega, rfl, hS, RFr_rf, hx, fun _ _ _ => rfl⟩ (FU_big (by omega))
  rintro kk r q ⟨i, R1, M1, hi, rfl, rfl, hS1, hfr, h49, hm⟩ ih
  obtain ⟨hB, hB1⟩ := ah_SB hU hA hxb i (by omega)
  by_cases hend : i = k
  · subst hend
    have e := r_at1 hS1 ha
    have ei : 36 + 6 * a + c = 36 + (6 * a + c) := by omega
    rcases (by omega : w = 0 ∨ w = 1 ∨ w = 2) with rfl | rfl | rfl
    · simp (disch := omega) only [b_later_41, f_at, Nat.le_refl, ei, e.1, cntV, ↓reduceIte, o_bind, and_true, true_and, and_false, false_and, or_true, true_or, or_false, false_or, not_true, not_false_eq_true, not_false_iff, ne_eq, Nat.reduceAdd, Nat.reduceMul, Nat.reduceSub, Nat.reduceDiv, Nat.reduceMod, Nat.reduceLT, Nat.reduceLeDiff, Nat.reduceEqDiff, Nat.not_lt, Nat.not_le, q_lit, ↓q_m1, q_om, q_on, q_add, q_mul, q_sub, q_div, q_md, q_ltT, q_ltF, q_leT, q_leF, q_eqT, q_eqF, q_inT, q_inF, q_nn, q_mlt, q_ltm, q_mle, q_lem, q_nem, q_mne]
      exact zW_some ⟨rfl, hfr, h49, hm⟩
    · simp (disch := omega) only [b_later_41, f_at, Nat.le_refl, ei, e.2.1, cntV, ↓reduceIte, o_bind, and_true, true_and, and_false, false_and, or_true, true_or, or_false, false_or, not_true, not_false_eq_true, not_false_iff, ne_eq, Nat.reduceAdd, Nat.reduceMul, Nat.reduceSub, Nat.reduceDiv, Nat.reduceMod, Nat.reduceLT, Nat.reduceLeDiff, Nat.reduceEqDiff, Nat.not_lt, Nat.not_le, q_lit, ↓q_m1, q_om, q_on, q_add, q_mul, q_sub, q_div, q_md, q_ltT, q_ltF, q_leT, q_leF, q_eqT, q_eqF, q_inT, q_inF, q_nn, q_mlt, q_ltm, q_mle, q_lem, q_nem, q_mne]
      exact zW_some ⟨rfl, hfr, h49, hm⟩
    · simp (disch := omega) only [b_later_41, f_at, Nat.le_refl, ei, e.2.2, cntV, ↓reduceIte, o_bind, and_true, true_and, and_false, false_and, or_true, true_or, or_false, false_or, not_true, not_false_eq_true, not_false_iff, ne_eq, Nat.reduceAdd, Nat.reduceMul, Nat.reduceSub, Nat.reduceDiv, Nat.reduceMod, Nat.reduceLT, Nat.reduceLeDiff, Nat.reduceEqDiff, Nat.not_lt, Nat.not_le, q_lit, ↓q_m1, q_om, q_on, q_add, q_mul, q_sub, q_div, q_md, q_ltT, q_ltF, q_leT, q_leF, q_eqT, q_eqF, q_inT, q_inF, q_nn, q_mlt, q_ltm, q_mle, q_lem, q_nem, q_mne]
      exact zW_some ⟨rfl, hfr, h49, hm⟩
  · have hR1 : UR R1 M1 b U := RFr_UR hfr (hm 12 (by omega) (by omega)) hR
    have hp := r_passes (v := 1) (dr := false) (by omega) hR1 hS1 hU hB h49 hxb
    simp (disch := omega) only [b_later_41, ↓reduceIte, o_bind, and_true, true_and, and_false, false_and, or_true, true_or, or_false, false_or, not_true, not_false_eq_true, not_false_iff, ne_eq, Nat.reduceAdd, Nat.reduceMul, Nat.reduceSub, Nat.reduceDiv, Nat.reduceMod, Nat.reduceLT, Nat.reduceLeDiff, Nat.reduceEqDiff, Nat.not_lt, Nat.not_le, q_lit, ↓q_m1, q_om, q_on, q_add, q_mul, q_sub, q_div, q_md, q_ltT, q_ltF, q_leT, q_leF, q_eqT, q_eqF, q_inT, q_inF, q_nn, q_mlt, q_ltm, q_mle, q_lem, q_nem, q_mne]
    refine zW_call hp ?_
    rintro ⟨R2, M2⟩ ⟨p1, -, -, -, p5, p6, p7⟩
    dsimp only at p1 p5 p6 p7 ⊢
    rw [bX_x] at p5
    exact ih (k - (i + 1)) _ (by omega) ⟨i + 1, R2, M2, by omega, rfl, rfl, p1, RFr_tr hfr p6, p5, fun w h1 h2 => by rw [p7 w h1 h2]; exact hm w h1 h2⟩
end
