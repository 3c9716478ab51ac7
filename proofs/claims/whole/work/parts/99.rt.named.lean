section
variable {b k o tn tl y yt a0 a1 a2 pc u tw : Nat} {V0 V R0 R : zI} {L M M0 : zL} {N : Nat → Nat} {G : zG} {ed t w : Nat → Nat} {tk : Nat → tkT} {T : tkT} {C : List Nat} {nam : Nat → List Nat} {l : List Nat}
def wrD (fi : Option Nat) (ca : Bool) (w : Nat → Nat) (j : Nat) : Prop := match fi with
  | none => False
  | some a => j = a ∨ (ca = true ∧ 0 < w (6 * a + j))
def CU (V : zI) (u tw : Nat) (nam : Nat → List Nat) (w : Nat → Nat) : Prop := (V u 0 = qi tw ∧ tw ≤ 6) ∧ (∀ k, k < tw → V (u + 1) k = qi (nmC (nam k)) ∧ nmK (nam k)) ∧ ∀ k, k < 36 → V (u + 3) k = qi (w k) ∧ w k ≤ 9
theorem k_isT {a : Nat} (h0 : V u 0 = qi tw) (htw : tw ≤ 6) (ha : a < tw) : f_X9_isTown N G u (qi a) V L = some 1 := by
  unfold f_X9_isTown g_X9_isTown
  rw [if_neg (by rw [q_lit, q_lt (by omega) (by omega)]; omega), if_neg (by rw [h0, q_le (by omega) (by omega)]; omega), if_neg (by rw [q_lit, q_le (by omega) (by omega)]; omega)]
theorem k_isP {a j : Nat} (h0 : V u 0 = qi tw) (htw : tw ≤ 6) (ha : a < tw) (hj : j < tw) (haj : a ≠ j) : f_X9_isPair N G u (qi a) (qi j) V L = some 1 := by
  unfold f_X9_isPair g_X9_isPair
  rw [k_isT h0 htw ha, o_bind, if_neg (by decide), k_isT h0 htw hj, o_bind, if_neg (by decide), if_neg (by rw [q_eq (by omega) (by omega)]; exact haj)]
set_option maxHeartbeats 2000000 in
theorem k_named {fi : Option Nat} {ca : Bool} {x1 x2 : Int32} (hC : CV N G y yt a0 a1 a2 pc tn tl) (hV : TV V0 yt a0 a1 a2 tn tk) (hW : TW tk tn) (hu : unS N G u) (hy5 : G y 5 = some u) (hU : CU V u tw nam w) (hx1 : (fi = none ∧ x1 = qm) ∨ ∃ a, fi = some a ∧ a < tw ∧ x1 = qi a) (hx2 : x2 = (if ca then 1 else 0)) (h : CS y pc V0 tk tn k C 0 V) (h3 : (tk k).1 = 3) (hl : nmK l) (hval : (tk k).2.1 = nmC l) {z : Int32} (hz : fnd nam tw l z) : (∀ j, j < tw → z = qi j → ¬ wrD fi ca w j → zW (f_X5_readNamed N G y x1 x2 V L) (fun r => r.2.2 = L ∧ r.1 = qi j ∧ CS y pc V0 tk tn (k + 1) C 0 r.2.1)) ∧ ((z = qm ∨ ∃ j, j < tw ∧ z = qi j ∧ wrD fi ca w j) → zW (f_X5_readNamed N G y x1 x2 V L) (fun r => r.2.2 = L ∧ CE y pc V0 tn 3 (tk k).2.2 k C.length r.2.1)) := by
  obtain ⟨⟨u0, u1⟩, u2, u3⟩ := hU
  have hd := hC.2.2.1.2.2.2.2.1
  have hk0 := h.2.1
  have b2 : V y 2 = qi (tk k).1 := h.2.2.1.2.1
  have b3 : V y 3 = qi (tk k).2.1 := h.2.2.1.2.2.1
  have b4 : V y 4 = qi (tk k).2.2 := h.2.2.1.2.2.2
  have htn : f_X9_townNamed N G u (V y 3) V L = some z := by
    rw [b3, hval]
    obtain ⟨z', e, hz'⟩ := k_tn (L := L) hu u0 u1 (fun k hk => (u2 k hk).1) (fun k hk => (u2 k hk).2) hl
    rw [e, fnd_u hz' hz]
  have h88 : ∀ x3 : Int32, zW (f_X5_readNamed_88 N G y u (u + 3) x3 0 V L) (fun r => r.2.2 = L ∧ r.1 = x3 ∧ CS y pc V0 tk tn (k + 1) C 0 r.2.1) := fun x3 => by
    unfold f_X5_readNamed_88
    refine zW_if1 (by rfl) ?_
    refine zW_call (k_take hC hV hW h (by omega)) ?_
    rintro ⟨V1, L1⟩ ⟨rfl, h1⟩
    exact zW_some ⟨rfl, rfl, h1⟩
  have h88b : ∀ x3 : Int32, zW (f_X5_readNamed_88 N G y u (u + 3) x3 1 V L) (fun r => r.2.2 = L ∧ CE y pc V0 tn 3 (tk k).2.2 k C.length r.2.1) := fun x3 => by
    unfold f_X5_readNamed_88
    refine zW_if0 (by decide) ?_
    rw [b4]
    refine zW_call (k_fail (f := 3) h hd (by omega)) ?_
    rintro ⟨V1, L1⟩ ⟨rfl, h1⟩
    exact zW_some ⟨rfl, h1⟩
  have h41 : ∀ x3 : Int32, f_X5_readNamed_41 N G y u (u + 3) x1 x2 x3 1 V L = f_X5_readNamed_88 N G y u (u + 3) x3 1 V L := fun x3 => by
    unfold f_X5_readNamed_41
    rw [if_neg (by decide)]
  unfold f_X5_readNamed
  rw [hy5, o_bind, hu.2.1.2.2, o_bind]
  unfold g_X5_readNamed
  rw [if_pos (show V y 2 = 3 by rw [b2, h3]; rfl), htn, o_bind]
  constructor
  · intro j hj hzj hnw
    subst hzj
    rw [if_neg (show ¬ qi j = -1 from q_nem (by omega))]
    have hne : ¬ qi j = x1 := by
      rcases hx1 with ⟨-, e⟩ | ⟨a, e1, e2, e⟩
      · rw [e]; exact q_nem (by omega)
      · rw [e, q_eq (by omega) (by omega)]
        subst e1
        exact fun g => hnw (Or.inl g)
    rw [if_neg hne]
    unfold f_X5_readNamed_41
    refine zW_if1 (by rfl) ?_
    cases ca with
    | false => exact zW_if1 (by rw [hx2]; rfl) (h88 _)
    | true =>
      refine zW_if0 (by rw [hx2]; decide) ?_
      rcases hx1 with ⟨e0, e⟩ | ⟨a, e1, e2, e⟩
      · subst e
        have : f_X9_isPair N G u qm (qi j) V L = some 0 := by
          unfold f_X9_isPair g_X9_isPair f_X9_isTown g_X9_isTown
          rw [if_pos (by decide), o_bind, if_pos (by rfl)]
        rw [this, o_bind]
        exact zW_if1 (by rfl) (h88 _)
      · subst e1 e
        have haj : a ≠ j := fun g => hnw (Or.inl g.symm)
        have hw0 : w (6 * a + j) = 0 := by
          rcases Nat.eq_zero_or_pos (w (6 * a + j)) with g | g
          · exact g
          · exact absurd (Or.inr ⟨rfl, g⟩) hnw
        rw [k_isP u0 u1 e2 hj haj, o_bind]
        refine zW_if0 (by decide) ?_
        rw [show (6 : Int32) = qi 6 from rfl, q_mul, q_add, show a * 6 + j = 6 * a + j by omega]
        refine zW_if1 (by rw [hu.2.2.2.2]; exact q_inP (by omega) (by omega)) ?_
        rw [q_nn (by omega), (u3 (6 * a + j) (by omega)).1, hw0]
        exact zW_if1 le00 (h88 _)
  · intro hb
    rcases hb with e | ⟨j, hj, hzj, hwr⟩
    · subst e
      rw [if_pos (by rfl)]
      unfold f_X5_readNamed_36
      rw [h41]
      exact h88b _
    · subst hzj
      rw [if_neg (show ¬ qi j = -1 from q_nem (by omega))]
      rcases hx1 with ⟨e0, e⟩ | ⟨a, e1, e2, e⟩
      · subst e0
        exact absurd hwr (fun h => h)
      · subst e1 e
        by_cases haj : j = a
        · rw [if_pos (by rw [haj])]
          unfold f_X5_readNamed_36
          rw [h41]
          exact h88b _
        · have hwr2 : ca = true ∧ 0 < w (6 * a + j) := by
            rcases hwr with g | g
            · exact absurd g haj
            · exact g
          obtain ⟨rfl, hpos⟩ := hwr2
          have hw9 := (u3 (6 * a + j) (by omega)).2
          rw [if_neg (by rw [q_eq (by omega) (by omega)]; exact haj)]
          unfold f_X5_readNamed_41
          refine zW_if1 (by rfl) (zW_if0 (by rw [hx2]; decide) ?_)
          rw [k_isP u0 u1 e2 hj (fun g => haj g.symm), o_bind]
          refine zW_if0 (by decide) ?_
          rw [show (6 : Int32) = qi 6 from rfl, q_mul, q_add, show a * 6 + j = 6 * a + j by omega]
          refine zW_if1 (by rw [hu.2.2.2.2]; exact q_inP (by omega) (by omega)) ?_
          rw [q_nn (by omega), (u3 (6 * a + j) (by omega)).1]
          exact zW_if0 (by rw [q_lit, q_le (by omega) (by omega)]; omega) (h88b _)
theorem k_named1 {x1 x2 : Int32} (hC : CV N G y yt a0 a1 a2 pc tn tl) (hW : TW tk tn) (hu : unS N G u) (hy5 : G y 5 = some u) (h : CS y pc V0 tk tn k C 0 V) (h3 : (tk k).1 ≠ 3) : zW (f_X5_readNamed N G y x1 x2 V L) (fun r => r.2.2 = L ∧ CE y pc V0 tn 1 (fp (tk k)) k C.length r.2.1) := by
  have b2 : V y 2 = qi (tk k).1 := h.2.2.1.2.1
  have hb := (hW.2 k h.2.1).1
  unfold f_X5_readNamed
  rw [hy5, o_bind, hu.2.1.2.2, o_bind]
  unfold g_X5_readNamed
  refine zW_if0 (by rw [b2, q_lit, q_eq (by omega) (by omega)]; exact h3) ?_
  refine zW_call (k_fh hW h hC.2.2.1.2.2.2.2.1) ?_
  rintro ⟨V1, L1⟩ ⟨rfl, h1⟩
  exact zW_some ⟨rfl, h1⟩
theorem k_namedE {f pl c : Nat} {x1 x2 : Int32} (hu : unS N G u) (hy5 : G y 5 = some u) (h : CE y pc V0 tn f pl k c V) : f_X5_readNamed N G y x1 x2 V L = some (-1, V, L) := by
  unfold f_X5_readNamed
  rw [hy5, o_bind, hu.2.1.2.2, o_bind]
  unfold g_X5_readNamed
  rw [if_neg (by rw [h.2.2.1.2.2.1]; decide), k_fhE h]
  rfl
/-! the reference's -/
theorem z_kE {f pl : Nat} {z but : Int32} (h : ZE R0 M0 f pl R M) : zW (f_knownBut_60 but z R M) (fun r => r = (0, R, M)) := by
  unfold f_knownBut_60
  refine zW_if0 (ZE_gt h).2 ?_
  unfold f_knownBut_90
  refine zW_if0 (ZE_gt h).2 ?_
  unfold f_knownBut_101
  exact zW_if0 (ZE_gt h).1 (zW_some rfl)
theorem z_k41E {f pl : Nat} {but : Int32} (h : ZE R0 M0 f pl R M) : zW (f_knownBut_41 but R M) (fun r => r = (0, R, M)) := by
  unfold f_knownBut_41
  exact zW_if0 (ZE_gt h).1 (z_kE h)
theorem z_knownE {f pl : Nat} {but : Int32} (h : ZE R0 M0 f pl R M) : f_knownBut but R M = some (0, R, M) := by
  unfold f_knownBut
  rw [z_lexE h, o_bind, if_neg (ZE_gt h).1]
theorem z_known1 {but : Int32} (h : RZ R0 M0 ed tk k R M) (h3 : (tk k).1 ≠ 3) : zW (f_knownBut but R M) (fun r => r.1 = 0 ∧ ZE R0 M0 1 (fp (tk k)) r.2.1 r.2.2) := by
  have hT := h.2.2.2
  unfold f_knownBut
  by_cases h5 : (tk k).1 = 5
  · rw [z_lex5 h h5, o_bind]
    have hz := ZE_mk (f := 1) (pl := fp (tk k)) h (by omega)
    exact zW_if0 (ZE_gt hz).1 (zW_some ⟨rfl, hz⟩)
  · rw [tk_lex0 hT h5, o_bind]
    dsimp only
    refine zW_if1 (by rw [h.2.1.1]; exact le00) ?_
    have hz := ZE_mk (f := 1) (pl := (tk k).2.2) h (by omega)
    have hz' : ZE R0 M0 1 (fp (tk k)) (RB R 1 (tk k).2.2) M := by unfold fp; rw [if_neg h5]; exact hz
    have h32 : zW (f_knownBut_32 but R M) (fun r => r.1 = 0 ∧ ZE R0 M0 1 (fp (tk k)) r.2.1 r.2.2) := by
      unfold f_knownBut_32
      rw [show (1 : Int32) = qi 1 from rfl, z_blame h, o_bind]
      refine zW_mono (z_k41E hz) ?_
      rintro ⟨r1, r2, r3⟩ e
      cases e
      exact ⟨rfl, hz'⟩
    rcases hT.2.2 with ⟨c, a, -⟩ | ⟨c, a, -⟩ | ⟨c, a, -⟩ | ⟨c, -⟩ | ⟨c, a, -, hv, a7⟩ | ⟨c, -⟩
    · exact zW_if0 (by rw [a]; decide) h32
    · exact zW_if0 (by rw [a]; decide) h32
    · exact zW_if0 (by rw [a]; decide) h32
    · exact absurd c h3
    · refine zW_if1 (by rw [a]; rfl) ?_
      rcases z_own (R := R) (M := M) (M 0 7) with ⟨e, -⟩ | ⟨-, e⟩
      · refine zW_is e ?_
        exact zW_if0 (show ¬ (1 : Int32) = 0 by decide) h32
      · exact absurd a7 (e _ hv)
    · exact absurd c h5
theorem z_known (hb2 : b < 2) (hA : AH t tl ed tk tn) (hT : tpR R0 t tl) (hW : TW tk tn) (hk : k < tn) (h26 : R0 0 26 = qi b) (h2b : R0 2 b = qi tw) (htw : tw ≤ 6) (hn : ∀ k, k < tw → M0 12 (6 * b + k) = qZ (nmR (nam k))) (hnk : ∀ k, k < tw → nmK (nam k)) {wr : Nat → Prop} {but : Int32} (hbut : ∀ j, j < tw → (wr j → f_has2 but (qi j) = some 1) ∧ (¬ wr j → f_has2 but (qi j) = some 0)) (h : RZ R0 M0 ed tk k R M) (h3 : (tk k).1 = 3) (hl : nmK l) (h7 : M 0 7 = qI (nmR l)) (hno : ∀ i, i < 23 → nmR l ≠ ow i) {z : Int32} (hz : fnd nam tw l z) : (∀ j, j < tw → z = qi j → ¬ wr j → zW (f_knownBut but R M) (fun r => r.1 = qi j ∧ RZ R0 M0 ed tk (k + 1) r.2.1 r.2.2)) ∧ ((z = qm ∨ ∃ j, j < tw ∧ z = qi j ∧ wr j) → zW (f_knownBut but R M) (fun r => r.1 = 0 ∧ ZE R0 M0 3 (tk k).2.2 r.2.1 r.2.2)) := by
  have hTk := h.2.2.2
  have hF := h.1
  have h5 : (tk k).1 ≠ 5 := by omega
  have hb := nmR_b hl
  have e26 : R 0 26 = qi b := (hF.1 26 (by omega) (by omega) (by omega) (by omega) (by omega) (by omega) (by omega)).trans h26
  have hnm : f_named (M 0 7) R M = some (z, R, M) := by
    rw [h7]
    obtain ⟨⟨z', R', M'⟩, e, hz', e'⟩ := z_nm (R := R) (M := M) hb2 e26 (by rw [hF.2.1 2 (by omega)]; exact h2b) htw (fun k hk => by rw [hF.2.2.2 12 (by omega)]; exact hn k hk) hnk hl
    cases e'
    rw [e, fnd_u (show fnd nam tw l z' from hz') hz]
  have hown : f_isOwn (M 0 7) R M = some (0, R, M) := by
    rcases z_own (R := R) (M := M) (M 0 7) with ⟨-, i, hi, e⟩ | ⟨e, -⟩
    · rw [h7, Q_eq (by omega) (ow_b i hi)] at e
      exact absurd e (hno i hi)
    · exact e
  have e3 : R 0 3 = qi 1 := by
    rcases hTk.2.2 with ⟨c, a, -⟩ | ⟨c, a, -⟩ | ⟨c, a, -⟩ | ⟨c, a, -⟩ | ⟨c, a, -⟩ | ⟨c, -⟩
    · omega
    · omega
    · omega
    · exact a
    · omega
    · omega
  have h81 : ∀ z : Int32, zW (f_knownBut_81 z R M) (fun r => r.1 = 0 ∧ ZE R0 M0 3 (tk k).2.2 r.2.1 r.2.2) := fun z => by
    unfold f_knownBut_81
    rw [show (3 : Int32) = qi 3 from rfl, z_blame h, o_bind]
    have hz := ZE_mk (f := 3) (pl := (tk k).2.2) h (by omega)
    unfold f_knownBut_90
    refine zW_if0 (ZE_gt hz).2 ?_
    unfold f_knownBut_101
    exact zW_if0 (ZE_gt hz).1 (zW_some ⟨rfl, hz⟩)
  unfold f_knownBut
  rw [tk_lex0 hTk h5, o_bind]
  dsimp only
  rw [if_pos (show R 0 8 ≤ 0 by rw [h.2.1.1]; exact le00), if_pos (show R 0 3 = 1 from e3), hown, o_bind, if_pos (show (0 : Int32) = 0 from rfl)]
  dsimp only
  unfold f_knownBut_41
  rw [if_pos (show R 0 8 ≤ 0 by rw [h.2.1.1]; exact le00), hnm, o_bind]
  dsimp only
  unfold f_knownBut_60
  rw [if_pos (show R 0 8 = 0 from h.2.1.1)]
  constructor
  · intro j hj hzj hnw
    subst hzj
    rw [if_neg (show ¬ qi j = -1 from q_nem (by omega)), (hbut j hj).2 hnw, o_bind, if_pos (by rfl)]
    unfold f_knownBut_90
    refine zW_if1 h.2.1.1 ?_
    refine zW_call (z_ahead hA hT (hW.1 k hk (by omega)) h) ?_
    rintro ⟨R1, M1⟩ h1
    unfold f_knownBut_101
    exact zW_if1 (by rw [h1.2.1.1]; exact le00) (zW_some ⟨rfl, h1⟩)
  · intro hb
    rcases hb with e | ⟨j, hj, hzj, hwr⟩
    · subst e
      rw [if_pos (by rfl)]
      exact h81 _
    · subst hzj
      rw [if_neg (show ¬ qi j = -1 from q_nem (by omega)), (hbut j hj).1 hwr, o_bind, if_neg (by decide)]
      exact h81 _
theorem j_named {fi : Option Nat} {ca : Bool} {x1 x2 but : Int32} (hA : AH t tl ed tk tn) (hT : tpR R0 t tl) (hC : CV N G y yt a0 a1 a2 pc tn tl) (hV : TV V0 yt a0 a1 a2 tn tk) (hW : TW tk tn) (hCl : C.length ≤ 2000) (hu : unS N G u) (hy5 : G y 5 = some u) (hU : CU V u tw nam w) (hb2 : b < 2) (h26 : R0 0 26 = qi b) (h2b : R0 2 b = qi tw) (hn : ∀ k, k < tw → M0 12 (6 * b + k) = qZ (nmR (nam k))) (hbut : ∀ j, j < tw → (wrD fi ca w j → f_has2 but (qi j) = some 1) ∧ (¬ wrD fi ca w j → f_has2 but (qi j) = some 0)) (hx1 : (fi = none ∧ x1 = qm) ∨ ∃ a, fi = some a ∧ a < tw ∧ x1 = qi a) (hx2 : x2 = (if ca then 1 else 0)) (h : JK y pc V0 tk tn R0 M0 ed C k V R M) : zX (f_X5_readNamed N G y x1 x2 V L) (f_knownBut but R M) (fun r r' => r.2.2 = L ∧ ((∃ j, j < tw ∧ ¬ wrD fi ca w j ∧ r.1 = qi j ∧ r'.1 = qi j ∧ JK y pc V0 tk tn R0 M0 ed C (k + 1) r.2.1 r'.2.1 r'.2.2) ∨ (r'.1 = 0 ∧ JF y pc V0 tn R0 M0 r.2.1 r'.2.1 r'.2.2))) := by
  by_cases h3 : (tk k).1 = 3
  · have hh := h.2.2.2.2.2.2
    have hl : ∃ l, nmK l ∧ (tk k).2.1 = nmC l ∧ M 0 7 = qI (nmR l) ∧ ∀ i, i < 23 → nmR l ≠ ow i := by
      rcases hh with ⟨c, -⟩ | ⟨c, -⟩ | ⟨c, -⟩ | ⟨-, -, -, c⟩ | ⟨c, -⟩ | ⟨c, -⟩
      · omega
      · omega
      · omega
      · exact c
      · omega
      · omega
    obtain ⟨l, hl, hval, h7, hno⟩ := hl
    obtain ⟨z, -, hz⟩ := k_tn (L := L) hu hU.1.1 hU.1.2 (fun k hk => (hU.2.1 k hk).1) (fun k hk => (hU.2.1 k hk).2) hl
    obtain ⟨p1, p2⟩ := k_named (L := L) hC hV hW hu hy5 hU hx1 hx2 h.1 h3 hl hval hz
    obtain ⟨q1, q2⟩ := z_known hb2 hA hT hW h.1.2.1 h26 h2b hU.1.2 hn (fun k hk => (hU.2.1 k hk).2) hbut h.2 h3 hl h7 hno hz
    have hbad : (z = qm ∨ ∃ j, j < tw ∧ z = qi j ∧ wrD fi ca w j) → zX (f_X5_readNamed N G y x1 x2 V L) (f_knownBut but R M) (fun r r' => r.2.2 = L ∧ ((∃ j, j < tw ∧ ¬ wrD fi ca w j ∧ r.1 = qi j ∧ r'.1 = qi j ∧ JK y pc V0 tk tn R0 M0 ed C (k + 1) r.2.1 r'.2.1 r'.2.2) ∨ (r'.1 = 0 ∧ JF y pc V0 tn R0 M0 r.2.1 r'.2.1 r'.2.2))) := fun hb => by
      refine zX_W (zW_mono (p2 hb) ?_)
      rintro r ⟨e, h1⟩
      refine zW_mono (q2 hb) ?_
      rintro r' ⟨e2, h2⟩
      exact ⟨e, Or.inr ⟨e2, _, _, ⟨_, _, h1, hCl⟩, h2⟩⟩
    rcases hz with ⟨e, -⟩ | ⟨j, hj, e, -⟩
    · exact hbad (Or.inl e)
    · by_cases hwr : wrD fi ca w j
      · exact hbad (Or.inr ⟨j, hj, e, hwr⟩)
      · refine zX_W (zW_mono (p1 j hj e hwr) ?_)
        rintro r ⟨e1, e2, h1⟩
        refine zW_mono (q1 j hj e hwr) ?_
        rintro r' ⟨e3, h2⟩
        exact ⟨e1, Or.inl ⟨j, hj, hwr, e2, e3, h1, h2⟩⟩
  · refine zX_W (zW_mono (k_named1 hC hW hu hy5 h.1 h3) ?_)
    rintro r ⟨e, h1⟩
    refine zW_mono (z_known1 h.2 h3) ?_
    rintro r' ⟨e2, h2⟩
    exact ⟨e, Or.inr ⟨e2, _, _, ⟨_, _, h1, hCl⟩, h2⟩⟩
theorem j_namedE {x1 x2 but : Int32} (hu : unS N G u) (hy5 : G y 5 = some u) (h : JF y pc V0 tn R0 M0 V R M) : f_X5_readNamed N G y x1 x2 V L = some (-1, V, L) ∧ f_knownBut but R M = some (0, R, M) := by
  obtain ⟨f, pl, ⟨k, c, h1, -⟩, h2⟩ := h
  exact ⟨k_namedE hu hy5 h1, z_knownE h2⟩
end
