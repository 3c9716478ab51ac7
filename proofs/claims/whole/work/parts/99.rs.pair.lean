section
variable {b k o tn tl y yt a0 a1 a2 pc u tw : Nat} {V0 V R0 R : zI} {L M M0 : zL} {N : Nat → Nat} {G : zG} {ed t w : Nat → Nat} {tk : Nat → tkT} {T : tkT} {C : List Nat} {nam : Nat → List Nat} {l : List Nat}
theorem k_skipO (hC : CV N G y yt a0 a1 a2 pc tn tl) (hV : TV V0 yt a0 a1 a2 tn tk) (hW : TW tk tn) (h : CS y pc V0 tk tn k C o V) {s : Nat} (hs : s < 256) : zW (f_X5_skipOwn N G y (qi s) V L) (fun r => r.2 = L ∧ ((tO (tk k) s ∧ CS y pc V0 tk tn (k + 1) C o r.1) ∨ (¬ tO (tk k) s ∧ CE y pc V0 tn 1 (fp (tk k)) k C.length r.1))) := by
  unfold f_X5_skipOwn g_X5_skipOwn
  refine zW_is (k_ow hW h hs) ?_
  by_cases e : tO (tk k) s
  · rw [if_pos e]
    refine zW_if0 (by decide) ?_
    refine zW_call (k_take hC hV hW h (by have := e.1; omega)) ?_
    rintro ⟨V1, L1⟩ ⟨rfl, h1⟩
    exact zW_some ⟨rfl, Or.inl ⟨e, h1⟩⟩
  · rw [if_neg e]
    refine zW_if1 (by rfl) ?_
    refine zW_call (k_fh hW h hC.2.2.1.2.2.2.2.1) ?_
    rintro ⟨V1, L1⟩ ⟨rfl, h1⟩
    exact zW_some ⟨rfl, Or.inr ⟨e, h1⟩⟩
theorem k_skipOE {f pl c : Nat} {z : Int32} (h : CE y pc V0 tn f pl k c V) : f_X5_skipOwn N G y z V L = some (V, L) := by
  unfold f_X5_skipOwn g_X5_skipOwn
  rw [k_owE h, o_bind, if_pos (by rfl), k_fhE h]
  rfl
theorem k_num {lo hi : Nat} (hl : lo ≤ 100) (hh : hi ≤ 100) (hC : CV N G y yt a0 a1 a2 pc tn tl) (hV : TV V0 yt a0 a1 a2 tn tk) (hW : TW tk tn) (h : CS y pc V0 tk tn k C o V) : zW (f_X5_readNumber N G y (qi lo) (qi hi) V L) (fun r => r.2.2 = L ∧ (((tk k).1 = 2 ∧ (lo ≤ (tk k).2.1 ∧ (tk k).2.1 ≤ hi) ∧ r.1 = qi (tk k).2.1 ∧ CS y pc V0 tk tn (k + 1) C o r.2.1) ∨ ((tk k).1 = 2 ∧ ¬ (lo ≤ (tk k).2.1 ∧ (tk k).2.1 ≤ hi) ∧ r.1 = 0 ∧ CE y pc V0 tn 4 (tk k).2.2 k C.length r.2.1) ∨ ((tk k).1 ≠ 2 ∧ r.1 = 0 ∧ CE y pc V0 tn 1 (fp (tk k)) k C.length r.2.1))) := by
  have hd := hC.2.2.1.2.2.2.2.1
  have hk0 := h.2.1
  have b2 : V y 2 = qi (tk k).1 := h.2.2.1.2.1
  have b3 : V y 3 = qi (tk k).2.1 := h.2.2.1.2.2.1
  have b4 : V y 4 = qi (tk k).2.2 := h.2.2.1.2.2.2
  obtain ⟨w1, w2, w3, w4, w5, w6, -⟩ := hW.2 k hk0
  unfold f_X5_readNumber g_X5_readNumber
  by_cases e : (tk k).1 = 2
  · have hv := w5 e
    refine zW_if1 (by rw [b2, e]; rfl) ?_
    rw [b3]
    have hbad : ¬ (lo ≤ (tk k).2.1 ∧ (tk k).2.1 ≤ hi) → zW (f_X5_readNumber_29 N G y V L) (fun r => r.2.2 = L ∧ (((tk k).1 = 2 ∧ (lo ≤ (tk k).2.1 ∧ (tk k).2.1 ≤ hi) ∧ r.1 = qi (tk k).2.1 ∧ CS y pc V0 tk tn (k + 1) C o r.2.1) ∨ ((tk k).1 = 2 ∧ ¬ (lo ≤ (tk k).2.1 ∧ (tk k).2.1 ≤ hi) ∧ r.1 = 0 ∧ CE y pc V0 tn 4 (tk k).2.2 k C.length r.2.1) ∨ ((tk k).1 ≠ 2 ∧ r.1 = 0 ∧ CE y pc V0 tn 1 (fp (tk k)) k C.length r.2.1))) := fun hn => by
      unfold f_X5_readNumber_29
      rw [b4]
      refine zW_call (k_fail (f := 4) h hd (by omega)) ?_
      rintro ⟨V1, L1⟩ ⟨rfl, h1⟩
      exact zW_some ⟨rfl, Or.inr (Or.inl ⟨e, hn, rfl, h1⟩)⟩
    by_cases c1 : (tk k).2.1 < lo
    · exact zW_if1 (by rw [q_lt (by omega) (by omega)]; exact c1) (hbad (by omega))
    · refine zW_if0 (by rw [q_lt (by omega) (by omega)]; exact c1) ?_
      by_cases c2 : (tk k).2.1 ≤ hi
      · refine zW_if1 (by rw [q_le (by omega) (by omega)]; exact c2) ?_
        refine zW_call (k_take hC hV hW h (by omega)) ?_
        rintro ⟨V1, L1⟩ ⟨rfl, h1⟩
        exact zW_some ⟨rfl, Or.inl ⟨e, ⟨by omega, c2⟩, rfl, h1⟩⟩
      · exact zW_if0 (by rw [q_le (by omega) (by omega)]; exact c2) (hbad (by omega))
  · refine zW_if0 (by rw [b2, q_lit, q_eq (by omega) (by omega)]; exact e) ?_
    refine zW_call (k_fh hW h hd) ?_
    rintro ⟨V1, L1⟩ ⟨rfl, h1⟩
    exact zW_some ⟨rfl, Or.inr (Or.inr ⟨e, rfl, h1⟩)⟩
theorem k_numE {f pl c : Nat} {z z' : Int32} (h : CE y pc V0 tn f pl k c V) : f_X5_readNumber N G y z z' V L = some (0, V, L) := by
  unfold f_X5_readNumber g_X5_readNumber
  rw [if_neg (by rw [h.2.2.1.2.2.1]; decide), k_fhE h]
  rfl
/-! both sides at once -/
def JK (y pc : Nat) (V0 : zI) (tk : Nat → tkT) (tn : Nat) (R0 : zI) (M0 : zL) (ed : Nat → Nat) (C : List Nat) (k : Nat) (V R : zI) (M : zL) : Prop := CS y pc V0 tk tn k C 0 V ∧ RZ R0 M0 ed tk k R M
def JF (y pc : Nat) (V0 : zI) (tn : Nat) (R0 : zI) (M0 : zL) (V R : zI) (M : zL) : Prop := ∃ f pl, (∃ k c, CE y pc V0 tn f pl k c V ∧ c ≤ 2000) ∧ ZE R0 M0 f pl R M
theorem j_own {i : Nat} {x : Int64} (hi : i < 23) (hx : x = qI (ow i)) (hA : AH t tl ed tk tn) (hT : tpR R0 t tl) (hC : CV N G y yt a0 a1 a2 pc tn tl) (hV : TV V0 yt a0 a1 a2 tn tk) (hW : TW tk tn) (hCl : C.length ≤ 2000) (h : JK y pc V0 tk tn R0 M0 ed C k V R M) : zX (f_X5_skipOwn N G y (qi i) V L) (f_must_ x R M) (fun r r' => r.2 = L ∧ (JK y pc V0 tk tn R0 M0 ed C (k + 1) r.1 r'.1 r'.2 ∨ JF y pc V0 tn R0 M0 r.1 r'.1 r'.2)) := by
  subst hx
  refine zX_W (zW_mono (k_skipO (s := i) hC hV hW h.1 (by omega)) ?_)
  rintro r ⟨e, h1⟩
  refine zW_mono (z_must hi hA hT hW h.1.2.1 h.2) ?_
  rintro r' h2
  refine ⟨e, ?_⟩
  rcases h1 with ⟨p, h1⟩ | ⟨p, h1⟩
  · rcases h2 with ⟨q, h2⟩ | ⟨q, h2⟩
    · exact Or.inl ⟨h1, h2⟩
    · exact absurd p q
  · rcases h2 with ⟨q, h2⟩ | ⟨q, h2⟩
    · exact absurd q p
    · exact Or.inr ⟨_, _, ⟨_, _, h1, hCl⟩, h2⟩
theorem j_ownE {x : Int64} {z : Int32} (h : JF y pc V0 tn R0 M0 V R M) : f_X5_skipOwn N G y z V L = some (V, L) ∧ f_must_ x R M = some (R, M) := by
  obtain ⟨f, pl, ⟨k, c, h1, -⟩, h2⟩ := h
  exact ⟨k_skipOE h1, z_mustE h2⟩
theorem j_num {lo hi : Nat} (hl : lo ≤ 100) (hh : hi ≤ 100) (hA : AH t tl ed tk tn) (hT : tpR R0 t tl) (hC : CV N G y yt a0 a1 a2 pc tn tl) (hV : TV V0 yt a0 a1 a2 tn tk) (hW : TW tk tn) (hCl : C.length ≤ 2000) (h : JK y pc V0 tk tn R0 M0 ed C k V R M) : zX (f_X5_readNumber N G y (qi lo) (qi hi) V L) (f_number (qi lo) (qi hi) R M) (fun r r' => r.2.2 = L ∧ ((∃ v, (lo ≤ v ∧ v ≤ hi) ∧ r.1 = qi v ∧ r'.1 = qi v ∧ JK y pc V0 tk tn R0 M0 ed C (k + 1) r.2.1 r'.2.1 r'.2.2) ∨ (r.1 = 0 ∧ JF y pc V0 tn R0 M0 r.2.1 r'.2.1 r'.2.2))) := by
  refine zX_W (zW_mono (k_num hl hh hC hV hW h.1) ?_)
  rintro r ⟨e, h1⟩
  refine zW_mono (z_num hl hh hA hT hW h.1.2.1 h.2) ?_
  rintro r' h2
  refine ⟨e, ?_⟩
  rcases h1 with ⟨p1, p2, p3, h1⟩ | ⟨p1, p2, p3, h1⟩ | ⟨p1, p3, h1⟩
  · rcases h2 with ⟨q1, q2, q3, h2⟩ | ⟨q1, q2, h2⟩ | ⟨q1, h2⟩
    · exact Or.inl ⟨_, p2, p3, q3, h1, h2⟩
    · exact absurd p2 q2
    · exact absurd p1 q1
  · rcases h2 with ⟨q1, q2, q3, h2⟩ | ⟨q1, q2, h2⟩ | ⟨q1, h2⟩
    · exact absurd q2 p2
    · exact Or.inr ⟨p3, _, _, ⟨_, _, h1, hCl⟩, h2⟩
    · exact absurd p1 q1
  · rcases h2 with ⟨q1, q2, q3, h2⟩ | ⟨q1, q2, h2⟩ | ⟨q1, h2⟩
    · exact absurd q1 p1
    · exact absurd q1 p1
    · exact Or.inr ⟨p3, _, _, ⟨_, _, h1, hCl⟩, h2⟩
theorem j_numE {x x' z z' : Int32} (h : JF y pc V0 tn R0 M0 V R M) : f_X5_readNumber N G y z z' V L = some (0, V, L) ∧ f_number x x' R M = some (0, R, M) := by
  obtain ⟨f, pl, ⟨k, c, h1, -⟩, h2⟩ := h
  exact ⟨k_numE h1, z_numE h2⟩
/-! names -/
theorem gD_lt {l : List Nat} {i : Nat} (h : i < l.length) : l.getD i 0 = l[i] := by
  rw [List.getD_eq_getElem?_getD, List.getElem?_eq_getElem h]; rfl
theorem gD_ge {l : List Nat} {i : Nat} (h : l.length ≤ i) : l.getD i 0 = 0 := by
  rw [List.getD_eq_getElem?_getD, List.getElem?_eq_none h]; rfl
theorem nmC_inj {l l' : List Nat} (h : nmK l) (h' : nmK l') (e : nmC l = nmC l') : l = l' := by
  have g : ∀ k, l.getD k 0 = l'.getD k 0 := fun k => by
    rw [← nmC_at l k h.2, ← nmC_at l' k h'.2, e]
  have hl : l.length = l'.length := by
    rcases Nat.lt_trichotomy l.length l'.length with h1 | h1 | h1
    · have := g l.length
      rw [gD_ge (Nat.le_refl _), gD_lt h1] at this
      have := (h'.2 _ (List.getElem_mem h1)).1
      omega
    · exact h1
    · have := g l'.length
      rw [gD_ge (Nat.le_refl l'.length), gD_lt h1] at this
      have := (h.2 _ (List.getElem_mem h1)).1
      omega
  refine List.ext_getElem hl (fun i h1 h2 => ?_)
  have := g i
  rw [gD_lt h1, gD_lt h2] at this
  exact this
theorem nmR_inj : ∀ (n : Nat) {l l' : List Nat}, l.length = n → (∀ a ∈ l, 1 ≤ a ∧ a ≤ 26) → (∀ a ∈ l', 1 ≤ a ∧ a ≤ 26) → nmR l = nmR l' → l = l' := by
  intro n
  induction n with
  | zero =>
    intro l l' hn h h' e
    have : l = [] := List.eq_nil_of_length_eq_zero hn
    subst this
    rcases List.eq_nil_or_concat l' with h1 | ⟨s, a, h1⟩
    · exact h1.symm
    · subst h1
      rw [List.concat_eq_append, nmR_app] at e
      have : nmR [] = 0 := rfl
      omega
  | succ n ih =>
    intro l l' hn h h' e
    rcases List.eq_nil_or_concat l with h1 | ⟨s, a, h1⟩
    · subst h1; cases hn
    · subst h1
      rw [List.concat_eq_append] at hn h e ⊢
      rcases List.eq_nil_or_concat l' with h2 | ⟨s', a', h2⟩
      · subst h2
        rw [nmR_app] at e
        have : nmR [] = 0 := rfl
        omega
      · subst h2
        rw [List.concat_eq_append] at h' e ⊢
        rw [nmR_app, nmR_app] at e
        have ha := h a (List.mem_append.mpr (Or.inr (List.mem_singleton.mpr rfl)))
        have ha' := h' a' (List.mem_append.mpr (Or.inr (List.mem_singleton.mpr rfl)))
        have e1 : a = a' := by omega
        have e2 : nmR s = nmR s' := by omega
        have hs : s = s' := ih (by rw [List.length_append] at hn; have : s.length + 1 = n + 1 := hn; omega) (fun x hx => h x (List.mem_append.mpr (Or.inl hx))) (fun x hx => h' x (List.mem_append.mpr (Or.inl hx))) e2
        rw [hs, e1]
def fnd (nam : Nat → List Nat) (tw : Nat) (l : List Nat) (z : Int32) : Prop := (z = qm ∧ ∀ j, j < tw → nam j ≠ l) ∨ ∃ j, j < tw ∧ z = qi j ∧ nam j = l ∧ ∀ i, i < j → nam i ≠ l
theorem fnd_u {z z' : Int32} (h : fnd nam tw l z) (h' : fnd nam tw l z') : z = z' := by
  rcases h with ⟨e, h⟩ | ⟨j, hj, e, h1, h2⟩
  · rcases h' with ⟨e', h'⟩ | ⟨j', hj', e', h1', h2'⟩
    · rw [e, e']
    · exact absurd h1' (h j' hj')
  · rcases h' with ⟨e', h'⟩ | ⟨j', hj', e', h1', h2'⟩
    · exact absurd h1 (h' j hj)
    · rcases Nat.lt_trichotomy j j' with c | c | c
      · exact absurd h1 (h2' j c)
      · rw [e, e', c]
      · exact absurd h1' (h2 j' c)
theorem k_tn (hu : unS N G u) (h0 : V u 0 = qi tw) (htw : tw ≤ 6) (hn : ∀ k, k < tw → V (u + 1) k = qi (nmC (nam k))) (hk : ∀ k, k < tw → nmK (nam k)) (hl : nmK l) : zW (f_X9_townNamed N G u (qi (nmC l)) V L) (fun z => fnd nam tw l z) := by
  have hb : nmC l < 2147483648 := by
    have h1 := nmC_b l hl.2
    have h2 : 32 ^ l.length ≤ 32 ^ 6 := Nat.pow_le_pow_right (by decide) hl.1.2
    have h3 : (32 : Nat) ^ 6 = 1073741824 := rfl
    omega
  unfold f_X9_townNamed
  rw [hu.2.1.1, o_bind]
  unfold g_X9_townNamed
  refine zW_lp (I := fun r z => ∃ i : Nat, i ≤ tw ∧ r = tw - i ∧ z = (qi (nmC l), qi i) ∧ ∀ j, j < i → nam j ≠ l) ?_ FU tw _ ⟨0, Nat.zero_le _, rfl, rfl, fun j hj => absurd hj (Nat.not_lt_zero _)⟩ (FU_big (by omega))
  rintro kk r z ⟨i, hi, rfl, rfl, h⟩ ih
  show zW (if (V u 0) ≤ qi i then some (-1) else (if 6 ≤ qi i then some (-1) else if inB (qi i) (N (u + 1)) then (if (V (u + 1) (qi i).toNatClampNeg) = qi (nmC l) then some (qi i) else kk (qi (nmC l), (qi i + 1))) else none)) _
  by_cases e : i = tw
  · subst e
    exact zW_if1 (by rw [h0, q_le (by omega) (by omega)]; exact Nat.le_refl _) (zW_some (Or.inl ⟨rfl, h⟩))
  · refine zW_if0 (by rw [h0, q_le (by omega) (by omega)]; omega) (zW_if0 (by rw [q_lit, q_le (by omega) (by omega)]; omega) (zW_if1 (by rw [hu.2.2.1]; exact q_inP (by omega) (by omega)) ?_))
    rw [q_nn (by omega), hn i (by omega)]
    have hki := hk i (by omega)
    have hbi : nmC (nam i) < 2147483648 := by
      have h1 := nmC_b (nam i) hki.2
      have h2 : 32 ^ (nam i).length ≤ 32 ^ 6 := Nat.pow_le_pow_right (by decide) hki.1.2
      have h3 : (32 : Nat) ^ 6 = 1073741824 := rfl
      omega
    by_cases c : nam i = l
    · exact zW_if1 (by rw [c]) (zW_some (Or.inr ⟨i, by omega, rfl, c, h⟩))
    · refine zW_if0 (by rw [q_eq hbi hb]; exact fun g => c (nmC_inj hki hl g)) ?_
      rw [show (1 : Int32) = qi 1 from rfl, q_add]
      exact ih (tw - (i + 1)) _ (by omega) ⟨i + 1, by omega, rfl, rfl, fun j hj => by
        by_cases ej : j = i
        · rw [ej]; exact c
        · exact h j (by omega)⟩
theorem z_nm (hb2 : b < 2) (h26 : R 0 26 = qi b) (h0 : R 2 b = qi tw) (htw : tw ≤ 6) (hn : ∀ k, k < tw → M 12 (6 * b + k) = qZ (nmR (nam k))) (hk : ∀ k, k < tw → nmK (nam k)) (hl : nmK l) : zW (f_named (qI (nmR l)) R M) (fun r => fnd nam tw l r.1 ∧ r.2 = (R, M)) := by
  have hb := nmR_b hl
  unfold f_named
  refine zW_lp (I := fun r z => ∃ i : Nat, i ≤ tw ∧ r = tw - i ∧ z = (qI (nmR l), qi i, R, M) ∧ ∀ j, j < i → nam j ≠ l) ?_ FU tw _ ⟨0, Nat.zero_le _, rfl, rfl, fun j hj => absurd hj (Nat.not_lt_zero _)⟩ (FU_big (by omega))
  rintro kk r z ⟨i, hi, rfl, rfl, h⟩ ih
  show zW (if inB (R 0 26) 2 then (if (R 2 (R 0 26).toNatClampNeg) ≤ qi i then some ((-1), R, M) else if inB (((6 : Int32) * (R 0 26)) + qi i) 12 then (if (lg_cmp (M 12 (((6 : Int32) * (R 0 26)) + qi i).toNatClampNeg) (qI (nmR l))) = 0 then some (qi i, R, M) else kk (qI (nmR l), (qi i + 1), R, M)) else none) else none) _
  refine zW_if1 (by rw [h26]; exact q_inP hb2 (by omega)) ?_
  by_cases e : i = tw
  · subst e
    exact zW_if1 (by rw [h26, q_nn (by omega), h0, q_le (by omega) (by omega)]; exact Nat.le_refl _) (zW_some ⟨Or.inl ⟨rfl, h⟩, rfl⟩)
  · have e6 : (6 : Int32) * R 0 26 + qi i = qi (6 * b + i) := by rw [h26, q_lit, q_mul, q_add]
    refine zW_if0 (by rw [h26, q_nn (by omega), h0, q_le (by omega) (by omega)]; omega) (zW_if1 (by rw [e6]; exact q_inP (by omega) (by omega)) ?_)
    have hM : M 12 ((6 : Int32) * R 0 26 + qi i).toNatClampNeg = qI (nmR (nam i)) := by rw [e6, q_nn (by omega), hn i (by omega), Q_z]
    have hki := hk i (by omega)
    have hbi := nmR_b hki
    by_cases c : nam i = l
    · exact zW_if1 (by rw [hM, c, lg_cmp_eq]) (zW_some ⟨Or.inr ⟨i, by omega, rfl, c, h⟩, rfl⟩)
    · refine zW_if0 (by rw [hM, lg_cmp_eq, Q_eq (by omega) (by omega)]; exact fun g => c (nmR_inj _ rfl hki.2 hl.2 g)) ?_
      rw [show (1 : Int32) = qi 1 from rfl, q_add]
      exact ih (tw - (i + 1)) _ (by omega) ⟨i + 1, by omega, rfl, rfl, fun j hj => by
        by_cases ej : j = i
        · rw [ej]; exact c
        · exact h j (by omega)⟩
end
