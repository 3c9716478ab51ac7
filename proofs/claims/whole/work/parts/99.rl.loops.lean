section
variable {b fr k o tn tl wo y yt a0 a1 a2 pc H B lv off : Nat} {bo : Bool} {V0 V R0 R R1 : zI} {L M M0 M1 : zL} {N : Nat → Nat} {G : zG} {ed t : Nat → Nat} {tk : Nat → tkT} {T : tkT} {C O P : List Nat} {F : T_GR}
def prS (x ph bg : Nat) (T : tkT) : Prop := ph < 2 ∧ (tst x → bg = 1 → ¬ tO T 19 ∧ ¬ tS T 91 ∧ ¬ tO T 20)
def prC (x ph bg : Nat) (T : tkT) : Prop := (tst x ∧ ph = 0) ∧ (bg = 1 → ¬ tO T 19 ∧ ¬ tS T 91 ∧ ¬ tO T 20)
def prT (x ph bg : Nat) (_ : tkT) : Prop := (tst x ∧ ph = 0) ∧ bg = 1
def qP (ph ph' : Nat) (_ : tkT) : Prop := ph' = ph
def opM (T : tkT) (cc : Nat) : Prop := tS T (arS cc) ∧ (cc = 7 ∨ cc = 8 ∨ cc = 9)
def opA (T : tkT) (cc : Nat) : Prop := tS T (arS cc) ∧ (cc = 5 ∨ cc = 6)
def opD (T : tkT) (cc : Nat) : Prop := tO T 18 ∧ cc = 13
def opR (T : tkT) (cc : Nat) : Prop := tO T 17 ∧ cc = 12
def qT (_ ph' : Nat) (T : tkT) : Prop := (ph' = 1 ∧ ¬ ari T) ∨ ph' = 2
abbrev qM (ph ph' : Nat) (T : tkT) : Prop := qP ph ph' T ∧ ∀ cc, ¬ opM T cc
abbrev qA (ph ph' : Nat) (T : tkT) : Prop := qM ph ph' T ∧ ∀ cc, ¬ opA T cc
abbrev qD (ph ph' : Nat) (T : tkT) : Prop := qT ph ph' T ∧ ∀ cc, ¬ opD T cc
abbrev qR (ph ph' : Nat) (T : tkT) : Prop := qD ph ph' T ∧ ∀ cc, ¬ opR T cc
theorem qA_ari {ph ph' : Nat} (h : qA ph ph' T) : ph' = ph ∧ ¬ ari T := by
  obtain ⟨⟨h1, h2⟩, h3⟩ := h
  refine ⟨h1, ?_⟩
  rintro ⟨a, g⟩
  rcases g with g | g | g | g | g
  · exact h3 5 ⟨⟨a, g⟩, Or.inl rfl⟩
  · exact h3 6 ⟨⟨a, g⟩, Or.inr rfl⟩
  · exact h2 7 ⟨⟨a, g⟩, Or.inl rfl⟩
  · exact h2 8 ⟨⟨a, g⟩, Or.inr (Or.inl rfl)⟩
  · exact h2 9 ⟨⟨a, g⟩, Or.inr (Or.inr rfl)⟩
theorem qR_cnj {ph ph' : Nat} (h : qR ph ph' T) : qT ph ph' T ∧ ¬ cnj T := by
  obtain ⟨⟨h1, h2⟩, h3⟩ := h
  refine ⟨h1, ?_⟩
  rintro ⟨a, g⟩
  rcases g with g | g
  · exact h2 13 ⟨⟨a, g⟩, rfl⟩
  · exact h3 12 ⟨⟨a, g⟩, rfl⟩
theorem ar_go {cc lv x ph pr bs : Nat} {Fr : List fmT} {C2 : List Nat} {k2 : Nat} (hA : AH t tl ed tk tn) (hE : EV b wo R0 t tl) (hC : CV N G y yt a0 a1 a2 pc tn tl) (hV : TV V0 yt a0 a1 a2 tn tk) (hW : TW tk tn) (ho : o ≤ 7) (hc : 5 ≤ cc ∧ cc ≤ 9) (hlv : rk cc = lv) (hl4 : 4 ≤ lv) (hs : tS (tk k2) (arS cc)) (hph : ph < 2) (hx : x < 100) (h : RS b fr R0 M0 ed tk k2 C2 (P ++ O) (o + nots P) 1 ((x, ph, 0, pr, bs) :: Fr) R M) (hP : pnd lv P) (hk : k2 + 1 < tn) (hlow : low lv bs O) (hbs : bs ≤ O.length) (hln : P.length + O.length < 500) (hC2 : fr + C2.length + P.length ≤ 1600) (hF : Fr.length < 20) : ∃ R3 M3, rg 1 (1, R, M) (1, R3, M3) ∧ RS b fr R0 M0 ed tk (k2 + 1) (C2 ++ P) (cc :: O) o 0 ((x, ph, 0, pr, bs) :: Fr) R3 M3 := by
  have hn := nots_0 (pnd_le hP hl4)
  rw [hn, Nat.add_zero] at h
  exact st_goK h.2.2.1.2.2.2.2.2.2 (g_ari hA hE hk hc hs hph hx (by rw [hlv]; exact hP) (by rw [hlv]; exact hlow) hbs hln hC2 hF (by omega) h)
set_option maxHeartbeats 2000000 in
theorem x_product (hA : AH t tl ed tk tn) (hE : EV b wo R0 t tl) (hC : CV N G y yt a0 a1 a2 pc tn tl) (hV : TV V0 yt a0 a1 a2 tn tk) (hW : TW tk tn) (ho : o ≤ 7) (hS : SX b fr R0 M0 ed tk y pc V0 tn N G L F.2.2.2.2.2.2.1 7 7 5 false (8 * o + 5) 0 prS qP o) : SX b fr R0 M0 ed tk y pc V0 tn N G L (f_X5_readProduct F) 6 6 4 false (8 * o + 4) 1 prS qM o := by
  refine x_loop (op := opM) (bg3 := 0) (f := F.2.2.2.2.2.2.1) (bd := b_X5_readProduct_6 F N G y) hA hE hC hV hW ho (by omega) (by omega) (by omega) (fun V => rfl) (by omega) hS (by omega) ?_ ?_ ?_ ?_ ?_ ?_ ?_ (by omega)
  · rintro T cc ⟨h1, h2⟩
    refine ⟨by have := h1.1; omega, ?_⟩
    rcases h2 with rfl | rfl | rfl
    all_goals decide
  · intro kk i V2 k2 C2 h hn hi
    have n42 : ¬ tS (tk k2) 42 := fun g => hn 7 ⟨g, Or.inl rfl⟩
    have n47 : ¬ tS (tk k2) 47 := fun g => hn 8 ⟨g, Or.inr (Or.inl rfl)⟩
    have n37 : ¬ tS (tk k2) 37 := fun g => hn 9 ⟨g, Or.inr (Or.inr rfl)⟩
    show (if (1600 : Int32) ≤ qi i then some (V2, L) else (f_X5_isSign N G y 42 V2 L).bind _) = _
    by_cases hi : (1600 : Int32) ≤ qi i
    · rw [if_pos hi]
    · rw [if_neg hi, show (42 : Int32) = qi 42 from rfl, k_sg hW h (by omega), if_neg n42, o_bind, if_pos (by rfl), show (47 : Int32) = qi 47 from rfl, k_sg hW h (by omega), if_neg n47, o_bind, if_pos (by rfl), show (37 : Int32) = qi 37 from rfl, k_sg hW h (by omega), if_neg n37, o_bind, if_pos (by rfl)]
  · intro kk i V2 g pl k2 c2 h hi
    show (if (1600 : Int32) ≤ qi i then some (V2, L) else (f_X5_isSign N G y 42 V2 L).bind _) = _
    by_cases hi : (1600 : Int32) ≤ qi i
    · rw [if_pos hi]
    · rw [if_neg hi, k_sgE h, o_bind, if_pos (by rfl), k_sgE h, o_bind, if_pos (by rfl), k_sgE h, o_bind, if_pos (by rfl)]
  · rintro kk i V2 k2 C2 cc h ⟨h1, h2⟩ hi
    show (if (1600 : Int32) ≤ qi i then some (V2, L) else (f_X5_isSign N G y 42 V2 L).bind _) = _
    rw [if_neg (by rw [q_lit, q_le (by omega) (by omega)]; omega)]
    have s2 := h1.2
    rcases h2 with rfl | rfl | rfl
    · rw [show (42 : Int32) = qi 42 from rfl, k_sg hW h (by omega), if_pos (show tS (tk k2) 42 from h1), o_bind, if_neg (by decide)]
      unfold f_X5_readProduct_40
      rw [show (42 : Int32) = qi 42 from rfl, k_sg hW h (by omega), if_pos (show tS (tk k2) 42 from h1), o_bind, if_neg (by decide)]
      rfl
    · have n42 : ¬ tS (tk k2) 42 := fun g => absurd (s2.symm.trans g.2) (by decide)
      rw [show (42 : Int32) = qi 42 from rfl, k_sg hW h (by omega), if_neg n42, o_bind, if_pos (by rfl), show (47 : Int32) = qi 47 from rfl, k_sg hW h (by omega), if_pos (show tS (tk k2) 47 from h1), o_bind, if_neg (by decide)]
      unfold f_X5_readProduct_40
      rw [show (42 : Int32) = qi 42 from rfl, k_sg hW h (by omega), if_neg n42, o_bind, if_pos (by rfl), show (47 : Int32) = qi 47 from rfl, k_sg hW h (by omega), if_pos (show tS (tk k2) 47 from h1), o_bind, if_neg (by decide)]
      rfl
    · have n42 : ¬ tS (tk k2) 42 := fun g => absurd (s2.symm.trans g.2) (by decide)
      have n47 : ¬ tS (tk k2) 47 := fun g => absurd (s2.symm.trans g.2) (by decide)
      rw [show (42 : Int32) = qi 42 from rfl, k_sg hW h (by omega), if_neg n42, o_bind, if_pos (by rfl), show (47 : Int32) = qi 47 from rfl, k_sg hW h (by omega), if_neg n47, o_bind, if_pos (by rfl), show (37 : Int32) = qi 37 from rfl, k_sg hW h (by omega), if_pos (show tS (tk k2) 37 from h1), o_bind, if_neg (by decide)]
      unfold f_X5_readProduct_40
      rw [show (42 : Int32) = qi 42 from rfl, k_sg hW h (by omega), if_neg n42, o_bind, if_pos (by rfl), show (47 : Int32) = qi 47 from rfl, k_sg hW h (by omega), if_neg n47, o_bind, if_pos (by rfl)]
      rfl
  · rintro x ph bg T T' ⟨h1, -⟩ -
    exact ⟨h1, fun _ h => absurd h (by decide)⟩
  · rintro x ph bg T ⟨h1, -⟩
    exact ⟨h1, Or.inl rfl⟩
  · rintro x ph bg T ph' pr bs Fr k2 C2 P O R2 M2 cc ⟨h1, -⟩ hx h hq hP hPl ⟨hs, hcc⟩ hk hlow hbs hln hC2 hF
    have hq : ph' = ph := hq
    subst hq
    exact ar_go hA hE hC hV hW ho (by omega) (by rcases hcc with rfl | rfl | rfl <;> rfl) (by omega) hs h1 hx h hP hk hlow hbs hln hC2 hF
set_option maxHeartbeats 2000000 in
theorem x_sum (hA : AH t tl ed tk tn) (hE : EV b wo R0 t tl) (hC : CV N G y yt a0 a1 a2 pc tn tl) (hV : TV V0 yt a0 a1 a2 tn tk) (hW : TW tk tn) (ho : o ≤ 7) (hS : SX b fr R0 M0 ed tk y pc V0 tn N G L F.2.2.2.2.2.1 6 6 4 false (8 * o + 4) 1 prS qM o) : SX b fr R0 M0 ed tk y pc V0 tn N G L (f_X5_readSum F) 5 5 3 false (8 * o + 3) 2 prS qA o := by
  refine x_loop (op := opA) (bg3 := 0) (f := F.2.2.2.2.2.1) (bd := b_X5_readSum_6 F N G y) hA hE hC hV hW ho (by omega) (by omega) (by omega) (fun V => rfl) (by omega) hS (by omega) ?_ ?_ ?_ ?_ ?_ ?_ ?_ (by omega)
  · rintro T cc ⟨h1, h2⟩
    refine ⟨by have := h1.1; omega, ?_⟩
    rcases h2 with rfl | rfl
    all_goals decide
  · intro kk i V2 k2 C2 h hn hi
    have n43 : ¬ tS (tk k2) 43 := fun g => hn 5 ⟨g, Or.inl rfl⟩
    have n45 : ¬ tS (tk k2) 45 := fun g => hn 6 ⟨g, Or.inr rfl⟩
    show (if (1600 : Int32) ≤ qi i then some (V2, L) else (f_X5_isSign N G y 43 V2 L).bind _) = _
    by_cases hi : (1600 : Int32) ≤ qi i
    · rw [if_pos hi]
    · rw [if_neg hi, show (43 : Int32) = qi 43 from rfl, k_sg hW h (by omega), if_neg n43, o_bind, if_pos (by rfl), show (45 : Int32) = qi 45 from rfl, k_sg hW h (by omega), if_neg n45, o_bind, if_pos (by rfl)]
  · intro kk i V2 g pl k2 c2 h hi
    show (if (1600 : Int32) ≤ qi i then some (V2, L) else (f_X5_isSign N G y 43 V2 L).bind _) = _
    by_cases hi : (1600 : Int32) ≤ qi i
    · rw [if_pos hi]
    · rw [if_neg hi, k_sgE h, o_bind, if_pos (by rfl), k_sgE h, o_bind, if_pos (by rfl)]
  · rintro kk i V2 k2 C2 cc h ⟨h1, h2⟩ hi
    show (if (1600 : Int32) ≤ qi i then some (V2, L) else (f_X5_isSign N G y 43 V2 L).bind _) = _
    rw [if_neg (by rw [q_lit, q_le (by omega) (by omega)]; omega)]
    have s2 := h1.2
    rcases h2 with rfl | rfl
    · rw [show (43 : Int32) = qi 43 from rfl, k_sg hW h (by omega), if_pos (show tS (tk k2) 43 from h1), o_bind, if_neg (by decide)]
      unfold f_X5_readSum_31
      rw [show (43 : Int32) = qi 43 from rfl, k_sg hW h (by omega), if_pos (show tS (tk k2) 43 from h1), o_bind, if_neg (by decide)]
      rfl
    · have n43 : ¬ tS (tk k2) 43 := fun g => absurd (s2.symm.trans g.2) (by decide)
      rw [show (43 : Int32) = qi 43 from rfl, k_sg hW h (by omega), if_neg n43, o_bind, if_pos (by rfl), show (45 : Int32) = qi 45 from rfl, k_sg hW h (by omega), if_pos (show tS (tk k2) 45 from h1), o_bind, if_neg (by decide)]
      unfold f_X5_readSum_31
      rw [show (43 : Int32) = qi 43 from rfl, k_sg hW h (by omega), if_neg n43, o_bind, if_pos (by rfl)]
      rfl
  · rintro x ph bg T T' ⟨h1, -⟩ -
    exact ⟨h1, fun _ h => absurd h (by decide)⟩
  · rintro x ph bg T ⟨h1, -⟩
    exact ⟨h1, Or.inl rfl⟩
  · rintro x ph bg T ph' pr bs Fr k2 C2 P O R2 M2 cc ⟨h1, -⟩ hx h hq hP hPl ⟨hs, hcc⟩ hk hlow hbs hln hC2 hF
    have hq : ph' = ph := hq.1
    subst hq
    exact ar_go hA hE hC hV hW ho (by omega) (by rcases hcc with rfl | rfl <;> rfl) (by omega) hs h1 hx h hP hk hlow hbs hln hC2 hF
theorem cj_go {cc lv x ph pr bs : Nat} {Fr : List fmT} {C2 : List Nat} {k2 : Nat} (hA : AH t tl ed tk tn) (hE : EV b wo R0 t tl) (hC : CV N G y yt a0 a1 a2 pc tn tl) (hV : TV V0 yt a0 a1 a2 tn tk) (hW : TW tk tn) (ho : o ≤ 7) (hc : cc = 12 ∨ cc = 13) (hlv : rk cc = lv) (hs : tO (tk k2) (if cc = 13 then 18 else 17)) (ht : tst x) (hp1 : 1 ≤ ph) (hph : ph < 100) (hx : x < 100) (h : RS b fr R0 M0 ed tk k2 C2 (P ++ O) (o + nots P) 1 ((x, ph, 0, pr, bs) :: Fr) R M) (hP : pnd lv P) (hPl : P.length ≤ 80) (hk : k2 + 1 < tn) (hlow : low lv bs O) (hbs : bs ≤ O.length) (hln : P.length + O.length < 500) (hC2 : fr + C2.length + P.length ≤ 1600) (hF : Fr.length < 20) : ∃ R3 M3, rg 1 (1, R, M) (1, R3, M3) ∧ RS b fr R0 M0 ed tk (k2 + 1) (C2 ++ P) (cc :: O) o 0 ((x, 0, 1, pr, bs) :: Fr) R3 M3 := by
  have hnl : ∀ P : List Nat, nots P ≤ P.length := by
    intro P
    induction P with
    | nil => exact Nat.le_refl _
    | cons a P ih =>
      show (if a = 17 then 1 else 0) + nots P ≤ P.length + 1
      by_cases e : a = 17
      · rw [if_pos e]; omega
      · rw [if_neg e]; omega
  have hnP := hnl P
  have g := g_and hA hE hk hc hs ht hx hp1 hph (by rw [hlv]; exact hP) (by rw [hlv]; exact hlow) hbs hln hC2 hF (by omega) (by omega) h
  rw [Nat.add_sub_cancel] at g
  exact st_goK h.2.2.1.2.2.2.2.2.2 g
set_option maxHeartbeats 2000000 in
theorem x_both (hA : AH t tl ed tk tn) (hE : EV b wo R0 t tl) (hC : CV N G y yt a0 a1 a2 pc tn tl) (hV : TV V0 yt a0 a1 a2 tn tk) (hW : TW tk tn) (ho : o ≤ 7) (hS : SX b fr R0 M0 ed tk y pc V0 tn N G L F.2.2.1 4 3 2 true (8 * o + 2) (10 - o) prT qT o) : SX b fr R0 M0 ed tk y pc V0 tn N G L (f_X5_readBoth F) 2 2 1 true (8 * o + 1) (11 - o) prT qD o := by
  refine x_loop (op := opD) (bg3 := 1) (f := F.2.2.1) (bd := b_X5_readBoth_6 F N G y) hA hE hC hV hW ho (by omega) (by omega) (by omega) (fun V => rfl) (by omega) hS (by omega) ?_ ?_ ?_ ?_ ?_ ?_ ?_ (by omega)
  · rintro T cc ⟨h1, rfl⟩
    refine ⟨by have := h1.1; omega, ?_⟩
    decide
  · intro kk i V2 k2 C2 h hn hi
    have n18 : ¬ tO (tk k2) 18 := fun g => hn 13 ⟨g, rfl⟩
    show (if (1600 : Int32) ≤ qi i then some (V2, L) else (f_X5_isOwn N G y 18 V2 L).bind _) = _
    by_cases hi : (1600 : Int32) ≤ qi i
    · rw [if_pos hi]
    · rw [if_neg hi, show (18 : Int32) = qi 18 from rfl, k_ow hW h (by omega), if_neg n18, o_bind, if_pos (by rfl)]
  · intro kk i V2 g pl k2 c2 h hi
    show (if (1600 : Int32) ≤ qi i then some (V2, L) else (f_X5_isOwn N G y 18 V2 L).bind _) = _
    by_cases hi : (1600 : Int32) ≤ qi i
    · rw [if_pos hi]
    · rw [if_neg hi, k_owE h, o_bind, if_pos (by rfl)]
  · rintro kk i V2 k2 C2 cc h ⟨h1, rfl⟩ hi
    show (if (1600 : Int32) ≤ qi i then some (V2, L) else (f_X5_isOwn N G y 18 V2 L).bind _) = _
    rw [if_neg (by rw [q_lit, q_le (by omega) (by omega)]; omega), show (18 : Int32) = qi 18 from rfl, k_ow hW h (by omega), if_pos (show tO (tk k2) 18 from h1), o_bind, if_neg (by decide)]
    rfl
  · rintro x ph bg T T' ⟨h1, -⟩ -
    exact ⟨h1, rfl⟩
  · rintro x ph bg T ⟨h1, -⟩
    exact ⟨by omega, Or.inr h1⟩
  · rintro x ph bg T ph' pr bs Fr k2 C2 P O R2 M2 cc ⟨h1, -⟩ hx h hq hP hPl ⟨hs, rfl⟩ hk hlow hbs hln hC2 hF
    obtain ⟨ht, rfl⟩ := h1
    have hp : ph' = 1 ∨ ph' = 2 := by
      rcases hq with hq | hq
      · exact Or.inl hq.1
      · exact Or.inr hq
    exact cj_go hA hE hC hV hW ho (Or.inr rfl) rfl hs ht (by omega) (by omega) hx h hP (by omega) hk hlow hbs hln hC2 hF
set_option maxHeartbeats 2000000 in
theorem x_test (hA : AH t tl ed tk tn) (hE : EV b wo R0 t tl) (hC : CV N G y yt a0 a1 a2 pc tn tl) (hV : TV V0 yt a0 a1 a2 tn tk) (hW : TW tk tn) (ho : o ≤ 7) (hS : SX b fr R0 M0 ed tk y pc V0 tn N G L F.2.1 2 2 1 true (8 * o + 1) (11 - o) prT qD o) : SX b fr R0 M0 ed tk y pc V0 tn N G L (f_X5_readTest F) 1 1 0 true (8 * o) (12 - o) prT qR o := by
  refine x_loop (op := opR) (bg3 := 1) (f := F.2.1) (bd := b_X5_readTest_6 F N G y) hA hE hC hV hW ho (by omega) (by omega) (by omega) (fun V => rfl) (by omega) hS (by omega) ?_ ?_ ?_ ?_ ?_ ?_ ?_ (by omega)
  · rintro T cc ⟨h1, rfl⟩
    refine ⟨by have := h1.1; omega, ?_⟩
    decide
  · intro kk i V2 k2 C2 h hn hi
    have n18 : ¬ tO (tk k2) 17 := fun g => hn 12 ⟨g, rfl⟩
    show (if (1600 : Int32) ≤ qi i then some (V2, L) else (f_X5_isOwn N G y 17 V2 L).bind _) = _
    by_cases hi : (1600 : Int32) ≤ qi i
    · rw [if_pos hi]
    · rw [if_neg hi, show (17 : Int32) = qi 17 from rfl, k_ow hW h (by omega), if_neg n18, o_bind, if_pos (by rfl)]
  · intro kk i V2 g pl k2 c2 h hi
    show (if (1600 : Int32) ≤ qi i then some (V2, L) else (f_X5_isOwn N G y 17 V2 L).bind _) = _
    by_cases hi : (1600 : Int32) ≤ qi i
    · rw [if_pos hi]
    · rw [if_neg hi, k_owE h, o_bind, if_pos (by rfl)]
  · rintro kk i V2 k2 C2 cc h ⟨h1, rfl⟩ hi
    show (if (1600 : Int32) ≤ qi i then some (V2, L) else (f_X5_isOwn N G y 17 V2 L).bind _) = _
    rw [if_neg (by rw [q_lit, q_le (by omega) (by omega)]; omega), show (17 : Int32) = qi 17 from rfl, k_ow hW h (by omega), if_pos (show tO (tk k2) 17 from h1), o_bind, if_neg (by decide)]
    rfl
  · rintro x ph bg T T' ⟨h1, -⟩ -
    exact ⟨h1, rfl⟩
  · rintro x ph bg T ⟨h1, -⟩
    exact ⟨by omega, Or.inr h1⟩
  · rintro x ph bg T ph' pr bs Fr k2 C2 P O R2 M2 cc ⟨h1, -⟩ hx h hq hP hPl ⟨hs, rfl⟩ hk hlow hbs hln hC2 hF
    obtain ⟨ht, rfl⟩ := h1
    have hp : ph' = 1 ∨ ph' = 2 := by
      rcases hq.1 with hq | hq
      · exact Or.inl hq.1
      · exact Or.inr hq
    exact cj_go hA hE hC hV hW ho (Or.inl rfl) rfl hs ht (by omega) (by omega) hx h hP (by omega) hk hlow hbs hln hC2 hF
end
