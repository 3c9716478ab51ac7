section
variable {b fr k o tn tl wo y yt a0 a1 a2 pc H B lv : Nat} {bo : Bool} {V0 V V' R0 R R' : zI} {L M M0 M' : zL} {N : Nat → Nat} {G : zG} {ed t : Nat → Nat} {tk : Nat → tkT} {T : tkT} {A D C C' O P : List Nat} {F : T_GR}
/-! what a phrase's codes do to the stack -/
def tyE (c : List Nat) (bo : Bool) (H : Nat) : Prop := ∀ h t, h ≤ H → ∃ t', tyL c (h, t) = some (h + 1, t') ∧ t' h = bo ∧ ∀ j, j < h → t' j = t j
theorem ty_mono {H' : Nat} (h : tyE A bo H) (hH : H' ≤ H) : tyE A bo H' := fun h' t hh => h h' t (Nat.le_trans hh hH)
theorem ty_one {c : Nat} (hc : c < 5 ∨ (100 ≤ c ∧ c < 10100) ∨ c = 50) (hH : H < 120) : tyE [c] (decide (c = 50)) H := fun h t hh => by
  refine ⟨fun k => if k = h then decide (c = 50) else t k, ?_, if_pos rfl, fun j hj => if_neg (by omega)⟩
  show (tyS c (h, t)).bind (tyL []) = _
  unfold tyS
  rw [if_pos hc, if_pos (show h < 120 by omega)]
  rfl
theorem ty_bin {c : Nat} (hc : 5 ≤ c ∧ c ≤ 16) (hA : tyE A (decide (c = 12 ∨ c = 13)) H) (hD : tyE D (decide (c = 12 ∨ c = 13)) (H + 1)) : tyE (A ++ D ++ [c]) (decide (12 ≤ c)) H := fun h t hh => by
  obtain ⟨t1, e1, e2, e3⟩ := hA h t hh
  obtain ⟨t2, f1, f2, f3⟩ := hD (h + 1) t1 (by omega)
  refine ⟨fun k => if k = h then decide (12 ≤ c) else t2 k, ?_, if_pos rfl, fun j hj => ?_⟩
  · rw [tyL_app, tyL_app, e1]
    show ((tyL D (h + 1, t1)).bind (tyL [c])) = _
    rw [f1]
    show (tyS c (h + 1 + 1, t2)).bind (tyL []) = _
    unfold tyS
    rw [if_neg (by omega), if_neg (by omega), if_neg (by omega), if_pos hc, if_pos (show 2 ≤ h + 1 + 1 ∧ t2 (h + 1 + 1 - 2) = _ ∧ t2 (h + 1 + 1 - 1) = _ from ⟨by omega, by rw [show h + 1 + 1 - 2 = h by omega, f3 h (by omega)]; exact e2, f2⟩)]
    rfl
  · dsimp only
    rw [if_neg (by omega), f3 j (by omega)]
    exact e3 j hj
theorem ty_not (hA : tyE A true H) : tyE (A ++ [17]) true H := fun h t hh => by
  obtain ⟨t1, e1, e2, e3⟩ := hA h t hh
  refine ⟨t1, ?_, e2, e3⟩
  rw [tyL_app, e1]
  show (tyS 17 (h + 1, t1)).bind (tyL []) = _
  unfold tyS
  rw [if_neg (by omega), if_pos rfl, if_pos (show 1 ≤ h + 1 ∧ t1 (h + 1 - 1) = true from ⟨by omega, e2⟩)]
  rfl
theorem ty_if {E : List Nat} (hA : tyE A true H) (hD : tyE D false (H + 1)) (hE : tyE E false (H + 2)) : tyE (A ++ D ++ E ++ [18]) false H := fun h t hh => by
  obtain ⟨t1, e1, e2, e3⟩ := hA h t hh
  obtain ⟨t2, f1, f2, f3⟩ := hD (h + 1) t1 (by omega)
  obtain ⟨t3, g1, g2, g3⟩ := hE (h + 2) t2 (by omega)
  refine ⟨fun k => if k = h then false else t3 k, ?_, if_pos rfl, fun j hj => ?_⟩
  · rw [tyL_app, tyL_app, tyL_app, e1]
    show ((tyL D (h + 1, t1)).bind (tyL E)).bind (tyL [18]) = _
    rw [f1]
    show (tyL E (h + 2, t2)).bind (tyL [18]) = _
    rw [g1]
    show (tyS 18 (h + 2 + 1, t3)).bind (tyL []) = _
    unfold tyS
    rw [if_neg (by omega), if_neg (by omega), if_pos rfl, if_pos (show 3 ≤ h + 2 + 1 ∧ t3 (h + 2 + 1 - 3) = true ∧ t3 (h + 2 + 1 - 2) = false ∧ t3 (h + 2 + 1 - 1) = false from ⟨by omega, by rw [show h + 2 + 1 - 3 = h by omega, g3 h (by omega), f3 h (by omega)]; exact e2, by rw [show h + 2 + 1 - 2 = h + 1 by omega, g3 (h + 1) (by omega)]; exact f2, g2⟩)]
    rfl
  · dsimp only
    rw [if_neg (by omega), g3 j (by omega), f3 j (by omega)]
    exact e3 j hj
/-! outcomes -/
def XE (b fr : Nat) (R0 : zI) (M0 : zL) (y pc : Nat) (V0 : zI) (tn : Nat) (k kc cl : Nat) (R : zI) (M : zL) (V : zI) : Prop := ∃ m R' M' k' f pl cc, m + k ≤ k' + 1 ∧ k ≤ k' ∧ rg m (1, R, M) (0, R', M') ∧ CE y pc V0 tn f pl k' cc V ∧ RE b fr R0 M0 f pl R' M' ∧ cc + kc ≤ cl + k'
def XK (b fr : Nat) (R0 : zI) (M0 : zL) (ed : Nat → Nat) (tk : Nat → tkT) (y pc : Nat) (V0 : zI) (tn : Nat) (lv : Nat) (bo : Bool) (H B : Nat) (Q : Nat → tkT → Prop) (k : Nat) (C O : List Nat) (o x pr bs : Nat) (Fr : List fmT) (R : zI) (M : zL) (V : zI) : Prop := ∃ m R' M' k' c P ph', m + k ≤ k' ∧ rg m (1, R, M) (1, R', M') ∧ CS y pc V0 tk tn k' (C ++ (c ++ P)) o V ∧ RS b fr R0 M0 ed tk k' (C ++ c) (P ++ O) (o + nots P) 1 ((x, ph', 0, pr, bs) :: Fr) R' M' ∧ pnd lv P ∧ P.length ≤ B ∧ c.length + P.length + k ≤ k' ∧ tyE (c ++ P) bo H ∧ Q ph' (tk k')
abbrev fnT : Type := (Nat → Nat) → zG → Nat → zI → zL → Option (zI × zL)
def SX (b fr : Nat) (R0 : zI) (M0 : zL) (ed : Nat → Nat) (tk : Nat → tkT) (y pc : Nat) (V0 : zI) (tn : Nat) (N : Nat → Nat) (G : zG) (L : zL) (f : fnT) (lw lv off : Nat) (bo : Bool) (H B : Nat) (Pq : Nat → Nat → Nat → tkT → Prop) (Q : Nat → Nat → tkT → Prop) (o : Nat) : Prop := ∀ V R M k C O x ph bg pr bs Fr, CS y pc V0 tk tn k C o V → RS b fr R0 M0 ed tk k C O o 0 ((x, ph, bg, pr, bs) :: Fr) R M → Pq x ph bg (tk k) → low lw bs O → bs ≤ O.length → O.length ≤ 6 * o + off → Fr.length ≤ o → x < 100 → bg ≤ 1 → fr + C.length < k → zW (f N G y V L) (fun r => r.2 = L ∧ (XK b fr R0 M0 ed tk y pc V0 tn lv bo H B (Q ph) k C O o x pr bs Fr R M r.1 ∨ XE b fr R0 M0 y pc V0 tn k k C.length R M r.1))
def FX (y pc : Nat) (V0 : zI) (tn : Nat) (N : Nat → Nat) (G : zG) (L : zL) (f : fnT) : Prop := ∀ V g pl k c, CE y pc V0 tn g pl k c V → f N G y V L = some (V, L)
theorem XE_tr {m k2 kc cl cl2 : Nat} (h : XE b fr R0 M0 y pc V0 tn k2 k2 cl2 R' M' V) (hr : rg m (1, R, M) (1, R', M')) (hm : m + k ≤ k2) (hc : cl2 + kc ≤ cl + k2) : XE b fr R0 M0 y pc V0 tn k kc cl R M V := by
  obtain ⟨m1, R1, M1, k1, f, pl, cc, a1, a2, a3, a4, a5, a6⟩ := h
  exact ⟨m + m1, R1, M1, k1, f, pl, cc, by omega, by omega, rg_t hr a3, a4, a5, by omega⟩
theorem XE_em {kc cl : Nat} {z : Int32} (hC : CV N G y yt a0 a1 a2 pc tn tl) (hcl : cl ≤ 2000) (h : XE b fr R0 M0 y pc V0 tn k (kc + 1) cl R M V) : zW (f_X5_emit N G y z V L) (fun r => r.2 = L ∧ XE b fr R0 M0 y pc V0 tn k kc cl R M r.1) := by
  obtain ⟨m1, R1, M1, k1, f, pl, cc, a1, a2, a3, a4, a5, a6⟩ := h
  have hk1 := a4.2.1
  have := hC.2.2.2
  refine zW_mono (k_emitE hC a4 (by omega)) ?_
  rintro r ⟨e, c', h1, h2⟩
  exact ⟨e, m1, R1, M1, k1, f, pl, c', a1, a2, a3, h2, a5, by omega⟩
theorem XE_8 {kc cl : Nat} {z : Int32} (h : XE b fr R0 M0 y pc V0 tn k kc cl R M V) : XE b fr R0 M0 y pc V0 tn k kc cl R M (z_uI V y 8 z) := by
  obtain ⟨m1, R1, M1, k1, f, pl, cc, a1, a2, a3, a4, a5, a6⟩ := h
  exact ⟨m1, R1, M1, k1, f, pl, cc, a1, a2, a3, k_8E a4, a5, a6⟩
theorem XE_mk {m f pl cl k2 : Nat} (hc : CE y pc V0 tn f pl k2 cl V) (hr : RE b fr R0 M0 f pl R' M') (hg : rg m (1, R, M) (0, R', M')) (hm : m + k ≤ k2 + 1) (hk : k ≤ k2) {kc cl' : Nat} (h : cl + kc ≤ cl' + k2) : XE b fr R0 M0 y pc V0 tn k kc cl' R M V := ⟨m, R', M', k2, f, pl, cl, hm, hk, hg, hc, hr, h⟩
theorem low_le {l l' bs : Nat} (h : low l bs O) (hl : l ≤ l') : low l' bs O := by
  rcases h with h | ⟨a, O', h1, h2, h3⟩
  · exact Or.inl h
  · exact Or.inr ⟨a, O', h1, h2, by omega⟩
/-! nothing moves once there is a fault -/
theorem n_fn (hC : CV N G y yt a0 a1 a2 pc tn tl) {g pl c : Nat} (h : CE y pc V0 tn g pl k c V) : f_X5_readFactNamed N G y V L = some (V, L) := by
  unfold f_X5_readFactNamed g_X5_readFactNamed
  rw [if_neg (by rw [h.2.2.1.2.2.1]; decide)]
  unfold f_X5_readFactNamed_16
  rw [if_neg (by decide), if_neg (by decide)]
  unfold f_X5_readFactNamed_34
  rw [if_pos (by decide)]
  unfold f_X5_readFactNamed_58
  rw [k_fhE h]
  rfl
theorem n_part (hC : CV N G y yt a0 a1 a2 pc tn tl) : FX y pc V0 tn N G L (f_X5_readPart F) := fun V g pl k c h => by
  unfold f_X5_readPart g_X5_readPart
  rw [if_neg (by rw [h.2.2.1.2.2.1]; decide), k_sgE h, o_bind, if_pos (by rfl), k_owE h, o_bind, if_pos (by rfl), k_owE h, o_bind, if_pos (by rfl), k_owE h, o_bind, if_pos (by rfl), n_fn hC h]
  rfl
theorem n_product (hF : FX y pc V0 tn N G L F.2.2.2.2.2.2.1) : FX y pc V0 tn N G L (f_X5_readProduct F) := fun V g pl k c h => by
  unfold f_X5_readProduct g_X5_readProduct
  rw [hF V g pl k c h, o_bind]
  show b_X5_readProduct_6 F N G y (zfix (b_X5_readProduct_6 F N G y) 9999999) (0, V, L) = _
  show (if (1600 : Int32) ≤ 0 then some (V, L) else (f_X5_isSign N G y 42 V L).bind _) = _
  rw [if_neg (by decide), k_sgE h, o_bind, if_pos (by rfl), k_sgE h, o_bind, if_pos (by rfl), k_sgE h, o_bind, if_pos (by rfl)]
theorem n_sum (hF : FX y pc V0 tn N G L F.2.2.2.2.2.1) : FX y pc V0 tn N G L (f_X5_readSum F) := fun V g pl k c h => by
  unfold f_X5_readSum g_X5_readSum
  rw [hF V g pl k c h, o_bind]
  show b_X5_readSum_6 F N G y (zfix (b_X5_readSum_6 F N G y) 9999999) (0, V, L) = _
  show (if (1600 : Int32) ≤ 0 then some (V, L) else (f_X5_isSign N G y 43 V L).bind _) = _
  rw [if_neg (by decide), k_sgE h, o_bind, if_pos (by rfl), k_sgE h, o_bind, if_pos (by rfl)]
theorem n_both (hF : FX y pc V0 tn N G L F.2.2.1) : FX y pc V0 tn N G L (f_X5_readBoth F) := fun V g pl k c h => by
  unfold f_X5_readBoth g_X5_readBoth
  rw [hF V g pl k c h, o_bind]
  show b_X5_readBoth_6 F N G y (zfix (b_X5_readBoth_6 F N G y) 9999999) (0, V, L) = _
  show (if (1600 : Int32) ≤ 0 then some (V, L) else (f_X5_isOwn N G y 18 V L).bind _) = _
  rw [if_neg (by decide), k_owE h, o_bind, if_pos (by rfl)]
theorem n_test (hF : FX y pc V0 tn N G L F.2.1) : FX y pc V0 tn N G L (f_X5_readTest F) := fun V g pl k c h => by
  unfold f_X5_readTest g_X5_readTest
  rw [hF V g pl k c h, o_bind]
  show b_X5_readTest_6 F N G y (zfix (b_X5_readTest_6 F N G y) 9999999) (0, V, L) = _
  show (if (1600 : Int32) ≤ 0 then some (V, L) else (f_X5_isOwn N G y 17 V L).bind _) = _
  rw [if_neg (by decide), k_owE h, o_bind, if_pos (by rfl)]
theorem n_cmp (hF : FX y pc V0 tn N G L F.2.2.2.2.1) : FX y pc V0 tn N G L (f_X5_readComparison F) := fun V g pl k c h => by
  unfold f_X5_readComparison g_X5_readComparison
  rw [hF V g pl k c h, o_bind]
  show (if V y 2 = 1 then _ else f_X5_readComparison_20 F N G y (-1) V L) = _
  rw [if_neg (by rw [h.2.2.1.2.2.1]; decide)]
  unfold f_X5_readComparison_20
  rw [if_neg (by decide), if_neg (by decide), if_neg (by decide), k_fhE h]
  rfl
theorem n_fact (hF : FX y pc V0 tn N G L F.2.2.2.1) : FX y pc V0 tn N G L (f_X5_readFact F) := fun V g pl k c h => by
  unfold f_X5_readFact g_X5_readFact
  rw [k_owE h, o_bind, if_pos (by rfl), k_sgE h, o_bind, if_pos (by rfl), k_owE h, o_bind, if_pos (by rfl), hF V g pl k c h]
  rfl
end
