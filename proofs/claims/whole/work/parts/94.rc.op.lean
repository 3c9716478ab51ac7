section
variable {b fr k o w tn tl l x ph bg pr bs wo f : Nat} {R0 R R' : zI} {M0 M M' : zL} {ed t : Nat → Nat} {tk : Nat → tkT} {T : tkT} {C C' O O' P : List Nat} {F F' Fr : List fmT}
def rg (m : Nat) (s s' : Int32 × zI × zL) : Prop := ∀ n, zfix b_reads_43 (n + m) s = zfix b_reads_43 n s'
theorem rg_0 {s : Int32 × zI × zL} : rg 0 s s := fun _ => rfl
theorem rg_t {m m' : Nat} {s s' s'' : Int32 × zI × zL} (h : rg m s s') (h' : rg m' s' s'') : rg (m + m') s s'' := fun n => by
  rw [show n + (m + m') = (n + m') + m by omega, h, h']
theorem rg_1 {s s' : Int32 × zI × zL} (h : ∀ kk, b_reads_43 kk s = kk s') : rg 1 s s' := fun n => h _
def RE (b fr : Nat) (R0 : zI) (M0 : zL) (f pl : Nat) (R : zI) (M : zL) : Prop := RF b fr R0 M0 R M ∧ R 0 8 = qi f ∧ R 0 9 = qi pl ∧ 0 < f ∧ f < 100
theorem RF_89 {y z : Int32} (h : RF b fr R0 M0 R M) : RF b fr R0 M0 (z_uI (z_uI R 0 8 y) 0 9 z) M := by
  obtain ⟨a1, a2, a3, a4, a5⟩ := h
  refine ⟨fun j j3 j4 j5 j6 j8 j9 j12 j25 j33 j34 j36 j37 => ?_, fun j hj => ?_, fun v v0 v1 v2 v3 => ?_, a4, a5⟩
  · rw [z_neK j9, z_neK j8]; exact a1 j j3 j4 j5 j6 j8 j9 j12 j25 j33 j34 j36 j37
  · rw [z_neP (by omega), z_neP (by omega), z_neP (by omega), z_neP (by omega)]; exact a2 j hj
  · rw [z_neP v0, z_neP v0]; exact a3 v v0 v1 v2 v3
theorem RF_37 {y : Int32} (h : RF b fr R0 M0 R M) : RF b fr R0 M0 (z_uI R 0 37 y) M := by
  obtain ⟨a1, a2, a3, a4, a5⟩ := h
  refine ⟨fun j j3 j4 j5 j6 j8 j9 j12 j25 j33 j34 j36 j37 => ?_, fun j hj => ?_, fun v v0 v1 v2 v3 => ?_, a4, a5⟩
  · rw [z_neK j37]; exact a1 j j3 j4 j5 j6 j8 j9 j12 j25 j33 j34 j36 j37
  · rw [z_neP (by omega), z_neP (by omega)]; exact a2 j hj
  · rw [z_neP v0]; exact a3 v v0 v1 v2 v3
theorem RE_37 {y : Int32} {pl : Nat} (h : RE b fr R0 M0 f pl R M) : RE b fr R0 M0 f pl (z_uI R 0 37 y) M := ⟨RF_37 h.1, by rw [z_neK (by omega)]; exact h.2.1, by rw [z_neK (by omega)]; exact h.2.2.1, h.2.2.2⟩
abbrev RB (R : zI) (f pl : Nat) : zI := z_uI (z_uI R 0 8 (qi f)) 0 9 (qi pl)
theorem RB_8 {pl : Nat} : RB R f pl 0 8 = qi f := by
  show z_uI (z_uI R 0 8 (qi f)) 0 9 (qi pl) 0 8 = qi f
  rw [z_neK (by omega), z_same]
theorem RE_mk {pl : Nat} (h : RS b fr R0 M0 ed tk k C O o w F R M) (hf : 0 < f ∧ f < 100) : RE b fr R0 M0 f pl (RB R f pl) M := ⟨RF_89 h.1, RB_8, z_same, hf⟩
theorem p_blame (h : RS b fr R0 M0 ed tk k C O o w F R M) : f_blame (qi f) (R 0 4) R M = some (RB R f (tk k).2.2, M) := by
  unfold f_blame
  rw [h.2.2.1.1, if_pos le00, h.2.1.2.1]
theorem p_opens (hA : AH t tl ed tk tn) (hT : tpR R0 t tl) (hk : k + 1 < tn) (ho : o < 7) (hF : F.length < 20) (h : RS b fr R0 M0 ed tk k C O o w F R M) : zW (f_opens (qi x) R M) (fun r => RS b fr R0 M0 ed tk (k + 1) C O (o + 1) w ((x, 0, 1, 0, O.length) :: F) r.1 r.2) := by
  have e34 : R 0 34 = qi o := h.2.2.1.2.2.2.2.1
  have e8 : R 0 8 = qi 0 := h.2.2.1.1
  unfold f_opens
  refine zW_if0 (by rw [e34, q_lit, q_eq (by omega) (by omega)]; omega) ?_
  unfold f_opens_18
  refine zW_if1 (by rw [e8]; exact (q_le (a := 0) (b := 0) (by omega) (by omega)).mpr (by omega)) ?_
  rw [e34, q_lit, q_add]
  refine zW_call (p_ahead hA hT hk (p_s34 h)) ?_
  rintro ⟨R1, M1⟩ h1
  refine zW_call (p_push h1 hF) ?_
  rintro ⟨R2, M2⟩ h2
  exact zW_some h2
theorem p_opens7 (h : RS b fr R0 M0 ed tk k C O 7 w F R M) : f_opens (qi x) R M = some (RB R 5 (tk k).2.2, M) := by
  have e34 : R 0 34 = qi 7 := h.2.2.1.2.2.2.2.1
  unfold f_opens
  rw [if_pos (show R 0 34 = 7 from e34), show (5 : Int32) = qi 5 from rfl, p_blame h, o_bind]
  unfold f_opens_18
  rw [if_neg]
  show ¬ RB R 5 (tk k).2.2 0 8 ≤ 0
  rw [RB_8, q_lit, q_le (by omega) (by omega)]
  omega
theorem p_opensE {pl : Nat} (h : RE b fr R0 M0 f pl R M) : zW (f_opens (qi x) R M) (fun r => r.1 = R ∧ r.2 = M) := by
  obtain ⟨-, h8, -, hf, hf'⟩ := h
  have g : f_opens_18 (qi x) R M = some (R, M) := by
    unfold f_opens_18
    rw [if_neg]
    rw [h8, q_lit, q_le (by omega) (by omega)]
    omega
  have g2 : ∀ y, f_blame 5 y R M = some (R, M) := fun y => by
    unfold f_blame
    rw [if_neg]
    rw [h8, q_lit, q_le (by omega) (by omega)]
    omega
  unfold f_opens
  refine zW_ite (fun _ => ?_) (fun _ => ?_)
  · rw [g2, o_bind, g]; exact zW_some ⟨rfl, rfl⟩
  · rw [g]; exact zW_some ⟨rfl, rfl⟩
/-! a step of the loop -/
theorem st_op {w' f' : Nat} (hw : w' ≤ 1) (h37 : R 0 37 = qi 0) (h : f_operand R M = some (qi w', R', M')) (h8 : R' 0 8 = qi f') (hf : f' < 100) : rg 1 (1, R, M) (qi (if f' = 0 then 1 else 0), z_uI R' 0 37 (qi w'), M') := rg_1 fun kk => by
  have e8 : z_uI R' 0 37 (qi w') 0 8 = qi f' := by rw [z_neK (by omega)]; exact h8
  have hz : zB (qi w') := by
    have : w' = 0 ∨ w' = 1 := by omega
    rcases this with rfl | rfl
    · decide
    · decide
  show (if (1 : Int32) = 0 then some (R, M) else (if (R 0 37) = 0 then (f_operand R M).bind fun r2 => if zB r2.1 then f_reads_70 kk 1 (z_uI r2.2.1 0 37 r2.1) r2.2.2 else none else (f_goesOn R M).bind fun r1 => f_reads_70 kk r1.1 r1.2.1 r1.2.2)) = _
  rw [if_neg (by decide), if_pos (show R 0 37 = 0 from h37), h, o_bind]
  dsimp only
  rw [if_pos hz]
  unfold f_reads_70
  rw [if_neg (by decide), e8]
  by_cases e : f' = 0
  · rw [if_pos (by rw [e]; rfl), if_pos e]; rfl
  · rw [if_neg (by rw [q_lit, q_eq (by omega) (by omega)]; exact e), if_neg e]; rfl
theorem st_go {y f' : Nat} (hw : y ≤ 1) (h37 : R 0 37 = qi 1) (h : f_goesOn R M = some (qi y, R', M')) (h8 : R' 0 8 = qi f') (hf : f' < 100) : rg 1 (1, R, M) (qi (if y = 1 ∧ f' = 0 then 1 else 0), R', M') := rg_1 fun kk => by
  show (if (1 : Int32) = 0 then some (R, M) else (if (R 0 37) = 0 then (f_operand R M).bind fun r2 => if zB r2.1 then f_reads_70 kk 1 (z_uI r2.2.1 0 37 r2.1) r2.2.2 else none else (f_goesOn R M).bind fun r1 => f_reads_70 kk r1.1 r1.2.1 r1.2.2)) = _
  rw [if_neg (by decide), if_neg (show ¬ R 0 37 = 0 by rw [h37]; decide), h, o_bind]
  dsimp only
  unfold f_reads_70
  have hy : y = 0 ∨ y = 1 := by omega
  rcases hy with rfl | rfl
  · rw [if_pos (by rfl), if_neg (by omega)]; rfl
  · rw [if_neg (by decide), h8]
    by_cases e : f' = 0
    · rw [if_pos (by rw [e]; rfl), if_pos ⟨rfl, e⟩]; rfl
    · rw [if_neg (by rw [q_lit, q_eq (by omega) (by omega)]; exact e), if_neg (fun h => e h.2)]; rfl
theorem st_opK {w' k' o' : Nat} (hw : w' ≤ 1) (h37 : R 0 37 = qi 0) (h : zW (f_operand R M) (fun r => r.1 = qi w' ∧ RS b fr R0 M0 ed tk k' C' O' o' 0 F' r.2.1 r.2.2)) : ∃ R' M', rg 1 (1, R, M) (1, R', M') ∧ RS b fr R0 M0 ed tk k' C' O' o' w' F' R' M' := by
  obtain ⟨⟨y, R1, M1⟩, e, e1, h1⟩ := h
  dsimp only at e1 h1
  subst e1
  exact ⟨_, _, st_op hw h37 e h1.2.2.1.1 (by omega), p_s37 h1⟩
theorem st_opE {w' pl : Nat} (hw : w' ≤ 1) (h37 : R 0 37 = qi 0) (h : zW (f_operand R M) (fun r => r.1 = qi w' ∧ RE b fr R0 M0 f pl r.2.1 r.2.2)) : ∃ R' M', rg 1 (1, R, M) (0, R', M') ∧ RE b fr R0 M0 f pl R' M' := by
  obtain ⟨⟨y, R1, M1⟩, e, e1, h1⟩ := h
  dsimp only at e1 h1
  subst e1
  have g := st_op hw h37 e h1.2.1 h1.2.2.2.2
  rw [if_neg (by have := h1.2.2.2.1; omega)] at g
  exact ⟨_, _, g, RE_37 h1⟩
theorem st_goK {w' k' o' : Nat} (h37 : R 0 37 = qi 1) (h : zW (f_goesOn R M) (fun r => r.1 = qi 1 ∧ RS b fr R0 M0 ed tk k' C' O' o' w' F' r.2.1 r.2.2)) : ∃ R' M', rg 1 (1, R, M) (1, R', M') ∧ RS b fr R0 M0 ed tk k' C' O' o' w' F' R' M' := by
  obtain ⟨⟨y, R1, M1⟩, e, e1, h1⟩ := h
  dsimp only at e1 h1
  subst e1
  exact ⟨_, _, st_go (by omega) h37 e h1.2.2.1.1 (by omega), h1⟩
theorem st_goZ {w' k' o' : Nat} (h37 : R 0 37 = qi 1) (h : zW (f_goesOn R M) (fun r => r.1 = qi 0 ∧ RS b fr R0 M0 ed tk k' C' O' o' w' F' r.2.1 r.2.2)) : ∃ R' M', rg 1 (1, R, M) (0, R', M') ∧ RS b fr R0 M0 ed tk k' C' O' o' w' F' R' M' := by
  obtain ⟨⟨y, R1, M1⟩, e, e1, h1⟩ := h
  dsimp only at e1 h1
  subst e1
  exact ⟨_, _, st_go (by omega) h37 e h1.2.2.1.1 (by omega), h1⟩
theorem st_goE {y pl : Nat} (hy : y ≤ 1) (h37 : R 0 37 = qi 1) (h : zW (f_goesOn R M) (fun r => r.1 = qi y ∧ RE b fr R0 M0 f pl r.2.1 r.2.2)) : ∃ R' M', rg 1 (1, R, M) (0, R', M') ∧ RE b fr R0 M0 f pl R' M' := by
  obtain ⟨⟨y, R1, M1⟩, e, e1, h1⟩ := h
  dsimp only at e1 h1
  subst e1
  have g := st_go hy h37 e h1.2.1 h1.2.2.2.2
  rw [if_neg (by have := h1.2.2.2.1; omega)] at g
  exact ⟨_, _, g, h1⟩
end
