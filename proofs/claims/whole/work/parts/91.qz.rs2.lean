section
variable {b fr k o w tn tl l x ph bg pr bs : Nat} {R0 R R' : zI} {M0 M M' : zL} {ed t : Nat → Nat} {tk : Nat → tkT} {T : tkT} {C C' O O' P : List Nat} {F F' Fr : List fmT}
theorem tkR_fr (h : tkR T R M) (h3 : R' 0 3 = R 0 3) (h4 : R' 0 4 = R 0 4) (h6 : R' 0 6 = R 0 6) (h12 : R' 0 12 = R 0 12) (h7 : M' 0 7 = M 0 7) : tkR T R' M' := by
  unfold tkR at h ⊢
  rw [h3, h4, h6, h12, h7]
  exact h
theorem RS_up {o' w' : Nat} (h : RS b fr R0 M0 ed tk k C O o w F R M) (h0 : ∀ j, j ≠ 25 → j ≠ 33 → j ≠ 34 → j ≠ 36 → j ≠ 37 → R' 0 j = R 0 j) (hw : ∀ w, w ≠ 0 → w ≠ 10 → w ≠ 11 → (w < 13 ∨ 18 < w) → R' w = R w) (hf : ∀ j, (j < 1600 * b + fr ∨ 1600 * b + 1600 ≤ j) → R' 10 j = R 10 j ∧ R' 11 j = R 11 j) (e25 : R' 0 25 = qi (fr + C'.length)) (e33 : R' 0 33 = qi F'.length) (e34 : R' 0 34 = qi o') (e36 : R' 0 36 = qi O'.length) (e37 : R' 0 37 = qi w') (c : CD b fr C' R') (os : OS O' R') (fs : FS F' R') : RS b fr R0 M0 ed tk k C' O' o' w' F' R' M := by
  obtain ⟨⟨a1, a2, a3, a4, a5⟩, ⟨a6, a7⟩, ⟨a8, a9, -⟩, -⟩ := h
  refine ⟨⟨fun j j3 j4 j5 j6 j8 j9 j12 j25 j33 j34 j36 j37 => ?_, fun j hj => ?_, fun v v0 v1 v2 v3 => ?_, a4, a5⟩, ⟨?_, ?_⟩, ⟨?_, ?_, e25, e33, e34, e36, e37⟩, c, os, fs⟩
  · rw [h0 j j25 j33 j34 j36 j37]; exact a1 j j3 j4 j5 j6 j8 j9 j12 j25 j33 j34 j36 j37
  · exact ⟨(hf j hj).1.trans (a2 j hj).1, (hf j hj).2.trans (a2 j hj).2⟩
  · rw [hw v v0 v1 v2 v3]; exact a3 v v0 v1 v2 v3
  · rw [h0 5 (by omega) (by omega) (by omega) (by omega) (by omega)]; exact a6
  · exact tkR_fr a7 (h0 3 (by omega) (by omega) (by omega) (by omega) (by omega)) (h0 4 (by omega) (by omega) (by omega) (by omega) (by omega)) (h0 6 (by omega) (by omega) (by omega) (by omega) (by omega)) (h0 12 (by omega) (by omega) (by omega) (by omega) (by omega)) rfl
  · rw [h0 8 (by omega) (by omega) (by omega) (by omega) (by omega)]; exact a8
  · rw [h0 9 (by omega) (by omega) (by omega) (by omega) (by omega)]; exact a9
def AH (t : Nat → Nat) (tl : Nat) (ed : Nat → Nat) (tk : Nat → tkT) (tn : Nat) : Prop := ∀ k (R : zI) (M : zL), k + 1 < tn → tpR R t tl → R 0 5 = qi (ed k) → zW (f_ahead R M) (fun r => (r.1 0 5 = qi (ed (k + 1)) ∧ tkR (tk (k + 1)) r.1 r.2) ∧ (∀ j, j ≠ 3 → j ≠ 4 → j ≠ 5 → j ≠ 6 → j ≠ 12 → r.1 0 j = R 0 j) ∧ (∀ w, w ≠ 0 → r.1 w = R w) ∧ (∀ j, j ≠ 7 → r.2 0 j = M 0 j) ∧ ∀ w, w ≠ 0 → r.2 w = M w)
theorem RF_tp (h : RF b fr R0 M0 R M) (hT : tpR R0 t tl) : tpR R t tl := by
  obtain ⟨a1, a2, a3, a4, a5⟩ := h
  unfold tpR
  rw [a1 2 (by omega) (by omega) (by omega) (by omega) (by omega) (by omega) (by omega) (by omega) (by omega) (by omega) (by omega) (by omega), a3 1 (by omega) (by omega) (by omega) (by omega)]
  exact hT
theorem p_ahead (hA : AH t tl ed tk tn) (hT : tpR R0 t tl) (hk : k + 1 < tn) (h : RS b fr R0 M0 ed tk k C O o w F R M) : zW (f_ahead R M) (fun r => RS b fr R0 M0 ed tk (k + 1) C O o w F r.1 r.2) := by
  obtain ⟨hF, ⟨a6, a7⟩, ⟨a8, a9, a10, a11, a12, a13, a14⟩, c, os, fs⟩ := h
  refine zW_mono (hA k R M hk (RF_tp hF hT) a6) ?_
  obtain ⟨a1, a2, a3, a4, a5⟩ := hF
  rintro ⟨R1, M1⟩ ⟨b1, b2, b3, b4, b5⟩
  dsimp only at b1 b2 b3 b4 b5 ⊢
  have g : ∀ j, j ≠ 3 → j ≠ 4 → j ≠ 5 → j ≠ 6 → j ≠ 12 → ∀ {y : Int32}, R 0 j = y → R1 0 j = y := fun j j3 j4 j5 j6 j12 y e => (b2 j j3 j4 j5 j6 j12).trans e
  refine ⟨⟨fun j j3 j4 j5 j6 j8 j9 j12 j25 j33 j34 j36 j37 => ?_, fun j hj => ?_, fun v v0 v1 v2 v3 => ?_, fun j hj => ?_, fun v hv => ?_⟩, b1, ⟨g 8 (by omega) (by omega) (by omega) (by omega) (by omega) a8, g 9 (by omega) (by omega) (by omega) (by omega) (by omega) a9, g 25 (by omega) (by omega) (by omega) (by omega) (by omega) a10, g 33 (by omega) (by omega) (by omega) (by omega) (by omega) a11, g 34 (by omega) (by omega) (by omega) (by omega) (by omega) a12, g 36 (by omega) (by omega) (by omega) (by omega) (by omega) a13, g 37 (by omega) (by omega) (by omega) (by omega) (by omega) a14⟩, ?_, ?_, ?_⟩
  · rw [b2 j j3 j4 j5 j6 j12]; exact a1 j j3 j4 j5 j6 j8 j9 j12 j25 j33 j34 j36 j37
  · rw [b3 10 (by omega), b3 11 (by omega)]; exact a2 j hj
  · rw [b3 v v0]; exact a3 v v0 v1 v2 v3
  · rw [b4 j hj]; exact a4 j hj
  · rw [b5 v hv]; exact a5 v hv
  · unfold CD; rw [b3 10 (by omega), b3 11 (by omega)]; exact c
  · exact OS_fr os (fun j _ => by rw [b3 18 (by omega)])
  · exact FS_fr fs (fun v j h1 h2 _ => by rw [b3 v (by omega)])
/-! single fields -/
theorem p_s37 (h : RS b fr R0 M0 ed tk k C O o w F R M) {w' : Nat} : RS b fr R0 M0 ed tk k C O o w' F (z_uI R 0 37 (qi w')) M := by
  obtain ⟨-, -, ⟨-, -, a10, a11, a12, a13, a14⟩, c, os, fs⟩ := id h
  refine RS_up h (fun j j1 j2 j3 j4 j5 => z_neK j5) (fun v v0 _ _ _ => z_neP v0) (fun j _ => ⟨by rw [z_neP (by omega)], by rw [z_neP (by omega)]⟩) ?_ ?_ ?_ ?_ z_same ?_ (OS_fr os (fun j _ => by rw [z_neP (by omega)])) (FS_fr fs (fun v j _ _ _ => by rw [z_neP (by omega)]))
  · rw [z_neK (by omega)]; exact a10
  · rw [z_neK (by omega)]; exact a11
  · rw [z_neK (by omega)]; exact a12
  · rw [z_neK (by omega)]; exact a13
  · unfold CD; rw [z_neP (by omega), z_neP (by omega)]; exact c
theorem p_s34 (h : RS b fr R0 M0 ed tk k C O o w F R M) {o' : Nat} : RS b fr R0 M0 ed tk k C O o' w F (z_uI R 0 34 (qi o')) M := by
  obtain ⟨-, -, ⟨-, -, a10, a11, a12, a13, a14⟩, c, os, fs⟩ := id h
  refine RS_up h (fun j j1 j2 j3 j4 j5 => z_neK j3) (fun v v0 _ _ _ => z_neP v0) (fun j _ => ⟨by rw [z_neP (by omega)], by rw [z_neP (by omega)]⟩) ?_ ?_ z_same ?_ ?_ ?_ (OS_fr os (fun j _ => by rw [z_neP (by omega)])) (FS_fr fs (fun v j _ _ _ => by rw [z_neP (by omega)]))
  · rw [z_neK (by omega)]; exact a10
  · rw [z_neK (by omega)]; exact a11
  · rw [z_neK (by omega)]; exact a13
  · rw [z_neK (by omega)]; exact a14
  · unfold CD; rw [z_neP (by omega), z_neP (by omega)]; exact c
theorem p_pop {f : fmT} (h : RS b fr R0 M0 ed tk k C O o w (f :: F) R M) : RS b fr R0 M0 ed tk k C O o w F (z_uI R 0 33 (qi F.length)) M := by
  obtain ⟨-, -, ⟨-, -, a10, a11, a12, a13, a14⟩, c, os, fs⟩ := id h
  refine RS_up h (fun j j1 j2 j3 j4 j5 => z_neK j2) (fun v v0 _ _ _ => z_neP v0) (fun j _ => ⟨by rw [z_neP (by omega)], by rw [z_neP (by omega)]⟩) ?_ z_same ?_ ?_ ?_ ?_ (OS_fr os (fun j _ => by rw [z_neP (by omega)])) (FS_fr fs.2 (fun v j _ _ _ => by rw [z_neP (by omega)]))
  · rw [z_neK (by omega)]; exact a10
  · rw [z_neK (by omega)]; exact a12
  · rw [z_neK (by omega)]; exact a13
  · rw [z_neK (by omega)]; exact a14
  · unfold CD; rw [z_neP (by omega), z_neP (by omega)]; exact c
theorem p_drop {a : Nat} (h : RS b fr R0 M0 ed tk k C (a :: O) o w F R M) : RS b fr R0 M0 ed tk k C O o w F (z_uI R 0 36 (qi O.length)) M := by
  obtain ⟨-, -, ⟨-, -, a10, a11, a12, a13, a14⟩, c, os, fs⟩ := id h
  refine RS_up h (fun j j1 j2 j3 j4 j5 => z_neK j4) (fun v v0 _ _ _ => z_neP v0) (fun j _ => ⟨by rw [z_neP (by omega)], by rw [z_neP (by omega)]⟩) ?_ ?_ ?_ z_same ?_ ?_ (OS_fr os.2 (fun j _ => by rw [z_neP (by omega)])) (FS_fr fs (fun v j _ _ _ => by rw [z_neP (by omega)]))
  · rw [z_neK (by omega)]; exact a10
  · rw [z_neK (by omega)]; exact a11
  · rw [z_neK (by omega)]; exact a12
  · rw [z_neK (by omega)]; exact a14
  · unfold CD; rw [z_neP (by omega), z_neP (by omega)]; exact c
theorem p_fm {v y : Nat} {f g : fmT} (hv : 13 ≤ v ∧ v ≤ 16) (h : RS b fr R0 M0 ed tk k C O o w (f :: F) R M) (hg : FS (f :: F) R → FS (g :: F) (z_uI R v F.length (qi y))) : RS b fr R0 M0 ed tk k C O o w (g :: F) (z_uI R v F.length (qi y)) M := by
  obtain ⟨-, -, ⟨-, -, a10, a11, a12, a13, a14⟩, c, os, fs⟩ := id h
  refine RS_up h (fun j j1 j2 j3 j4 j5 => by rw [z_neP (by omega)]) (fun v v0 _ _ _ => z_neP (by omega)) (fun j _ => ⟨by rw [z_neP (by omega)], by rw [z_neP (by omega)]⟩) ?_ ?_ ?_ ?_ ?_ ?_ (OS_fr os (fun j _ => by rw [z_neP (by omega)])) (hg fs)
  · rw [z_neP (by omega)]; exact a10
  · rw [z_neP (by omega)]; exact a11
  · rw [z_neP (by omega)]; exact a12
  · rw [z_neP (by omega)]; exact a13
  · rw [z_neP (by omega)]; exact a14
  · unfold CD; rw [z_neP (by omega), z_neP (by omega)]; exact c
theorem FS_low {v y : Nat} (h : FS F R) : FS F (z_uI R v F.length (qi y)) := FS_fr h (fun a j _ _ hj => by
  by_cases e : a = v
  · rw [e, z_neK (by omega)]
  · rw [z_neP e])
theorem p_13 {y : Nat} (h : RS b fr R0 M0 ed tk k C O o w ((x, ph, bg, pr, bs) :: F) R M) : RS b fr R0 M0 ed tk k C O o w ((y, ph, bg, pr, bs) :: F) (z_uI R 13 F.length (qi y)) M :=
  p_fm (by omega) h (fun fs => ⟨⟨z_same, by rw [z_neP (by omega)]; exact fs.1.2.1, by rw [z_neP (by omega)]; exact fs.1.2.2.1, by rw [z_neP (by omega)]; exact fs.1.2.2.2.1, by rw [z_neP (by omega)]; exact fs.1.2.2.2.2⟩, FS_low fs.2⟩)
theorem p_14 {y : Nat} (h : RS b fr R0 M0 ed tk k C O o w ((x, ph, bg, pr, bs) :: F) R M) : RS b fr R0 M0 ed tk k C O o w ((x, y, bg, pr, bs) :: F) (z_uI R 14 F.length (qi y)) M :=
  p_fm (by omega) h (fun fs => ⟨⟨by rw [z_neP (by omega)]; exact fs.1.1, z_same, by rw [z_neP (by omega)]; exact fs.1.2.2.1, by rw [z_neP (by omega)]; exact fs.1.2.2.2.1, by rw [z_neP (by omega)]; exact fs.1.2.2.2.2⟩, FS_low fs.2⟩)
theorem p_15 {y : Nat} (h : RS b fr R0 M0 ed tk k C O o w ((x, ph, bg, pr, bs) :: F) R M) : RS b fr R0 M0 ed tk k C O o w ((x, ph, y, pr, bs) :: F) (z_uI R 15 F.length (qi y)) M :=
  p_fm (by omega) h (fun fs => ⟨⟨by rw [z_neP (by omega)]; exact fs.1.1, by rw [z_neP (by omega)]; exact fs.1.2.1, z_same, by rw [z_neP (by omega)]; exact fs.1.2.2.2.1, by rw [z_neP (by omega)]; exact fs.1.2.2.2.2⟩, FS_low fs.2⟩)
theorem p_16 {y : Nat} (h : RS b fr R0 M0 ed tk k C O o w ((x, ph, bg, pr, bs) :: F) R M) : RS b fr R0 M0 ed tk k C O o w ((x, ph, bg, y, bs) :: F) (z_uI R 16 F.length (qi y)) M :=
  p_fm (by omega) h (fun fs => ⟨⟨by rw [z_neP (by omega)]; exact fs.1.1, by rw [z_neP (by omega)]; exact fs.1.2.1, by rw [z_neP (by omega)]; exact fs.1.2.2.1, fun _ => z_same, by rw [z_neP (by omega)]; exact fs.1.2.2.2.2⟩, FS_low fs.2⟩)
end
