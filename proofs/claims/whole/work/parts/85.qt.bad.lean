section
variable {n : Nat} {K N : Nat → Nat} {G : zG} {V R : zI} {L M : zL} {u b f0 cnt acts x : Nat} {pl : Nat → Nat} {U : aU} {A : aS} {hi : Nat → aS}
theorem JJ_flt {V' R' : zI} (h : JJ n K N G V R M u b f0 cnt acts x pl U A hi) (hf : Jf (V' 0 3) (V' 0 4) (R' 0 10) (R' 0 11)) (hw : ∀ w, w ≠ 0 → V' w = V w ∧ R' w = R w) (hv : ∀ j, j ≠ 3 → j ≠ 4 → V' 0 j = V 0 j) (hr : ∀ j, j ≠ 10 → j ≠ 11 → R' 0 j = R 0 j) : JJ n K N G V' R' M u b f0 cnt acts x pl U A hi := by
  obtain ⟨h1, h2, h3, h4, h5, h6, h7, h8, h9⟩ := h
  refine ⟨h1, JB_fr h1 h9.1 h2 (fun w hw' => (hw w (by omega)).1) (fun w hw' => (hw w (by omega)).2) (hr 13 (by omega) (by omega)) rfl, ?_, hf, ?_, ?_, ?_, ?_, ?_⟩
  · rw [hv 1 (by omega) (by omega), (hw 1 (by omega)).1, hr 1 (by omega) (by omega), (hw 1 (by omega)).2]; exact h3
  · rw [(hw 27 (by omega)).1, (hw 19 (by omega)).2]; exact h5
  · rw [hv 13 (by omega) (by omega), (hw 24 (by omega)).1, (hw 25 (by omega)).1, hr 60 (by omega) (by omega), (hw 33 (by omega)).2, (hw 34 (by omega)).2]; exact h6
  · rw [hv 15 (by omega) (by omega), (hw 26 (by omega)).1, hr 64 (by omega) (by omega), (hw 35 (by omega)).2]; exact h7
  · rw [(hw 22 (by omega)).1]; exact h8
  · rw [hv 10 (by omega) (by omega), hr 48 (by omega) (by omega), hr 47 (by omega) (by omega)]; exact h9
/-- union's end with a fault -/
theorem un_bad {y1 c q k : Nat} {xx : Int32} (h : JJ n K N G V R M u b f0 cnt acts x pl U A hi) (hy : y1 ≠ 0) (e10 : V y1 10 = qi k) (r8 : R 0 8 = qi k) (hk : 0 < k ∧ k < 100) (e11 : R 0 9 = V y1 11) (hc : c ≤ 100) (hq : q ≤ 14000) : zX (f_X10_union_25 0 y1 n c q K N G V L) (f_union_138 xx R M) (fun r r' => r.1 = r'.1 ∧ JQ r.2 r'.2.1 r'.2.2) := by
  have eV11 : z_uI V 0 3 (V y1 10) y1 11 = V y1 11 := by rw [z_neP hy]
  have eR9 : z_uI R 0 10 (R 0 8) 0 9 = R 0 9 := z_neK (by omega)
  unfold f_X10_union_25 f_union_138
  rw [eV11, eR9]
  have e3 : z_uI (z_uI V 0 3 (V y1 10)) 0 4 (V y1 11) 0 3 = qi k := by rw [z_neK (by omega), z_same]; exact e10
  have e4 : z_uI (z_uI V 0 3 (V y1 10)) 0 4 (V y1 11) 0 4 = V y1 11 := z_same
  have f10 : z_uI (z_uI R 0 10 (R 0 8)) 0 11 (R 0 9) 0 10 = qi k := by rw [z_neK (by omega), z_same]; exact r8
  have f11 : z_uI (z_uI R 0 10 (R 0 8)) 0 11 (R 0 9) 0 11 = R 0 9 := z_same
  have f8 : z_uI (z_uI R 0 10 (R 0 8)) 0 11 (R 0 9) 0 8 = qi k := by rw [z_neK (by omega), z_neK (by omega)]; exact r8
  have h1 := JJ_flt (V' := z_uI (z_uI V 0 3 (V y1 10)) 0 4 (V y1 11)) (R' := z_uI (z_uI R 0 10 (R 0 8)) 0 11 (R 0 9)) h ⟨by rw [e3, f10], by rw [e4, f11, e11]⟩ (fun w hw => ⟨by rw [z_neP hw, z_neP hw], by rw [z_neP hw, z_neP hw]⟩) (fun j j1 j2 => by rw [z_neK j2, z_neK j1]) (fun j j1 j2 => by rw [z_neK j2, z_neK j1])
  generalize z_uI (z_uI V 0 3 (V y1 10)) 0 4 (V y1 11) = V1 at *
  generalize z_uI (z_uI R 0 10 (R 0 8)) 0 11 (R 0 9) = R1 at *
  rw [if_neg (show ¬ V1 0 3 = 0 from fun g => by rw [e3] at g; have := (q_eq (a := k) (b := 0) (by omega) (by omega)).mp g; omega), if_neg (show ¬ R1 0 8 ≤ 0 from fun g => by rw [f8] at g; have := (q_le (a := k) (b := 0) (by omega) (by omega)).mp g; omega)]
  refine zX_call (x_refuse (L := L) (k := 1) (by omega) h1) ?_
  rintro ⟨v, V2, L2⟩ ⟨v', R2, M2⟩ ⟨p1, p2, p3⟩
  dsimp only at p1 p2 p3 ⊢
  refine zX_some ?_
  dsimp only
  exact ⟨p1.trans p2.symm, JQ_mk hc hq ⟨u, b, f0, cnt, acts, x, pl, U, A, hi, p3⟩⟩
end
