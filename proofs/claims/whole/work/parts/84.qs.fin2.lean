section
variable {n : Nat} {K N : Nat → Nat} {G : zG} {V R : zI} {L M : zL} {st w : Nat → Nat} {b u p : Nat} {U : aU}
theorem r_fin (h : urP R M b U w st) (hp : upB w st U) : zW ((f_measures R M).bind fun r1 => f_begin (z_uI r1.1 0 13 (r1.1 0 26)) r1.2) (fun r => UR r.1 r.2 b U ∧ SR r.1 0 (A0 st) ∧ (r.1 0 48 = qi 0 ∧ r.1 0 60 = qi 0) ∧ (∀ j, j ≠ 13 → j ≠ 48 → j ≠ 60 → r.1 0 j = R 0 j) ∧ (∀ x, x ≠ 0 → x ≠ 5 → (x < 20 ∨ 28 ≤ x) → r.1 x = R x) ∧ r.2 = M) := by
  obtain ⟨⟨hb, h26⟩, h4, h6⟩ := urP_w h
  refine zW_call (r_meas (M := M) hb h26 hp.1 h4) ?_
  rintro ⟨R1, M1⟩ ⟨a1, ⟨a2, -⟩, a3⟩
  dsimp only at a1 a2 a3 ⊢
  subst a3
  have e26 : R1 0 26 = qi b := by rw [a2 0 (by omega)]; exact h26
  rw [e26]
  refine zW_mono (r_begin (R := z_uI R1 0 13 (qi b)) (M := M1) (st := st) hb z_same (fun k hk => by rw [z_neP (by omega), a2 6 (by omega)]; exact h6 k hk)) ?_
  rintro ⟨R2, M2⟩ ⟨b1, ⟨b2, b3, b4, b5, b6⟩, b7, b8, b9⟩
  dsimp only at b1 b2 b3 b4 b5 b6 b7 b8 b9 ⊢
  subst b9
  have hfr : ∀ x, x ≠ 0 → x ≠ 5 → (x < 20 ∨ 28 ≤ x) → R2 x = R x := fun x x0 x5 x1 => by
    rw [b8 x x0 (by omega) (by omega) (by omega) (by omega) (by omega) (by omega), z_neP x0]
    exact a2 x x5
  refine ⟨ur_fin h hp (fun k hk => ?_) (fun x x0 x5 x1 => hfr x x0 x5 (Or.inl x1)) ?_ rfl, up_SR b1 ⟨b2, b3, b4⟩, ⟨b5, b6⟩, fun j j1 j2 j3 => ?_, hfr, rfl⟩
  · rw [b8 5 (by omega) (by omega) (by omega) (by omega) (by omega) (by omega) (by omega), z_neP (by omega)]
    exact a1 k hk
  · rw [b7 13 (by omega) (by omega)]
    exact z_same
  · rw [b7 j j2 j3, z_neK j1, a2 0 (by omega)]
theorem ucP_fr {V' : zI} (hu : 28 ≤ u) (h : ucP N G V u U w st) (hv : ∀ x, x ≠ 0 → V' x = V x) : ucP N G V' u U w st := by
  obtain ⟨tw, ct, way, encl, lost, rul, nam⟩ := U
  obtain ⟨a1, a2, a3, a5⟩ := h
  refine ⟨?_, ?_, ?_, fun r hr => ⟨(a5 r hr).1, fun l hl => ?_⟩⟩
  · rw [hv u (by omega)]; exact a1
  · rw [hv (u + 3) (by omega)]; exact a2
  · rw [hv (u + 1) (by omega), hv (u + 2) (by omega)]; exact a3
  · obtain ⟨p, p1, p2, p3, p4⟩ := (a5 r hr).2 l hl
    refine ⟨p, p1, p2, p3, ?_⟩
    rw [hv p (by omega)]
    exact p4
set_option maxHeartbeats 4000000 in
theorem un_end {y1 c q cnt f0 xs s : Nat} {pl : Nat → Nat} (hg : Jg n K N (gS G 0 2 (some u)) u cnt pl) (gy : G y1 5 = some u) (hy : 28 ≤ y1) (hu28 : 28 ≤ u) (v10 : V y1 10 = qi 0) (r8 : R 0 8 = qi 0) (r9 : R 0 9 = V y1 11) (hs : V u 2 = qi s) (h : ucP N (gS G 0 2 (some u)) V u U w st) (hr : urP R M b U w st) (hp : upB w st U) (hU : UB U) (hq : ∀ r p, r < 3 → gS G 0 2 (some u) u (8 + r) = some p → p ≠ u + 3 ∧ 28 ≤ p) (t1 : V 0 1 = qi 0) (t2 : R 0 1 = qi 0) (jr : Jr (V 27) (R 19)) (ji : Ji (V 0 15) (V 26) (R 0 64) (R 35)) (js : Js xs (V 22 0) (M 0 49)) (hf0 : f0 < 20 ∧ R 0 47 = qi f0) (hc : c ≤ 100) (hqq : q ≤ 14000) : zX (f_X10_union_25 0 y1 n c q K N G V L) (f_union_138 (qi s) R M) (fun r r' => r.1 = r'.1 ∧ JQ r.2 r'.2.1 r'.2.2) := by
  obtain ⟨⟨g1, g2, hx, g3, hu, g4, g5⟩, gx⟩ := id hg
  have eV11 : z_uI V 0 3 (V y1 10) y1 11 = V y1 11 := by rw [z_neP (by omega)]
  have eR9 : z_uI R 0 10 (R 0 8) 0 9 = R 0 9 := z_neK (by omega)
  unfold f_X10_union_25 f_union_138
  rw [eV11, eR9]
  have hV0 : ∀ x, x ≠ 0 → z_uI (z_uI V 0 3 (V y1 10)) 0 4 (V y1 11) x = V x := fun x hx' => by rw [z_neP hx', z_neP hx']
  have hR0 : ∀ x, x ≠ 0 → z_uI (z_uI R 0 10 (R 0 8)) 0 11 (R 0 9) x = R x := fun x hx' => by rw [z_neP hx', z_neP hx']
  have hVj : ∀ j, j ≠ 3 → j ≠ 4 → z_uI (z_uI V 0 3 (V y1 10)) 0 4 (V y1 11) 0 j = V 0 j := fun j j1 j2 => by rw [z_neK j2, z_neK j1]
  have hRj : ∀ j, j ≠ 10 → j ≠ 11 → z_uI (z_uI R 0 10 (R 0 8)) 0 11 (R 0 9) 0 j = R 0 j := fun j j1 j2 => by rw [z_neK j2, z_neK j1]
  have e3 : z_uI (z_uI V 0 3 (V y1 10)) 0 4 (V y1 11) 0 3 = qi 0 := by rw [z_neK (by omega), z_same]; exact v10
  have e4 : z_uI (z_uI V 0 3 (V y1 10)) 0 4 (V y1 11) 0 4 = V y1 11 := z_same
  have f10 : z_uI (z_uI R 0 10 (R 0 8)) 0 11 (R 0 9) 0 10 = qi 0 := by rw [z_neK (by omega), z_same]; exact r8
  have f11 : z_uI (z_uI R 0 10 (R 0 8)) 0 11 (R 0 9) 0 11 = R 0 9 := z_same
  have f8 : z_uI (z_uI R 0 10 (R 0 8)) 0 11 (R 0 9) 0 8 = qi 0 := by rw [hRj 8 (by omega) (by omega)]; exact r8
  have h' := ucP_fr hu28 h hV0
  have hr' : urP (z_uI (z_uI R 0 10 (R 0 8)) 0 11 (R 0 9)) M b U w st := by
    obtain ⟨tw, ct, way, encl, lost, rul, nam⟩ := U
    unfold urP at hr ⊢
    rw [hRj 26 (by omega) (by omega), hR0 2 (by omega), hR0 3 (by omega), hR0 4 (by omega), hR0 6 (by omega), hR0 7 (by omega), hR0 8 (by omega), hR0 9 (by omega), hR0 10 (by omega), hR0 11 (by omega)]
    exact hr
  generalize z_uI (z_uI V 0 3 (V y1 10)) 0 4 (V y1 11) = V1 at *
  generalize z_uI (z_uI R 0 10 (R 0 8)) 0 11 (R 0 9) = R1 at *
  rw [if_pos (show V1 0 3 = 0 from e3), if_pos (show R1 0 8 ≤ 0 from by rw [f8]; exact (q_le (a := 0) (b := 0) (by omega) (by omega)).mpr (Nat.le_refl _)), gy]
  simp only [o_bind]
  have e05 : gS G 0 2 (some u) 0 5 = some 6 := hx.1.2.1
  have eu6 : gS G 0 2 (some u) u 6 = some (u + 2) := hu.2.1.2.1
  rw [g3, e05]
  simp only [o_bind]
  rw [eu6]
  simp only [o_bind]
  have hcl := cs_fin (L := L) hx hu hu28 h' hp (fun r p hr' hg' => (hq r p hr' hg').1) (fun r p hr' hg' => (hq r p hr' hg').2)
  obtain ⟨⟨V3, L3⟩, hcl, k1, k2, k3, k4, k5⟩ := hcl
  obtain ⟨⟨R3, M3⟩, hrl, m1, m2, ⟨m3, m4⟩, m5, m6, m7⟩ := r_fin hr' hp
  dsimp only at k1 k2 k3 k4 k5 m1 m2 m3 m4 m5 m6 m7
  cases hw1 : f_X9_findWays N (gS G 0 2 (some u)) u V1 L with
  | none => rw [hw1] at hcl; cases hcl
  | some z1 =>
    rw [hw1] at hcl
    cases hm1 : f_measures R1 M with
    | none => rw [hm1] at hrl; cases hrl
    | some z2 =>
      rw [hm1] at hrl
      have hcl : f_X7_begin N (gS G 0 2 (some u)) 6 (u + 2) z1.1 z1.2 = some (V3, L3) := hcl
      have hrl : f_begin (z_uI z2.1 0 13 (z2.1 0 26)) z2.2 = some (R3, M3) := hrl
      simp only [o_bind]
      rw [hcl, hrl]
      simp only [o_bind]
      refine zX_some ?_
      dsimp only
      refine ⟨?_, JQ_mk hc hqq ⟨u, b, f0, cnt, 0, xs, pl, U, A0 st, fun _ => A0 st, hg, ⟨⟨?_, ?_, m1, m2⟩, ⟨hU, up_SB hp⟩, fun i hi => absurd hi (by omega)⟩, ⟨0, by omega, ?_, ?_, fun k hk => absurd hk (by omega)⟩, ⟨?_, ?_⟩, ?_, ⟨0, by omega, ?_, ?_, fun k hk => absurd hk (by omega)⟩, ?_, ?_, ⟨by omega, hf0.1, ?_, m3, ?_⟩⟩⟩
      · rw [z_neP (by omega), z_neP (by omega), k4, hV0 u (by omega)]; exact hs
      · exact UC_fr2 hu k1 (fun x hx' => by rw [z_neP (by omega), z_neP (by omega)])
      · exact SC_fr k2 (fun x x1 x2 => by rw [z_neP (by omega), z_neP (by omega)])
      · rw [z_neK (by omega), z_neK (by omega), k3 0 (by omega) (by omega) (by omega) (by omega) (by omega), hVj 1 (by omega) (by omega)]; exact t1
      · rw [m5 1 (by omega) (by omega) (by omega), hRj 1 (by omega) (by omega)]; exact t2
      · rw [z_neK (by omega), z_neK (by omega), k3 0 (by omega) (by omega) (by omega) (by omega) (by omega), e3, m5 10 (by omega) (by omega) (by omega), f10]
      · rw [z_neK (by omega), z_neK (by omega), k3 0 (by omega) (by omega) (by omega) (by omega) (by omega), e4, m5 11 (by omega) (by omega) (by omega), f11, r9]
      · intro k hk
        rw [z_neP (by omega), z_neP (by omega), k3 27 (by omega) (by omega) (by omega) (by omega) (by omega), hV0 27 (by omega), m6 19 (by omega) (by omega) (by omega), hR0 19 (by omega)]
        exact jr k hk
      · exact z_same
      · exact m4
      · rw [z_neK (by omega), z_neK (by omega), z_neP (by omega), z_neP (by omega), k3 0 (by omega) (by omega) (by omega) (by omega) (by omega), k3 26 (by omega) (by omega) (by omega) (by omega) (by omega), hVj 15 (by omega) (by omega), hV0 26 (by omega), m5 64 (by omega) (by omega) (by omega), hRj 64 (by omega) (by omega), m6 35 (by omega) (by omega) (by omega), hR0 35 (by omega)]
        exact ji
      · rw [z_neP (by omega), z_neP (by omega), k3 22 (by omega) (by omega) (by omega) (by omega) (by omega), hV0 22 (by omega), m7]
        exact js
      · rw [z_neK (by omega), z_same]; rfl
      · rw [m5 47 (by omega) (by omega) (by omega), hRj 47 (by omega) (by omega)]; exact hf0.2
end
