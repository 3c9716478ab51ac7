set_option maxHeartbeats 4000000 in
set_option maxRecDepth 100000 in
theorem lc_silent {I : Nat → zS → zI → zL → Prop} (hI : LI I) : lCase I 11 535 := by
  intro M D cy b0 Lx xs sa sb j S V L ad ad2 ls X hM hL hj hS hWF hl kk
  obtain ⟨v, S', V', L', hC, hR, hI2⟩ := hI.2.1 j 11 (fun t => xs (6 * j + t)) S V L (by omega) (by decide) hS
  obtain ⟨h0, hc0, hq0⟩ := hI.1 _ _ _ _ hS
  obtain ⟨-, hcc, hqq⟩ := hI.1 _ _ _ _ hI2
  obtain ⟨n, c, q, K, N, G, V1, L1⟩ := S
  have hR : f_silent  V L = some (v, V', L') := hR
  have hC : (f_X10_silent N G 0  V1 L1).bind (fun r => some (r.1, (n, 0, 0, K, N, G, r.2.1, r.2.2))) = some (v, S') := hC
  obtain ⟨r1, hc1, hC⟩ := z_bind hC
  obtain ⟨rfl, rfl⟩ := Prod.mk.inj (Option.some.inj hC)
  have X1 := LX.at X (c' := c) (q' := q) ⟨by rw [hM.1]; exact hc0, by rw [hM.2]; exact hq0⟩
  refine zl_aload_n X1 dL_law_535 rfl (lv_at hl 1 rfl) ?_
  refine zl_callT [] X1 hl.1 (RCi.toT hWF (c_X10_silent D cy ad hWF h0 hc1)) h0 rfl lm_C_silent lg_C_silent rfl lp_C_silent ⟨by decide, by decide⟩ (Nat.le_of_ble_eq_true rfl) rfl ⟨by rw [hM.1]; exact hcc, by rw [hM.2]; exact hqq⟩ dL_law_536 (fun ad' hag hWF2 hnn hKg => ?_)
  have X2 := LX.at X1 (c' := _) (q' := _) ⟨Nat.le_trans hcc (Nat.le_of_eq hM.1.symm), Nat.le_trans hqq (Nat.le_of_eq hM.2.symm)⟩
  refine zl_aload_n X2 dL_law_539 rfl (lv_at hl 2 rfl) ?_
  refine zl_callM [] X2 hl.1 (c_silent D cy ad2 hR) rfl lm_M_silent lg_M_silent rfl lp_M_silent ⟨by decide, by decide⟩ (Nat.le_of_ble_eq_true rfl) rfl dL_law_540 ?_
  refine zl_icmp_eq (tgt := 1025) X2 dL_law_543 (by decide) (fun _ => ?_) (fun c_ => absurd rfl c_)
  exact kk _ V' L' ad' hI2 hWF2 (hag 0 h0.1)
set_option maxHeartbeats 4000000 in
set_option maxRecDepth 100000 in
theorem lc_word {I : Nat → zS → zI → zL → Prop} (hI : LI I) : lCase I 12 548 := by
  intro M D cy b0 Lx xs sa sb j S V L ad ad2 ls X hM hL hj hS hWF hl kk
  obtain ⟨v, S', V', L', hC, hR, hI2⟩ := hI.2.1 j 12 (fun t => xs (6 * j + t)) S V L (by omega) (by decide) hS
  obtain ⟨h0, hc0, hq0⟩ := hI.1 _ _ _ _ hS
  obtain ⟨-, hcc, hqq⟩ := hI.1 _ _ _ _ hI2
  obtain ⟨n, c, q, K, N, G, V1, L1⟩ := S
  have hR : f_word (xs (6 * j + 1)) V L = some (v, V', L') := hR
  have hC : (f_X10_word N G 0 (xs (6 * j + 1)) V1 L1).bind (fun r => some (r, (n, 0, 0, K, N, G, V1, L1))) = some (v, S') := hC
  obtain ⟨r1, hc1, hC⟩ := z_bind hC
  obtain ⟨rfl, rfl⟩ := Prod.mk.inj (Option.some.inj hC)
  have X1 := LX.at X (c' := c) (q' := q) ⟨by rw [hM.1]; exact hc0, by rw [hM.2]; exact hq0⟩
  refine zl_aload_n X1 dL_law_548 rfl (lv_at hl 1 rfl) ?_
  refine zl_aload_n X1 dL_law_549 rfl (lv_at hl 0 rfl) ?_
  refine zl_iload_n X1 dL_law_550 rfl (lv_at hl 3 rfl) ?_
  refine zl_iconst (v := 1) X1 dL_law_551 (by decide) ?_
  refine zl_iadd X1 dL_law_552 ?_
  refine zl_sldK X1 (zl_ix hj hL (t := 1) (by decide)) dL_law_553 ?_
  refine zl_callT [.int (xs (6 * j + 1))] X1 hl.1 (RCi.toT hWF (c_X10_word D cy ad hWF h0 hc1)) h0 rfl lm_C_word lg_C_word rfl lp_C_word ⟨by decide, by decide⟩ (Nat.le_of_ble_eq_true rfl) rfl ⟨by rw [hM.1]; exact hcc, by rw [hM.2]; exact hqq⟩ dL_law_554 (fun ad' hag hWF2 hnn hKg => ?_)
  have X2 := LX.at X1 (c' := _) (q' := _) ⟨Nat.le_trans hcc (Nat.le_of_eq hM.1.symm), Nat.le_trans hqq (Nat.le_of_eq hM.2.symm)⟩
  refine zl_aload_n X2 dL_law_557 rfl (lv_at hl 2 rfl) ?_
  refine zl_aload_n X2 dL_law_558 rfl (lv_at hl 0 rfl) ?_
  refine zl_iload_n X2 dL_law_559 rfl (lv_at hl 3 rfl) ?_
  refine zl_iconst (v := 1) X2 dL_law_560 (by decide) ?_
  refine zl_iadd X2 dL_law_561 ?_
  refine zl_sldK X2 (zl_ix hj hL (t := 1) (by decide)) dL_law_562 ?_
  refine zl_callM [.int (xs (6 * j + 1))] X2 hl.1 (c_word D cy ad2 hR) rfl lm_M_word lg_M_word rfl lp_M_word ⟨by decide, by decide⟩ (Nat.le_of_ble_eq_true rfl) rfl dL_law_563 ?_
  refine zl_icmp_eq (tgt := 1025) X2 dL_law_566 (by decide) (fun _ => ?_) (fun c_ => absurd rfl c_)
  exact kk _ V' L' ad' hI2 hWF2 (hag 0 h0.1)
set_option maxHeartbeats 4000000 in
set_option maxRecDepth 100000 in
theorem lc_wide {I : Nat → zS → zI → zL → Prop} (hI : LI I) : lCase I 13 571 := by
  intro M D cy b0 Lx xs sa sb j S V L ad ad2 ls X hM hL hj hS hWF hl kk
  obtain ⟨v, S', V', L', hC, hR, hI2⟩ := hI.2.1 j 13 (fun t => xs (6 * j + t)) S V L (by omega) (by decide) hS
  obtain ⟨h0, hc0, hq0⟩ := hI.1 _ _ _ _ hS
  obtain ⟨-, hcc, hqq⟩ := hI.1 _ _ _ _ hI2
  obtain ⟨n, c, q, K, N, G, V1, L1⟩ := S
  have hR : f_wide (xs (6 * j + 1)) V L = some (v, V', L') := hR
  have hC : f_X10_wide 0 (xs (6 * j + 1)) n K N G V1 L1 = some (v, S') := hC
  have X1 := LX.at X (c' := c) (q' := q) ⟨by rw [hM.1]; exact hc0, by rw [hM.2]; exact hq0⟩
  refine zl_aload_n X1 dL_law_571 rfl (lv_at hl 1 rfl) ?_
  refine zl_aload_n X1 dL_law_572 rfl (lv_at hl 0 rfl) ?_
  refine zl_iload_n X1 dL_law_573 rfl (lv_at hl 3 rfl) ?_
  refine zl_iconst (v := 1) X1 dL_law_574 (by decide) ?_
  refine zl_iadd X1 dL_law_575 ?_
  refine zl_sldK X1 (zl_ix hj hL (t := 1) (by decide)) dL_law_576 ?_
  refine zl_callT [.int (xs (6 * j + 1))] X1 hl.1 (RAi.toT (c_X10_wide D cy ad hWF h0 hC)) h0 rfl lm_C_wide lg_C_wide rfl lp_C_wide ⟨by decide, by decide⟩ (Nat.le_of_ble_eq_true rfl) rfl ⟨by rw [hM.1]; exact hcc, by rw [hM.2]; exact hqq⟩ dL_law_577 (fun ad' hag hWF2 hnn hKg => ?_)
  have X2 := LX.at X1 (c' := _) (q' := _) ⟨Nat.le_trans hcc (Nat.le_of_eq hM.1.symm), Nat.le_trans hqq (Nat.le_of_eq hM.2.symm)⟩
  refine zl_aload_n X2 dL_law_580 rfl (lv_at hl 2 rfl) ?_
  refine zl_aload_n X2 dL_law_581 rfl (lv_at hl 0 rfl) ?_
  refine zl_iload_n X2 dL_law_582 rfl (lv_at hl 3 rfl) ?_
  refine zl_iconst (v := 1) X2 dL_law_583 (by decide) ?_
  refine zl_iadd X2 dL_law_584 ?_
  refine zl_sldK X2 (zl_ix hj hL (t := 1) (by decide)) dL_law_585 ?_
  refine zl_callM [.int (xs (6 * j + 1))] X2 hl.1 (c_wide D cy ad2 hR) rfl lm_M_wide lg_M_wide rfl lp_M_wide ⟨by decide, by decide⟩ (Nat.le_of_ble_eq_true rfl) rfl dL_law_586 ?_
  refine zl_icmp_eq (tgt := 1025) X2 dL_law_589 (by decide) (fun _ => ?_) (fun c_ => absurd rfl c_)
  exact kk _ V' L' ad' hI2 hWF2 (hag 0 h0.1)
set_option maxHeartbeats 4000000 in
set_option maxRecDepth 100000 in
theorem lc_cut {I : Nat → zS → zI → zL → Prop} (hI : LI I) : lCase I 14 594 := by
  intro M D cy b0 Lx xs sa sb j S V L ad ad2 ls X hM hL hj hS hWF hl kk
  obtain ⟨v, S', V', L', hC, hR, hI2⟩ := hI.2.1 j 14 (fun t => xs (6 * j + t)) S V L (by omega) (by decide) hS
  obtain ⟨h0, hc0, hq0⟩ := hI.1 _ _ _ _ hS
  obtain ⟨-, hcc, hqq⟩ := hI.1 _ _ _ _ hI2
  obtain ⟨n, c, q, K, N, G, V1, L1⟩ := S
  have hR : f_cut (xs (6 * j + 1)) (xs (6 * j + 2)) (xs (6 * j + 3)) V L = some (v, V', L') := hR
  have hC : f_X10_cut 0 (xs (6 * j + 1)) (xs (6 * j + 2)) (xs (6 * j + 3)) n K N G V1 L1 = some (v, S') := hC
  have X1 := LX.at X (c' := c) (q' := q) ⟨by rw [hM.1]; exact hc0, by rw [hM.2]; exact hq0⟩
  refine zl_aload_n X1 dL_law_594 rfl (lv_at hl 1 rfl) ?_
  refine zl_aload_n X1 dL_law_595 rfl (lv_at hl 0 rfl) ?_
  refine zl_iload_n X1 dL_law_596 rfl (lv_at hl 3 rfl) ?_
  refine zl_iconst (v := 1) X1 dL_law_597 (by decide) ?_
  refine zl_iadd X1 dL_law_598 ?_
  refine zl_sldK X1 (zl_ix hj hL (t := 1) (by decide)) dL_law_599 ?_
  refine zl_aload_n X1 dL_law_600 rfl (lv_at hl 0 rfl) ?_
  refine zl_iload_n X1 dL_law_601 rfl (lv_at hl 3 rfl) ?_
  refine zl_iconst (v := 2) X1 dL_law_602 (by decide) ?_
  refine zl_iadd X1 dL_law_603 ?_
  refine zl_sldK X1 (zl_ix hj hL (t := 2) (by decide)) dL_law_604 ?_
  refine zl_aload_n X1 dL_law_605 rfl (lv_at hl 0 rfl) ?_
  refine zl_iload_n X1 dL_law_606 rfl (lv_at hl 3 rfl) ?_
  refine zl_iconst (v := 3) X1 dL_law_607 (by decide) ?_
  refine zl_iadd X1 dL_law_608 ?_
  refine zl_sldK X1 (zl_ix hj hL (t := 3) (by decide)) dL_law_609 ?_
  refine zl_callT [.int (xs (6 * j + 1)), .int (xs (6 * j + 2)), .int (xs (6 * j + 3))] X1 hl.1 (RAi.toT (c_X10_cut D cy ad hWF h0 hC)) h0 rfl lm_C_cut lg_C_cut rfl lp_C_cut ⟨by decide, by decide⟩ (Nat.le_of_ble_eq_true rfl) rfl ⟨by rw [hM.1]; exact hcc, by rw [hM.2]; exact hqq⟩ dL_law_610 (fun ad' hag hWF2 hnn hKg => ?_)
  have X2 := LX.at X1 (c' := _) (q' := _) ⟨Nat.le_trans hcc (Nat.le_of_eq hM.1.symm), Nat.le_trans hqq (Nat.le_of_eq hM.2.symm)⟩
  refine zl_aload_n X2 dL_law_613 rfl (lv_at hl 2 rfl) ?_
  refine zl_aload_n X2 dL_law_614 rfl (lv_at hl 0 rfl) ?_
  refine zl_iload_n X2 dL_law_615 rfl (lv_at hl 3 rfl) ?_
  refine zl_iconst (v := 1) X2 dL_law_616 (by decide) ?_
  refine zl_iadd X2 dL_law_617 ?_
  refine zl_sldK X2 (zl_ix hj hL (t := 1) (by decide)) dL_law_618 ?_
  refine zl_aload_n X2 dL_law_619 rfl (lv_at hl 0 rfl) ?_
  refine zl_iload_n X2 dL_law_620 rfl (lv_at hl 3 rfl) ?_
  refine zl_iconst (v := 2) X2 dL_law_621 (by decide) ?_
  refine zl_iadd X2 dL_law_622 ?_
  refine zl_sldK X2 (zl_ix hj hL (t := 2) (by decide)) dL_law_623 ?_
  refine zl_aload_n X2 dL_law_624 rfl (lv_at hl 0 rfl) ?_
  refine zl_iload_n X2 dL_law_625 rfl (lv_at hl 3 rfl) ?_
  refine zl_iconst (v := 3) X2 dL_law_626 (by decide) ?_
  refine zl_iadd X2 dL_law_627 ?_
  refine zl_sldK X2 (zl_ix hj hL (t := 3) (by decide)) dL_law_628 ?_
  refine zl_callM [.int (xs (6 * j + 1)), .int (xs (6 * j + 2)), .int (xs (6 * j + 3))] X2 hl.1 (c_cut D cy ad2 hR) rfl lm_M_cut lg_M_cut rfl lp_M_cut ⟨by decide, by decide⟩ (Nat.le_of_ble_eq_true rfl) rfl dL_law_629 ?_
  refine zl_icmp_eq (tgt := 1025) X2 dL_law_632 (by decide) (fun _ => ?_) (fun c_ => absurd rfl c_)
  exact kk _ V' L' ad' hI2 hWF2 (hag 0 h0.1)
set_option maxHeartbeats 4000000 in
set_option maxRecDepth 100000 in
theorem lc_ring {I : Nat → zS → zI → zL → Prop} (hI : LI I) : lCase I 15 637 := by
  intro M D cy b0 Lx xs sa sb j S V L ad ad2 ls X hM hL hj hS hWF hl kk
  obtain ⟨v, S', V', L', hC, hR, hI2⟩ := hI.2.1 j 15 (fun t => xs (6 * j + t)) S V L (by omega) (by decide) hS
  obtain ⟨h0, hc0, hq0⟩ := hI.1 _ _ _ _ hS
  obtain ⟨-, hcc, hqq⟩ := hI.1 _ _ _ _ hI2
  obtain ⟨n, c, q, K, N, G, V1, L1⟩ := S
  have hR : f_ring (xs (6 * j + 1)) (xs (6 * j + 2)) V L = some (v, V', L') := hR
  have hC : f_X10_ring 0 (xs (6 * j + 1)) (xs (6 * j + 2)) n K N G V1 L1 = some (v, S') := hC
  have X1 := LX.at X (c' := c) (q' := q) ⟨by rw [hM.1]; exact hc0, by rw [hM.2]; exact hq0⟩
  refine zl_aload_n X1 dL_law_637 rfl (lv_at hl 1 rfl) ?_
  refine zl_aload_n X1 dL_law_638 rfl (lv_at hl 0 rfl) ?_
  refine zl_iload_n X1 dL_law_639 rfl (lv_at hl 3 rfl) ?_
  refine zl_iconst (v := 1) X1 dL_law_640 (by decide) ?_
  refine zl_iadd X1 dL_law_641 ?_
  refine zl_sldK X1 (zl_ix hj hL (t := 1) (by decide)) dL_law_642 ?_
  refine zl_aload_n X1 dL_law_643 rfl (lv_at hl 0 rfl) ?_
  refine zl_iload_n X1 dL_law_644 rfl (lv_at hl 3 rfl) ?_
  refine zl_iconst (v := 2) X1 dL_law_645 (by decide) ?_
  refine zl_iadd X1 dL_law_646 ?_
  refine zl_sldK X1 (zl_ix hj hL (t := 2) (by decide)) dL_law_647 ?_
  refine zl_callT [.int (xs (6 * j + 1)), .int (xs (6 * j + 2))] X1 hl.1 (RAi.toT (c_X10_ring D cy ad hWF h0 hC)) h0 rfl lm_C_ring lg_C_ring rfl lp_C_ring ⟨by decide, by decide⟩ (Nat.le_of_ble_eq_true rfl) rfl ⟨by rw [hM.1]; exact hcc, by rw [hM.2]; exact hqq⟩ dL_law_648 (fun ad' hag hWF2 hnn hKg => ?_)
  have X2 := LX.at X1 (c' := _) (q' := _) ⟨Nat.le_trans hcc (Nat.le_of_eq hM.1.symm), Nat.le_trans hqq (Nat.le_of_eq hM.2.symm)⟩
  refine zl_aload_n X2 dL_law_651 rfl (lv_at hl 2 rfl) ?_
  refine zl_aload_n X2 dL_law_652 rfl (lv_at hl 0 rfl) ?_
  refine zl_iload_n X2 dL_law_653 rfl (lv_at hl 3 rfl) ?_
  refine zl_iconst (v := 1) X2 dL_law_654 (by decide) ?_
  refine zl_iadd X2 dL_law_655 ?_
  refine zl_sldK X2 (zl_ix hj hL (t := 1) (by decide)) dL_law_656 ?_
  refine zl_aload_n X2 dL_law_657 rfl (lv_at hl 0 rfl) ?_
  refine zl_iload_n X2 dL_law_658 rfl (lv_at hl 3 rfl) ?_
  refine zl_iconst (v := 2) X2 dL_law_659 (by decide) ?_
  refine zl_iadd X2 dL_law_660 ?_
  refine zl_sldK X2 (zl_ix hj hL (t := 2) (by decide)) dL_law_661 ?_
  refine zl_callM [.int (xs (6 * j + 1)), .int (xs (6 * j + 2))] X2 hl.1 (c_ring D cy ad2 hR) rfl lm_M_ring lg_M_ring rfl lp_M_ring ⟨by decide, by decide⟩ (Nat.le_of_ble_eq_true rfl) rfl dL_law_662 ?_
  refine zl_icmp_eq (tgt := 1025) X2 dL_law_665 (by decide) (fun _ => ?_) (fun c_ => absurd rfl c_)
  exact kk _ V' L' ad' hI2 hWF2 (hag 0 h0.1)
set_option maxHeartbeats 4000000 in
set_option maxRecDepth 100000 in
theorem lc_swap {I : Nat → zS → zI → zL → Prop} (hI : LI I) : lCase I 16 670 := by
  intro M D cy b0 Lx xs sa sb j S V L ad ad2 ls X hM hL hj hS hWF hl kk
  obtain ⟨v, S', V', L', hC, hR, hI2⟩ := hI.2.1 j 16 (fun t => xs (6 * j + t)) S V L (by omega) (by decide) hS
  obtain ⟨h0, hc0, hq0⟩ := hI.1 _ _ _ _ hS
  obtain ⟨-, hcc, hqq⟩ := hI.1 _ _ _ _ hI2
  obtain ⟨n, c, q, K, N, G, V1, L1⟩ := S
  have hR : f_swap (xs (6 * j + 1)) V L = some (v, V', L') := hR
  have hC : f_X10_swap 0 (xs (6 * j + 1)) n K N G V1 L1 = some (v, S') := hC
  have X1 := LX.at X (c' := c) (q' := q) ⟨by rw [hM.1]; exact hc0, by rw [hM.2]; exact hq0⟩
  refine zl_aload_n X1 dL_law_670 rfl (lv_at hl 1 rfl) ?_
  refine zl_aload_n X1 dL_law_671 rfl (lv_at hl 0 rfl) ?_
  refine zl_iload_n X1 dL_law_672 rfl (lv_at hl 3 rfl) ?_
  refine zl_iconst (v := 1) X1 dL_law_673 (by decide) ?_
  refine zl_iadd X1 dL_law_674 ?_
  refine zl_sldK X1 (zl_ix hj hL (t := 1) (by decide)) dL_law_675 ?_
  refine zl_callT [.int (xs (6 * j + 1))] X1 hl.1 (RAi.toT (c_X10_swap D cy ad hWF h0 hC)) h0 rfl lm_C_swap lg_C_swap rfl lp_C_swap ⟨by decide, by decide⟩ (Nat.le_of_ble_eq_true rfl) rfl ⟨by rw [hM.1]; exact hcc, by rw [hM.2]; exact hqq⟩ dL_law_676 (fun ad' hag hWF2 hnn hKg => ?_)
  have X2 := LX.at X1 (c' := _) (q' := _) ⟨Nat.le_trans hcc (Nat.le_of_eq hM.1.symm), Nat.le_trans hqq (Nat.le_of_eq hM.2.symm)⟩
  refine zl_aload_n X2 dL_law_679 rfl (lv_at hl 2 rfl) ?_
  refine zl_aload_n X2 dL_law_680 rfl (lv_at hl 0 rfl) ?_
  refine zl_iload_n X2 dL_law_681 rfl (lv_at hl 3 rfl) ?_
  refine zl_iconst (v := 1) X2 dL_law_682 (by decide) ?_
  refine zl_iadd X2 dL_law_683 ?_
  refine zl_sldK X2 (zl_ix hj hL (t := 1) (by decide)) dL_law_684 ?_
  refine zl_callM [.int (xs (6 * j + 1))] X2 hl.1 (c_swap D cy ad2 hR) rfl lm_M_swap lg_M_swap rfl lp_M_swap ⟨by decide, by decide⟩ (Nat.le_of_ble_eq_true rfl) rfl dL_law_685 ?_
  refine zl_icmp_eq (tgt := 1025) X2 dL_law_688 (by decide) (fun _ => ?_) (fun c_ => absurd rfl c_)
  exact kk _ V' L' ad' hI2 hWF2 (hag 0 h0.1)
set_option maxHeartbeats 4000000 in
set_option maxRecDepth 100000 in
theorem lc_bag {I : Nat → zS → zI → zL → Prop} (hI : LI I) : lCase I 17 693 := by
  intro M D cy b0 Lx xs sa sb j S V L ad ad2 ls X hM hL hj hS hWF hl kk
  obtain ⟨v, S', V', L', hC, hR, hI2⟩ := hI.2.1 j 17 (fun t => xs (6 * j + t)) S V L (by omega) (by decide) hS
  obtain ⟨h0, hc0, hq0⟩ := hI.1 _ _ _ _ hS
  obtain ⟨-, hcc, hqq⟩ := hI.1 _ _ _ _ hI2
  obtain ⟨n, c, q, K, N, G, V1, L1⟩ := S
  have hR : f_bag  V L = some (v, V', L') := hR
  have hC : (f_X10_bag N G 0  V1 L1).bind (fun r => some (r.1, (n, 0, 0, K, N, G, r.2.1, r.2.2))) = some (v, S') := hC
  obtain ⟨r1, hc1, hC⟩ := z_bind hC
  obtain ⟨rfl, rfl⟩ := Prod.mk.inj (Option.some.inj hC)
  have X1 := LX.at X (c' := c) (q' := q) ⟨by rw [hM.1]; exact hc0, by rw [hM.2]; exact hq0⟩
  refine zl_aload_n X1 dL_law_693 rfl (lv_at hl 1 rfl) ?_
  refine zl_callT [] X1 hl.1 (RCi.toT hWF (c_X10_bag D cy ad hWF h0 hc1)) h0 rfl lm_C_bag lg_C_bag rfl lp_C_bag ⟨by decide, by decide⟩ (Nat.le_of_ble_eq_true rfl) rfl ⟨by rw [hM.1]; exact hcc, by rw [hM.2]; exact hqq⟩ dL_law_694 (fun ad' hag hWF2 hnn hKg => ?_)
  have X2 := LX.at X1 (c' := _) (q' := _) ⟨Nat.le_trans hcc (Nat.le_of_eq hM.1.symm), Nat.le_trans hqq (Nat.le_of_eq hM.2.symm)⟩
  refine zl_aload_n X2 dL_law_697 rfl (lv_at hl 2 rfl) ?_
  refine zl_callM [] X2 hl.1 (c_bag D cy ad2 hR) rfl lm_M_bag lg_M_bag rfl lp_M_bag ⟨by decide, by decide⟩ (Nat.le_of_ble_eq_true rfl) rfl dL_law_698 ?_
  refine zl_icmp_eq (tgt := 1025) X2 dL_law_701 (by decide) (fun _ => ?_) (fun c_ => absurd rfl c_)
  exact kk _ V' L' ad' hI2 hWF2 (hag 0 h0.1)
set_option maxHeartbeats 4000000 in
set_option maxRecDepth 100000 in
theorem lc_whose {I : Nat → zS → zI → zL → Prop} (hI : LI I) : lCase I 18 706 := by
  intro M D cy b0 Lx xs sa sb j S V L ad ad2 ls X hM hL hj hS hWF hl kk
  obtain ⟨v, S', V', L', hC, hR, hI2⟩ := hI.2.1 j 18 (fun t => xs (6 * j + t)) S V L (by omega) (by decide) hS
  obtain ⟨h0, hc0, hq0⟩ := hI.1 _ _ _ _ hS
  obtain ⟨-, hcc, hqq⟩ := hI.1 _ _ _ _ hI2
  obtain ⟨n, c, q, K, N, G, V1, L1⟩ := S
  have hR : f_whose (xs (6 * j + 1)) V L = some (v, V', L') := hR
  have hC : (f_X10_whose N G 0 (xs (6 * j + 1)) V1 L1).bind (fun r => some (r, (n, 0, 0, K, N, G, V1, L1))) = some (v, S') := hC
  obtain ⟨r1, hc1, hC⟩ := z_bind hC
  obtain ⟨rfl, rfl⟩ := Prod.mk.inj (Option.some.inj hC)
  have X1 := LX.at X (c' := c) (q' := q) ⟨by rw [hM.1]; exact hc0, by rw [hM.2]; exact hq0⟩
  refine zl_aload_n X1 dL_law_706 rfl (lv_at hl 1 rfl) ?_
  refine zl_aload_n X1 dL_law_707 rfl (lv_at hl 0 rfl) ?_
  refine zl_iload_n X1 dL_law_708 rfl (lv_at hl 3 rfl) ?_
  refine zl_iconst (v := 1) X1 dL_law_709 (by decide) ?_
  refine zl_iadd X1 dL_law_710 ?_
  refine zl_sldK X1 (zl_ix hj hL (t := 1) (by decide)) dL_law_711 ?_
  refine zl_callT [.int (xs (6 * j + 1))] X1 hl.1 (RCi.toT hWF (c_X10_whose D cy ad hWF h0 hc1)) h0 rfl lm_C_whose lg_C_whose rfl lp_C_whose ⟨by decide, by decide⟩ (Nat.le_of_ble_eq_true rfl) rfl ⟨by rw [hM.1]; exact hcc, by rw [hM.2]; exact hqq⟩ dL_law_712 (fun ad' hag hWF2 hnn hKg => ?_)
  have X2 := LX.at X1 (c' := _) (q' := _) ⟨Nat.le_trans hcc (Nat.le_of_eq hM.1.symm), Nat.le_trans hqq (Nat.le_of_eq hM.2.symm)⟩
  refine zl_aload_n X2 dL_law_715 rfl (lv_at hl 2 rfl) ?_
  refine zl_aload_n X2 dL_law_716 rfl (lv_at hl 0 rfl) ?_
  refine zl_iload_n X2 dL_law_717 rfl (lv_at hl 3 rfl) ?_
  refine zl_iconst (v := 1) X2 dL_law_718 (by decide) ?_
  refine zl_iadd X2 dL_law_719 ?_
  refine zl_sldK X2 (zl_ix hj hL (t := 1) (by decide)) dL_law_720 ?_
  refine zl_callM [.int (xs (6 * j + 1))] X2 hl.1 (c_whose D cy ad2 hR) rfl lm_M_whose lg_M_whose rfl lp_M_whose ⟨by decide, by decide⟩ (Nat.le_of_ble_eq_true rfl) rfl dL_law_721 ?_
  refine zl_icmp_eq (tgt := 1025) X2 dL_law_724 (by decide) (fun _ => ?_) (fun c_ => absurd rfl c_)
  exact kk _ V' L' ad' hI2 hWF2 (hag 0 h0.1)
set_option maxHeartbeats 4000000 in
set_option maxRecDepth 100000 in
theorem lc_days {I : Nat → zS → zI → zL → Prop} (hI : LI I) : lCase I 19 729 := by
  intro M D cy b0 Lx xs sa sb j S V L ad ad2 ls X hM hL hj hS hWF hl kk
  obtain ⟨v, S', V', L', hC, hR, hI2⟩ := hI.2.1 j 19 (fun t => xs (6 * j + t)) S V L (by omega) (by decide) hS
  obtain ⟨h0, hc0, hq0⟩ := hI.1 _ _ _ _ hS
  obtain ⟨-, hcc, hqq⟩ := hI.1 _ _ _ _ hI2
  obtain ⟨n, c, q, K, N, G, V1, L1⟩ := S
  have hR : f_days (xs (6 * j + 1)) V L = some (v, V', L') := hR
  have hC : f_X10_days 0 (xs (6 * j + 1)) n K N G V1 L1 = some (v, S') := hC
  have X1 := LX.at X (c' := c) (q' := q) ⟨by rw [hM.1]; exact hc0, by rw [hM.2]; exact hq0⟩
  refine zl_aload_n X1 dL_law_729 rfl (lv_at hl 1 rfl) ?_
  refine zl_aload_n X1 dL_law_730 rfl (lv_at hl 0 rfl) ?_
  refine zl_iload_n X1 dL_law_731 rfl (lv_at hl 3 rfl) ?_
  refine zl_iconst (v := 1) X1 dL_law_732 (by decide) ?_
  refine zl_iadd X1 dL_law_733 ?_
  refine zl_sldK X1 (zl_ix hj hL (t := 1) (by decide)) dL_law_734 ?_
  refine zl_callT [.int (xs (6 * j + 1))] X1 hl.1 (RAi.toT (c_X10_days D cy ad hWF h0 hC)) h0 rfl lm_C_days lg_C_days rfl lp_C_days ⟨by decide, by decide⟩ (Nat.le_of_ble_eq_true rfl) rfl ⟨by rw [hM.1]; exact hcc, by rw [hM.2]; exact hqq⟩ dL_law_735 (fun ad' hag hWF2 hnn hKg => ?_)
  have X2 := LX.at X1 (c' := _) (q' := _) ⟨Nat.le_trans hcc (Nat.le_of_eq hM.1.symm), Nat.le_trans hqq (Nat.le_of_eq hM.2.symm)⟩
  refine zl_aload_n X2 dL_law_738 rfl (lv_at hl 2 rfl) ?_
  refine zl_aload_n X2 dL_law_739 rfl (lv_at hl 0 rfl) ?_
  refine zl_iload_n X2 dL_law_740 rfl (lv_at hl 3 rfl) ?_
  refine zl_iconst (v := 1) X2 dL_law_741 (by decide) ?_
  refine zl_iadd X2 dL_law_742 ?_
  refine zl_sldK X2 (zl_ix hj hL (t := 1) (by decide)) dL_law_743 ?_
  refine zl_callM [.int (xs (6 * j + 1))] X2 hl.1 (c_days D cy ad2 hR) rfl lm_M_days lg_M_days rfl lp_M_days ⟨by decide, by decide⟩ (Nat.le_of_ble_eq_true rfl) rfl dL_law_744 ?_
  refine zl_icmp_eq (tgt := 1025) X2 dL_law_747 (by decide) (fun _ => ?_) (fun c_ => absurd rfl c_)
  exact kk _ V' L' ad' hI2 hWF2 (hag 0 h0.1)
set_option maxHeartbeats 4000000 in
set_option maxRecDepth 100000 in
theorem lc_chance {I : Nat → zS → zI → zL → Prop} (hI : LI I) : lCase I 20 752 := by
  intro M D cy b0 Lx xs sa sb j S V L ad ad2 ls X hM hL hj hS hWF hl kk
  obtain ⟨v, S', V', L', hC, hR, hI2⟩ := hI.2.1 j 20 (fun t => xs (6 * j + t)) S V L (by omega) (by decide) hS
  obtain ⟨h0, hc0, hq0⟩ := hI.1 _ _ _ _ hS
  obtain ⟨-, hcc, hqq⟩ := hI.1 _ _ _ _ hI2
  obtain ⟨n, c, q, K, N, G, V1, L1⟩ := S
  have hR : f_chance (xs (6 * j + 1)) V L = some (v, V', L') := hR
  have hC : f_X10_chance 0 (xs (6 * j + 1)) n K N G V1 L1 = some (v, S') := hC
  have X1 := LX.at X (c' := c) (q' := q) ⟨by rw [hM.1]; exact hc0, by rw [hM.2]; exact hq0⟩
  refine zl_aload_n X1 dL_law_752 rfl (lv_at hl 1 rfl) ?_
  refine zl_aload_n X1 dL_law_753 rfl (lv_at hl 0 rfl) ?_
  refine zl_iload_n X1 dL_law_754 rfl (lv_at hl 3 rfl) ?_
  refine zl_iconst (v := 1) X1 dL_law_755 (by decide) ?_
  refine zl_iadd X1 dL_law_756 ?_
  refine zl_sldK X1 (zl_ix hj hL (t := 1) (by decide)) dL_law_757 ?_
  refine zl_callT [.int (xs (6 * j + 1))] X1 hl.1 (RAi.toT (c_X10_chance D cy ad hWF h0 hC)) h0 rfl lm_C_chance lg_C_chance rfl lp_C_chance ⟨by decide, by decide⟩ (Nat.le_of_ble_eq_true rfl) rfl ⟨by rw [hM.1]; exact hcc, by rw [hM.2]; exact hqq⟩ dL_law_758 (fun ad' hag hWF2 hnn hKg => ?_)
  have X2 := LX.at X1 (c' := _) (q' := _) ⟨Nat.le_trans hcc (Nat.le_of_eq hM.1.symm), Nat.le_trans hqq (Nat.le_of_eq hM.2.symm)⟩
  refine zl_aload_n X2 dL_law_761 rfl (lv_at hl 2 rfl) ?_
  refine zl_aload_n X2 dL_law_762 rfl (lv_at hl 0 rfl) ?_
  refine zl_iload_n X2 dL_law_763 rfl (lv_at hl 3 rfl) ?_
  refine zl_iconst (v := 1) X2 dL_law_764 (by decide) ?_
  refine zl_iadd X2 dL_law_765 ?_
  refine zl_sldK X2 (zl_ix hj hL (t := 1) (by decide)) dL_law_766 ?_
  refine zl_callM [.int (xs (6 * j + 1))] X2 hl.1 (c_chance D cy ad2 hR) rfl lm_M_chance lg_M_chance rfl lp_M_chance ⟨by decide, by decide⟩ (Nat.le_of_ble_eq_true rfl) rfl dL_law_767 ?_
  refine zl_icmp_eq (tgt := 1025) X2 dL_law_770 (by decide) (fun _ => ?_) (fun c_ => absurd rfl c_)
  exact kk _ V' L' ad' hI2 hWF2 (hag 0 h0.1)
set_option maxHeartbeats 4000000 in
set_option maxRecDepth 100000 in
theorem lc_give {I : Nat → zS → zI → zL → Prop} (hI : LI I) : lCase I 21 775 := by
  intro M D cy b0 Lx xs sa sb j S V L ad ad2 ls X hM hL hj hS hWF hl kk
  obtain ⟨v, S', V', L', hC, hR, hI2⟩ := hI.2.1 j 21 (fun t => xs (6 * j + t)) S V L (by omega) (by decide) hS
  obtain ⟨h0, hc0, hq0⟩ := hI.1 _ _ _ _ hS
  obtain ⟨-, hcc, hqq⟩ := hI.1 _ _ _ _ hI2
  obtain ⟨n, c, q, K, N, G, V1, L1⟩ := S
  have hR : f_give (xs (6 * j + 1)) (xs (6 * j + 2)) (xs (6 * j + 3)) V L = some (v, V', L') := hR
  have hC : f_X10_give 0 (xs (6 * j + 1)) (xs (6 * j + 2)) (xs (6 * j + 3)) n K N G V1 L1 = some (v, S') := hC
  have X1 := LX.at X (c' := c) (q' := q) ⟨by rw [hM.1]; exact hc0, by rw [hM.2]; exact hq0⟩
  refine zl_aload_n X1 dL_law_775 rfl (lv_at hl 1 rfl) ?_
  refine zl_aload_n X1 dL_law_776 rfl (lv_at hl 0 rfl) ?_
  refine zl_iload_n X1 dL_law_777 rfl (lv_at hl 3 rfl) ?_
  refine zl_iconst (v := 1) X1 dL_law_778 (by decide) ?_
  refine zl_iadd X1 dL_law_779 ?_
  refine zl_sldK X1 (zl_ix hj hL (t := 1) (by decide)) dL_law_780 ?_
  refine zl_aload_n X1 dL_law_781 rfl (lv_at hl 0 rfl) ?_
  refine zl_iload_n X1 dL_law_782 rfl (lv_at hl 3 rfl) ?_
  refine zl_iconst (v := 2) X1 dL_law_783 (by decide) ?_
  refine zl_iadd X1 dL_law_784 ?_
  refine zl_sldK X1 (zl_ix hj hL (t := 2) (by decide)) dL_law_785 ?_
  refine zl_aload_n X1 dL_law_786 rfl (lv_at hl 0 rfl) ?_
  refine zl_iload_n X1 dL_law_787 rfl (lv_at hl 3 rfl) ?_
  refine zl_iconst (v := 3) X1 dL_law_788 (by decide) ?_
  refine zl_iadd X1 dL_law_789 ?_
  refine zl_sldK X1 (zl_ix hj hL (t := 3) (by decide)) dL_law_790 ?_
  refine zl_callT [.int (xs (6 * j + 1)), .int (xs (6 * j + 2)), .int (xs (6 * j + 3))] X1 hl.1 (RAi.toT (c_X10_give D cy ad hWF h0 hC)) h0 rfl lm_C_give lg_C_give rfl lp_C_give ⟨by decide, by decide⟩ (Nat.le_of_ble_eq_true rfl) rfl ⟨by rw [hM.1]; exact hcc, by rw [hM.2]; exact hqq⟩ dL_law_791 (fun ad' hag hWF2 hnn hKg => ?_)
  have X2 := LX.at X1 (c' := _) (q' := _) ⟨Nat.le_trans hcc (Nat.le_of_eq hM.1.symm), Nat.le_trans hqq (Nat.le_of_eq hM.2.symm)⟩
  refine zl_aload_n X2 dL_law_794 rfl (lv_at hl 2 rfl) ?_
  refine zl_aload_n X2 dL_law_795 rfl (lv_at hl 0 rfl) ?_
  refine zl_iload_n X2 dL_law_796 rfl (lv_at hl 3 rfl) ?_
  refine zl_iconst (v := 1) X2 dL_law_797 (by decide) ?_
  refine zl_iadd X2 dL_law_798 ?_
  refine zl_sldK X2 (zl_ix hj hL (t := 1) (by decide)) dL_law_799 ?_
  refine zl_aload_n X2 dL_law_800 rfl (lv_at hl 0 rfl) ?_
  refine zl_iload_n X2 dL_law_801 rfl (lv_at hl 3 rfl) ?_
  refine zl_iconst (v := 2) X2 dL_law_802 (by decide) ?_
  refine zl_iadd X2 dL_law_803 ?_
  refine zl_sldK X2 (zl_ix hj hL (t := 2) (by decide)) dL_law_804 ?_
  refine zl_aload_n X2 dL_law_805 rfl (lv_at hl 0 rfl) ?_
  refine zl_iload_n X2 dL_law_806 rfl (lv_at hl 3 rfl) ?_
  refine zl_iconst (v := 3) X2 dL_law_807 (by decide) ?_
  refine zl_iadd X2 dL_law_808 ?_
  refine zl_sldK X2 (zl_ix hj hL (t := 3) (by decide)) dL_law_809 ?_
  refine zl_callM [.int (xs (6 * j + 1)), .int (xs (6 * j + 2)), .int (xs (6 * j + 3))] X2 hl.1 (c_give D cy ad2 hR) rfl lm_M_give lg_M_give rfl lp_M_give ⟨by decide, by decide⟩ (Nat.le_of_ble_eq_true rfl) rfl dL_law_810 ?_
  refine zl_icmp_eq (tgt := 1025) X2 dL_law_813 (by decide) (fun _ => ?_) (fun c_ => absurd rfl c_)
  exact kk _ V' L' ad' hI2 hWF2 (hag 0 h0.1)
