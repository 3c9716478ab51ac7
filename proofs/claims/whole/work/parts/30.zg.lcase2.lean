set_option maxHeartbeats 4000000 in
set_option maxRecDepth 100000 in
theorem lc_find {I : Nat → zS → zI → zL → Prop} (hI : LI I) : lCase I 22 818 := by
  intro M D cy b0 Lx xs sa sb j S V L ad ad2 ls X hM hL hj hS hWF hl kk
  obtain ⟨v, S', V', L', hC, hR, hI2⟩ := hI.2.1 j 22 (fun t => xs (6 * j + t)) S V L (by omega) (by decide) hS
  obtain ⟨h0, hc0, hq0⟩ := hI.1 _ _ _ _ hS
  obtain ⟨-, hcc, hqq⟩ := hI.1 _ _ _ _ hI2
  obtain ⟨n, c, q, K, N, G, V1, L1⟩ := S
  have hR : f_find (xs (6 * j + 1)) (xs (6 * j + 2)) V L = some (v, V', L') := hR
  have hC : f_X10_find 0 (xs (6 * j + 1)) (xs (6 * j + 2)) n K N G V1 L1 = some (v, S') := hC
  have X1 := LX.at X (c' := c) (q' := q) ⟨by rw [hM.1]; exact hc0, by rw [hM.2]; exact hq0⟩
  refine zl_aload_n X1 dL_law_818 rfl (lv_at hl 1 rfl) ?_
  refine zl_aload_n X1 dL_law_819 rfl (lv_at hl 0 rfl) ?_
  refine zl_iload_n X1 dL_law_820 rfl (lv_at hl 3 rfl) ?_
  refine zl_iconst (v := 1) X1 dL_law_821 (by decide) ?_
  refine zl_iadd X1 dL_law_822 ?_
  refine zl_sldK X1 (zl_ix hj hL (t := 1) (by decide)) dL_law_823 ?_
  refine zl_aload_n X1 dL_law_824 rfl (lv_at hl 0 rfl) ?_
  refine zl_iload_n X1 dL_law_825 rfl (lv_at hl 3 rfl) ?_
  refine zl_iconst (v := 2) X1 dL_law_826 (by decide) ?_
  refine zl_iadd X1 dL_law_827 ?_
  refine zl_sldK X1 (zl_ix hj hL (t := 2) (by decide)) dL_law_828 ?_
  refine zl_callT [.int (xs (6 * j + 1)), .int (xs (6 * j + 2))] X1 hl.1 (RAi.toT (c_X10_find D cy ad hWF h0 hC)) h0 rfl lm_C_find lg_C_find rfl lp_C_find ⟨by decide, by decide⟩ (Nat.le_of_ble_eq_true rfl) rfl ⟨by rw [hM.1]; exact hcc, by rw [hM.2]; exact hqq⟩ dL_law_829 (fun ad' hag hWF2 hnn hKg => ?_)
  have X2 := LX.at X1 (c' := _) (q' := _) ⟨Nat.le_trans hcc (Nat.le_of_eq hM.1.symm), Nat.le_trans hqq (Nat.le_of_eq hM.2.symm)⟩
  refine zl_aload_n X2 dL_law_832 rfl (lv_at hl 2 rfl) ?_
  refine zl_aload_n X2 dL_law_833 rfl (lv_at hl 0 rfl) ?_
  refine zl_iload_n X2 dL_law_834 rfl (lv_at hl 3 rfl) ?_
  refine zl_iconst (v := 1) X2 dL_law_835 (by decide) ?_
  refine zl_iadd X2 dL_law_836 ?_
  refine zl_sldK X2 (zl_ix hj hL (t := 1) (by decide)) dL_law_837 ?_
  refine zl_aload_n X2 dL_law_838 rfl (lv_at hl 0 rfl) ?_
  refine zl_iload_n X2 dL_law_839 rfl (lv_at hl 3 rfl) ?_
  refine zl_iconst (v := 2) X2 dL_law_840 (by decide) ?_
  refine zl_iadd X2 dL_law_841 ?_
  refine zl_sldK X2 (zl_ix hj hL (t := 2) (by decide)) dL_law_842 ?_
  refine zl_callM [.int (xs (6 * j + 1)), .int (xs (6 * j + 2))] X2 hl.1 (c_find D cy ad2 hR) rfl lm_M_find lg_M_find rfl lp_M_find ⟨by decide, by decide⟩ (Nat.le_of_ble_eq_true rfl) rfl dL_law_843 ?_
  refine zl_icmp_eq (tgt := 1025) X2 dL_law_846 (by decide) (fun _ => ?_) (fun c_ => absurd rfl c_)
  exact kk _ V' L' ad' hI2 hWF2 (hag 0 h0.1)
set_option maxHeartbeats 4000000 in
set_option maxRecDepth 100000 in
theorem lc_burn {I : Nat → zS → zI → zL → Prop} (hI : LI I) : lCase I 23 851 := by
  intro M D cy b0 Lx xs sa sb j S V L ad ad2 ls X hM hL hj hS hWF hl kk
  obtain ⟨v, S', V', L', hC, hR, hI2⟩ := hI.2.1 j 23 (fun t => xs (6 * j + t)) S V L (by omega) (by decide) hS
  obtain ⟨h0, hc0, hq0⟩ := hI.1 _ _ _ _ hS
  obtain ⟨-, hcc, hqq⟩ := hI.1 _ _ _ _ hI2
  obtain ⟨n, c, q, K, N, G, V1, L1⟩ := S
  have hR : f_burn (xs (6 * j + 1)) (xs (6 * j + 2)) V L = some (v, V', L') := hR
  have hC : f_X10_burn 0 (xs (6 * j + 1)) (xs (6 * j + 2)) n K N G V1 L1 = some (v, S') := hC
  have X1 := LX.at X (c' := c) (q' := q) ⟨by rw [hM.1]; exact hc0, by rw [hM.2]; exact hq0⟩
  refine zl_aload_n X1 dL_law_851 rfl (lv_at hl 1 rfl) ?_
  refine zl_aload_n X1 dL_law_852 rfl (lv_at hl 0 rfl) ?_
  refine zl_iload_n X1 dL_law_853 rfl (lv_at hl 3 rfl) ?_
  refine zl_iconst (v := 1) X1 dL_law_854 (by decide) ?_
  refine zl_iadd X1 dL_law_855 ?_
  refine zl_sldK X1 (zl_ix hj hL (t := 1) (by decide)) dL_law_856 ?_
  refine zl_aload_n X1 dL_law_857 rfl (lv_at hl 0 rfl) ?_
  refine zl_iload_n X1 dL_law_858 rfl (lv_at hl 3 rfl) ?_
  refine zl_iconst (v := 2) X1 dL_law_859 (by decide) ?_
  refine zl_iadd X1 dL_law_860 ?_
  refine zl_sldK X1 (zl_ix hj hL (t := 2) (by decide)) dL_law_861 ?_
  refine zl_callT [.int (xs (6 * j + 1)), .int (xs (6 * j + 2))] X1 hl.1 (RAi.toT (c_X10_burn D cy ad hWF h0 hC)) h0 rfl lm_C_burn lg_C_burn rfl lp_C_burn ⟨by decide, by decide⟩ (Nat.le_of_ble_eq_true rfl) rfl ⟨by rw [hM.1]; exact hcc, by rw [hM.2]; exact hqq⟩ dL_law_862 (fun ad' hag hWF2 hnn hKg => ?_)
  have X2 := LX.at X1 (c' := _) (q' := _) ⟨Nat.le_trans hcc (Nat.le_of_eq hM.1.symm), Nat.le_trans hqq (Nat.le_of_eq hM.2.symm)⟩
  refine zl_aload_n X2 dL_law_865 rfl (lv_at hl 2 rfl) ?_
  refine zl_aload_n X2 dL_law_866 rfl (lv_at hl 0 rfl) ?_
  refine zl_iload_n X2 dL_law_867 rfl (lv_at hl 3 rfl) ?_
  refine zl_iconst (v := 1) X2 dL_law_868 (by decide) ?_
  refine zl_iadd X2 dL_law_869 ?_
  refine zl_sldK X2 (zl_ix hj hL (t := 1) (by decide)) dL_law_870 ?_
  refine zl_aload_n X2 dL_law_871 rfl (lv_at hl 0 rfl) ?_
  refine zl_iload_n X2 dL_law_872 rfl (lv_at hl 3 rfl) ?_
  refine zl_iconst (v := 2) X2 dL_law_873 (by decide) ?_
  refine zl_iadd X2 dL_law_874 ?_
  refine zl_sldK X2 (zl_ix hj hL (t := 2) (by decide)) dL_law_875 ?_
  refine zl_callM [.int (xs (6 * j + 1)), .int (xs (6 * j + 2))] X2 hl.1 (c_burn D cy ad2 hR) rfl lm_M_burn lg_M_burn rfl lp_M_burn ⟨by decide, by decide⟩ (Nat.le_of_ble_eq_true rfl) rfl dL_law_876 ?_
  refine zl_icmp_eq (tgt := 1025) X2 dL_law_879 (by decide) (fun _ => ?_) (fun c_ => absurd rfl c_)
  exact kk _ V' L' ad' hI2 hWF2 (hag 0 h0.1)
set_option maxHeartbeats 4000000 in
set_option maxRecDepth 100000 in
theorem lc_undo {I : Nat → zS → zI → zL → Prop} (hI : LI I) : lCase I 24 884 := by
  intro M D cy b0 Lx xs sa sb j S V L ad ad2 ls X hM hL hj hS hWF hl kk
  obtain ⟨v, S', V', L', hC, hR, hI2⟩ := hI.2.1 j 24 (fun t => xs (6 * j + t)) S V L (by omega) (by decide) hS
  obtain ⟨h0, hc0, hq0⟩ := hI.1 _ _ _ _ hS
  obtain ⟨-, hcc, hqq⟩ := hI.1 _ _ _ _ hI2
  obtain ⟨n, c, q, K, N, G, V1, L1⟩ := S
  have hR : f_undo  V L = some (v, V', L') := hR
  have hC : f_X10_undo 0  n K N G V1 L1 = some (v, S') := hC
  have X1 := LX.at X (c' := c) (q' := q) ⟨by rw [hM.1]; exact hc0, by rw [hM.2]; exact hq0⟩
  refine zl_aload_n X1 dL_law_884 rfl (lv_at hl 1 rfl) ?_
  refine zl_callT [] X1 hl.1 (RAi.toT (c_X10_undo D cy ad hWF h0 hC)) h0 rfl lm_C_undo lg_C_undo rfl lp_C_undo ⟨by decide, by decide⟩ (Nat.le_of_ble_eq_true rfl) rfl ⟨by rw [hM.1]; exact hcc, by rw [hM.2]; exact hqq⟩ dL_law_885 (fun ad' hag hWF2 hnn hKg => ?_)
  have X2 := LX.at X1 (c' := _) (q' := _) ⟨Nat.le_trans hcc (Nat.le_of_eq hM.1.symm), Nat.le_trans hqq (Nat.le_of_eq hM.2.symm)⟩
  refine zl_aload_n X2 dL_law_888 rfl (lv_at hl 2 rfl) ?_
  refine zl_callM [] X2 hl.1 (c_undo D cy ad2 hR) rfl lm_M_undo lg_M_undo rfl lp_M_undo ⟨by decide, by decide⟩ (Nat.le_of_ble_eq_true rfl) rfl dL_law_889 ?_
  refine zl_icmp_eq (tgt := 1025) X2 dL_law_892 (by decide) (fun _ => ?_) (fun c_ => absurd rfl c_)
  exact kk _ V' L' ad' hI2 hWF2 (hag 0 h0.1)
set_option maxHeartbeats 4000000 in
set_option maxRecDepth 100000 in
theorem lc_seed {I : Nat → zS → zI → zL → Prop} (hI : LI I) : lCase I 25 897 := by
  intro M D cy b0 Lx xs sa sb j S V L ad ad2 ls X hM hL hj hS hWF hl kk
  obtain ⟨v, S', V', L', hC, hR, hI2⟩ := hI.2.1 j 25 (fun t => xs (6 * j + t)) S V L (by omega) (by decide) hS
  obtain ⟨h0, hc0, hq0⟩ := hI.1 _ _ _ _ hS
  obtain ⟨-, hcc, hqq⟩ := hI.1 _ _ _ _ hI2
  obtain ⟨n, c, q, K, N, G, V1, L1⟩ := S
  have hR : f_seed (xs (6 * j + 1)) V L = some (v, V', L') := hR
  have hC : (f_X10_seed N G 0 (xs (6 * j + 1)) V1 L1).bind (fun r => some (r.1, (n, 0, 0, K, N, G, r.2.1, r.2.2))) = some (v, S') := hC
  obtain ⟨r1, hc1, hC⟩ := z_bind hC
  obtain ⟨rfl, rfl⟩ := Prod.mk.inj (Option.some.inj hC)
  have X1 := LX.at X (c' := c) (q' := q) ⟨by rw [hM.1]; exact hc0, by rw [hM.2]; exact hq0⟩
  refine zl_aload_n X1 dL_law_897 rfl (lv_at hl 1 rfl) ?_
  refine zl_aload_n X1 dL_law_898 rfl (lv_at hl 0 rfl) ?_
  refine zl_iload_n X1 dL_law_899 rfl (lv_at hl 3 rfl) ?_
  refine zl_iconst (v := 1) X1 dL_law_900 (by decide) ?_
  refine zl_iadd X1 dL_law_901 ?_
  refine zl_sldK X1 (zl_ix hj hL (t := 1) (by decide)) dL_law_902 ?_
  refine zl_callT [.int (xs (6 * j + 1))] X1 hl.1 (RCi.toT hWF (c_X10_seed D cy ad hWF h0 hc1)) h0 rfl lm_C_seed lg_C_seed rfl lp_C_seed ⟨by decide, by decide⟩ (Nat.le_of_ble_eq_true rfl) rfl ⟨by rw [hM.1]; exact hcc, by rw [hM.2]; exact hqq⟩ dL_law_903 (fun ad' hag hWF2 hnn hKg => ?_)
  have X2 := LX.at X1 (c' := _) (q' := _) ⟨Nat.le_trans hcc (Nat.le_of_eq hM.1.symm), Nat.le_trans hqq (Nat.le_of_eq hM.2.symm)⟩
  refine zl_aload_n X2 dL_law_906 rfl (lv_at hl 2 rfl) ?_
  refine zl_aload_n X2 dL_law_907 rfl (lv_at hl 0 rfl) ?_
  refine zl_iload_n X2 dL_law_908 rfl (lv_at hl 3 rfl) ?_
  refine zl_iconst (v := 1) X2 dL_law_909 (by decide) ?_
  refine zl_iadd X2 dL_law_910 ?_
  refine zl_sldK X2 (zl_ix hj hL (t := 1) (by decide)) dL_law_911 ?_
  refine zl_callM [.int (xs (6 * j + 1))] X2 hl.1 (c_seed D cy ad2 hR) rfl lm_M_seed lg_M_seed rfl lp_M_seed ⟨by decide, by decide⟩ (Nat.le_of_ble_eq_true rfl) rfl dL_law_912 ?_
  refine zl_icmp_eq (tgt := 1025) X2 dL_law_915 (by decide) (fun _ => ?_) (fun c_ => absurd rfl c_)
  exact kk _ V' L' ad' hI2 hWF2 (hag 0 h0.1)
set_option maxHeartbeats 4000000 in
set_option maxRecDepth 100000 in
theorem lc_kept {I : Nat → zS → zI → zL → Prop} (hI : LI I) : lCase I 26 920 := by
  intro M D cy b0 Lx xs sa sb j S V L ad ad2 ls X hM hL hj hS hWF hl kk
  obtain ⟨v, S', V', L', hC, hR, hI2⟩ := hI.2.1 j 26 (fun t => xs (6 * j + t)) S V L (by omega) (by decide) hS
  obtain ⟨h0, hc0, hq0⟩ := hI.1 _ _ _ _ hS
  obtain ⟨-, hcc, hqq⟩ := hI.1 _ _ _ _ hI2
  obtain ⟨n, c, q, K, N, G, V1, L1⟩ := S
  have hR : f_kept (xs (6 * j + 1)) (xs (6 * j + 2)) V L = some (v, V', L') := hR
  have hC : (f_X10_kept N G 0 (xs (6 * j + 1)) (xs (6 * j + 2)) V1 L1).bind (fun r => some (r, (n, 0, 0, K, N, G, V1, L1))) = some (v, S') := hC
  obtain ⟨r1, hc1, hC⟩ := z_bind hC
  obtain ⟨rfl, rfl⟩ := Prod.mk.inj (Option.some.inj hC)
  have X1 := LX.at X (c' := c) (q' := q) ⟨by rw [hM.1]; exact hc0, by rw [hM.2]; exact hq0⟩
  refine zl_aload_n X1 dL_law_920 rfl (lv_at hl 1 rfl) ?_
  refine zl_aload_n X1 dL_law_921 rfl (lv_at hl 0 rfl) ?_
  refine zl_iload_n X1 dL_law_922 rfl (lv_at hl 3 rfl) ?_
  refine zl_iconst (v := 1) X1 dL_law_923 (by decide) ?_
  refine zl_iadd X1 dL_law_924 ?_
  refine zl_sldK X1 (zl_ix hj hL (t := 1) (by decide)) dL_law_925 ?_
  refine zl_aload_n X1 dL_law_926 rfl (lv_at hl 0 rfl) ?_
  refine zl_iload_n X1 dL_law_927 rfl (lv_at hl 3 rfl) ?_
  refine zl_iconst (v := 2) X1 dL_law_928 (by decide) ?_
  refine zl_iadd X1 dL_law_929 ?_
  refine zl_sldK X1 (zl_ix hj hL (t := 2) (by decide)) dL_law_930 ?_
  refine zl_callT [.int (xs (6 * j + 1)), .int (xs (6 * j + 2))] X1 hl.1 (RCi.toT hWF (c_X10_kept D cy ad hWF h0 hc1)) h0 rfl lm_C_kept lg_C_kept rfl lp_C_kept ⟨by decide, by decide⟩ (Nat.le_of_ble_eq_true rfl) rfl ⟨by rw [hM.1]; exact hcc, by rw [hM.2]; exact hqq⟩ dL_law_931 (fun ad' hag hWF2 hnn hKg => ?_)
  have X2 := LX.at X1 (c' := _) (q' := _) ⟨Nat.le_trans hcc (Nat.le_of_eq hM.1.symm), Nat.le_trans hqq (Nat.le_of_eq hM.2.symm)⟩
  refine zl_aload_n X2 dL_law_934 rfl (lv_at hl 2 rfl) ?_
  refine zl_aload_n X2 dL_law_935 rfl (lv_at hl 0 rfl) ?_
  refine zl_iload_n X2 dL_law_936 rfl (lv_at hl 3 rfl) ?_
  refine zl_iconst (v := 1) X2 dL_law_937 (by decide) ?_
  refine zl_iadd X2 dL_law_938 ?_
  refine zl_sldK X2 (zl_ix hj hL (t := 1) (by decide)) dL_law_939 ?_
  refine zl_aload_n X2 dL_law_940 rfl (lv_at hl 0 rfl) ?_
  refine zl_iload_n X2 dL_law_941 rfl (lv_at hl 3 rfl) ?_
  refine zl_iconst (v := 2) X2 dL_law_942 (by decide) ?_
  refine zl_iadd X2 dL_law_943 ?_
  refine zl_sldK X2 (zl_ix hj hL (t := 2) (by decide)) dL_law_944 ?_
  refine zl_callM [.int (xs (6 * j + 1)), .int (xs (6 * j + 2))] X2 hl.1 (c_kept D cy ad2 hR) rfl lm_M_kept lg_M_kept rfl lp_M_kept ⟨by decide, by decide⟩ (Nat.le_of_ble_eq_true rfl) rfl dL_law_945 ?_
  refine zl_icmp_eq (tgt := 1025) X2 dL_law_948 (by decide) (fun _ => ?_) (fun c_ => absurd rfl c_)
  exact kk _ V' L' ad' hI2 hWF2 (hag 0 h0.1)
set_option maxHeartbeats 4000000 in
set_option maxRecDepth 100000 in
theorem lc_image {I : Nat → zS → zI → zL → Prop} (hI : LI I) : lCase I 27 953 := by
  intro M D cy b0 Lx xs sa sb j S V L ad ad2 ls X hM hL hj hS hWF hl kk
  obtain ⟨v, S', V', L', hC, hR, hI2⟩ := hI.2.1 j 27 (fun t => xs (6 * j + t)) S V L (by omega) (by decide) hS
  obtain ⟨h0, hc0, hq0⟩ := hI.1 _ _ _ _ hS
  obtain ⟨-, hcc, hqq⟩ := hI.1 _ _ _ _ hI2
  obtain ⟨n, c, q, K, N, G, V1, L1⟩ := S
  have hR : f_image  V L = some (v, V', L') := hR
  have hC : (f_X10_image N G 0  V1 L1).bind (fun r => some (r.1, (n, 0, 0, K, N, G, r.2.1, r.2.2))) = some (v, S') := hC
  obtain ⟨r1, hc1, hC⟩ := z_bind hC
  obtain ⟨rfl, rfl⟩ := Prod.mk.inj (Option.some.inj hC)
  have X1 := LX.at X (c' := c) (q' := q) ⟨by rw [hM.1]; exact hc0, by rw [hM.2]; exact hq0⟩
  refine zl_aload_n X1 dL_law_953 rfl (lv_at hl 1 rfl) ?_
  refine zl_callT [] X1 hl.1 (RCi.toT hWF (c_X10_image D cy ad hWF h0 hc1)) h0 rfl lm_C_image lg_C_image rfl lp_C_image ⟨by decide, by decide⟩ (Nat.le_of_ble_eq_true rfl) rfl ⟨by rw [hM.1]; exact hcc, by rw [hM.2]; exact hqq⟩ dL_law_954 (fun ad' hag hWF2 hnn hKg => ?_)
  have X2 := LX.at X1 (c' := _) (q' := _) ⟨Nat.le_trans hcc (Nat.le_of_eq hM.1.symm), Nat.le_trans hqq (Nat.le_of_eq hM.2.symm)⟩
  refine zl_aload_n X2 dL_law_957 rfl (lv_at hl 2 rfl) ?_
  refine zl_callM [] X2 hl.1 (c_image D cy ad2 hR) rfl lm_M_image lg_M_image rfl lp_M_image ⟨by decide, by decide⟩ (Nat.le_of_ble_eq_true rfl) rfl dL_law_958 ?_
  refine zl_icmp_eq (tgt := 1025) X2 dL_law_961 (by decide) (fun _ => ?_) (fun c_ => absurd rfl c_)
  exact kk _ V' L' ad' hI2 hWF2 (hag 0 h0.1)
set_option maxHeartbeats 4000000 in
set_option maxRecDepth 100000 in
theorem lc_octet {I : Nat → zS → zI → zL → Prop} (hI : LI I) : lCase I 28 966 := by
  intro M D cy b0 Lx xs sa sb j S V L ad ad2 ls X hM hL hj hS hWF hl kk
  obtain ⟨v, S', V', L', hC, hR, hI2⟩ := hI.2.1 j 28 (fun t => xs (6 * j + t)) S V L (by omega) (by decide) hS
  obtain ⟨h0, hc0, hq0⟩ := hI.1 _ _ _ _ hS
  obtain ⟨-, hcc, hqq⟩ := hI.1 _ _ _ _ hI2
  obtain ⟨n, c, q, K, N, G, V1, L1⟩ := S
  have hR : f_octet (xs (6 * j + 1)) V L = some (v, V', L') := hR
  have hC : (f_X10_octet N G 0 (xs (6 * j + 1)) V1 L1).bind (fun r => some (r, (n, 0, 0, K, N, G, V1, L1))) = some (v, S') := hC
  obtain ⟨r1, hc1, hC⟩ := z_bind hC
  obtain ⟨rfl, rfl⟩ := Prod.mk.inj (Option.some.inj hC)
  have X1 := LX.at X (c' := c) (q' := q) ⟨by rw [hM.1]; exact hc0, by rw [hM.2]; exact hq0⟩
  refine zl_aload_n X1 dL_law_966 rfl (lv_at hl 1 rfl) ?_
  refine zl_aload_n X1 dL_law_967 rfl (lv_at hl 0 rfl) ?_
  refine zl_iload_n X1 dL_law_968 rfl (lv_at hl 3 rfl) ?_
  refine zl_iconst (v := 1) X1 dL_law_969 (by decide) ?_
  refine zl_iadd X1 dL_law_970 ?_
  refine zl_sldK X1 (zl_ix hj hL (t := 1) (by decide)) dL_law_971 ?_
  refine zl_callT [.int (xs (6 * j + 1))] X1 hl.1 (RCi.toT hWF (c_X10_octet D cy ad hWF h0 hc1)) h0 rfl lm_C_octet lg_C_octet rfl lp_C_octet ⟨by decide, by decide⟩ (Nat.le_of_ble_eq_true rfl) rfl ⟨by rw [hM.1]; exact hcc, by rw [hM.2]; exact hqq⟩ dL_law_972 (fun ad' hag hWF2 hnn hKg => ?_)
  have X2 := LX.at X1 (c' := _) (q' := _) ⟨Nat.le_trans hcc (Nat.le_of_eq hM.1.symm), Nat.le_trans hqq (Nat.le_of_eq hM.2.symm)⟩
  refine zl_aload_n X2 dL_law_975 rfl (lv_at hl 2 rfl) ?_
  refine zl_aload_n X2 dL_law_976 rfl (lv_at hl 0 rfl) ?_
  refine zl_iload_n X2 dL_law_977 rfl (lv_at hl 3 rfl) ?_
  refine zl_iconst (v := 1) X2 dL_law_978 (by decide) ?_
  refine zl_iadd X2 dL_law_979 ?_
  refine zl_sldK X2 (zl_ix hj hL (t := 1) (by decide)) dL_law_980 ?_
  refine zl_callM [.int (xs (6 * j + 1))] X2 hl.1 (c_octet D cy ad2 hR) rfl lm_M_octet lg_M_octet rfl lp_M_octet ⟨by decide, by decide⟩ (Nat.le_of_ble_eq_true rfl) rfl dL_law_981 ?_
  refine zl_icmp_eq (tgt := 1025) X2 dL_law_984 (by decide) (fun _ => ?_) (fun c_ => absurd rfl c_)
  exact kk _ V' L' ad' hI2 hWF2 (hag 0 h0.1)
set_option maxHeartbeats 4000000 in
set_option maxRecDepth 100000 in
theorem lc_on {I : Nat → zS → zI → zL → Prop} (hI : LI I) : lCase I 29 989 := by
  intro M D cy b0 Lx xs sa sb j S V L ad ad2 ls X hM hL hj hS hWF hl kk
  obtain ⟨v, S', V', L', hC, hR, hI2⟩ := hI.2.1 j 29 (fun t => xs (6 * j + t)) S V L (by omega) (by decide) hS
  obtain ⟨h0, hc0, hq0⟩ := hI.1 _ _ _ _ hS
  obtain ⟨-, hcc, hqq⟩ := hI.1 _ _ _ _ hI2
  obtain ⟨n, c, q, K, N, G, V1, L1⟩ := S
  have hR : f_on  V L = some (v, V', L') := hR
  have hC : (f_X10_on N G 0  V1 L1).bind (fun r => some (r.1, (n, 0, 0, K, N, G, r.2.1, r.2.2))) = some (v, S') := hC
  obtain ⟨r1, hc1, hC⟩ := z_bind hC
  obtain ⟨rfl, rfl⟩ := Prod.mk.inj (Option.some.inj hC)
  have X1 := LX.at X (c' := c) (q' := q) ⟨by rw [hM.1]; exact hc0, by rw [hM.2]; exact hq0⟩
  refine zl_aload_n X1 dL_law_989 rfl (lv_at hl 1 rfl) ?_
  refine zl_callT [] X1 hl.1 (RCi.toT hWF (c_X10_on D cy ad hWF h0 hc1)) h0 rfl lm_C_on lg_C_on rfl lp_C_on ⟨by decide, by decide⟩ (Nat.le_of_ble_eq_true rfl) rfl ⟨by rw [hM.1]; exact hcc, by rw [hM.2]; exact hqq⟩ dL_law_990 (fun ad' hag hWF2 hnn hKg => ?_)
  have X2 := LX.at X1 (c' := _) (q' := _) ⟨Nat.le_trans hcc (Nat.le_of_eq hM.1.symm), Nat.le_trans hqq (Nat.le_of_eq hM.2.symm)⟩
  refine zl_aload_n X2 dL_law_993 rfl (lv_at hl 2 rfl) ?_
  refine zl_callM [] X2 hl.1 (c_on D cy ad2 hR) rfl lm_M_on lg_M_on rfl lp_M_on ⟨by decide, by decide⟩ (Nat.le_of_ble_eq_true rfl) rfl dL_law_994 ?_
  refine zl_icmp_eq (tgt := 1025) X2 dL_law_997 (by decide) (fun _ => ?_) (fun c_ => absurd rfl c_)
  exact kk _ V' L' ad' hI2 hWF2 (hag 0 h0.1)
set_option maxHeartbeats 4000000 in
set_option maxRecDepth 100000 in
theorem lc_status {I : Nat → zS → zI → zL → Prop} (hI : LI I) : lCase I 30 1002 := by
  intro M D cy b0 Lx xs sa sb j S V L ad ad2 ls X hM hL hj hS hWF hl kk
  obtain ⟨v, S', V', L', hC, hR, hI2⟩ := hI.2.1 j 30 (fun t => xs (6 * j + t)) S V L (by omega) (by decide) hS
  obtain ⟨h0, hc0, hq0⟩ := hI.1 _ _ _ _ hS
  obtain ⟨-, hcc, hqq⟩ := hI.1 _ _ _ _ hI2
  obtain ⟨n, c, q, K, N, G, V1, L1⟩ := S
  have hR : f_status (xs (6 * j + 1)) V L = some (v, V', L') := hR
  have hC : (f_X10_status N G 0 (xs (6 * j + 1)) V1 L1).bind (fun r => some (r, (n, 0, 0, K, N, G, V1, L1))) = some (v, S') := hC
  obtain ⟨r1, hc1, hC⟩ := z_bind hC
  obtain ⟨rfl, rfl⟩ := Prod.mk.inj (Option.some.inj hC)
  have X1 := LX.at X (c' := c) (q' := q) ⟨by rw [hM.1]; exact hc0, by rw [hM.2]; exact hq0⟩
  refine zl_aload_n X1 dL_law_1002 rfl (lv_at hl 1 rfl) ?_
  refine zl_aload_n X1 dL_law_1003 rfl (lv_at hl 0 rfl) ?_
  refine zl_iload_n X1 dL_law_1004 rfl (lv_at hl 3 rfl) ?_
  refine zl_iconst (v := 1) X1 dL_law_1005 (by decide) ?_
  refine zl_iadd X1 dL_law_1006 ?_
  refine zl_sldK X1 (zl_ix hj hL (t := 1) (by decide)) dL_law_1007 ?_
  refine zl_callT [.int (xs (6 * j + 1))] X1 hl.1 (RCi.toT hWF (c_X10_status D cy ad hWF h0 hc1)) h0 rfl lm_C_status lg_C_status rfl lp_C_status ⟨by decide, by decide⟩ (Nat.le_of_ble_eq_true rfl) rfl ⟨by rw [hM.1]; exact hcc, by rw [hM.2]; exact hqq⟩ dL_law_1008 (fun ad' hag hWF2 hnn hKg => ?_)
  have X2 := LX.at X1 (c' := _) (q' := _) ⟨Nat.le_trans hcc (Nat.le_of_eq hM.1.symm), Nat.le_trans hqq (Nat.le_of_eq hM.2.symm)⟩
  refine zl_aload_n X2 dL_law_1011 rfl (lv_at hl 2 rfl) ?_
  refine zl_aload_n X2 dL_law_1012 rfl (lv_at hl 0 rfl) ?_
  refine zl_iload_n X2 dL_law_1013 rfl (lv_at hl 3 rfl) ?_
  refine zl_iconst (v := 1) X2 dL_law_1014 (by decide) ?_
  refine zl_iadd X2 dL_law_1015 ?_
  refine zl_sldK X2 (zl_ix hj hL (t := 1) (by decide)) dL_law_1016 ?_
  refine zl_callM [.int (xs (6 * j + 1))] X2 hl.1 (c_status D cy ad2 hR) rfl lm_M_status lg_M_status rfl lp_M_status ⟨by decide, by decide⟩ (Nat.le_of_ble_eq_true rfl) rfl dL_law_1017 ?_
  refine zl_icmp_eq (tgt := 1025) X2 dL_law_1020 (by decide) (fun _ => ?_) (fun c_ => absurd rfl c_)
  exact kk _ V' L' ad' hI2 hWF2 (hag 0 h0.1)
