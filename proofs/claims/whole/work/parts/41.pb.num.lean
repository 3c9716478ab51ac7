section
/-! numbers with a sign -/
def qz (z : Int) : Int32 := Int32.ofInt z
def qZ (z : Int) : Int64 := Int64.ofInt z
theorem qi_z (n : Nat) : qi n = qz n := (Int32.ofInt_eq_ofNat).symm
theorem qz_lit (n : Nat) : (OfNat.ofNat n : Int32) = qz (OfNat.ofNat n : Nat) := qi_z n
theorem qZ_lit (n : Nat) : (OfNat.ofNat n : Int64) = qZ (OfNat.ofNat n : Nat) := (Int64.ofInt_eq_ofNat).symm
theorem qZ_neg (z : Int) : - qZ z = qZ (-z) := (Int64.ofInt_neg z).symm
theorem qz_neg (z : Int) : - qz z = qz (-z) := (Int32.ofInt_neg z).symm
theorem qz_int {z : Int} (h1 : -2147483648 ≤ z) (h2 : z < 2147483648) : (qz z).toInt = z := Int32.toInt_ofInt_of_le (by omega) (by omega)
theorem qZ_int {z : Int} (h1 : -9223372036854775808 ≤ z) (h2 : z < 9223372036854775808) : (qZ z).toInt = z := Int64.toInt_ofInt_of_le (by omega) (by omega)
theorem qz_toInt (x : Int32) : qz x.toInt = x := Int32.ofInt_toInt x
theorem qZ_toInt (x : Int64) : qZ x.toInt = x := Int64.ofInt_toInt x
theorem qz_add (a b : Int) : qz a + qz b = qz (a + b) := (Int32.ofInt_add a b).symm
theorem qz_sub (a b : Int) : qz a - qz b = qz (a - b) := (Int32.ofInt_sub a b).symm
theorem qz_mul (a b : Int) : qz a * qz b = qz (a * b) := (Int32.ofInt_mul a b).symm
theorem qZ_add (a b : Int) : qZ a + qZ b = qZ (a + b) := (Int64.ofInt_add a b).symm
theorem qZ_sub (a b : Int) : qZ a - qZ b = qZ (a - b) := (Int64.ofInt_sub a b).symm
theorem qZ_mul (a b : Int) : qZ a * qZ b = qZ (a * b) := (Int64.ofInt_mul a b).symm
theorem qz_div {a b : Int} (h1 : -2147483648 ≤ a) (h2 : a < 2147483648) (h3 : -2147483648 ≤ b) (h4 : b < 2147483648) : qz a / qz b = qz (a.tdiv b) := by
  have e1 : Int32.minValue.toInt = -2147483648 := by decide
  have e2 : Int32.maxValue.toInt = 2147483647 := by decide
  exact (Int32.ofInt_tdiv (by omega) (by omega) (by omega) (by omega)).symm
theorem qZ_div {a b : Int} (h1 : -9223372036854775808 ≤ a) (h2 : a < 9223372036854775808) (h3 : -9223372036854775808 ≤ b) (h4 : b < 9223372036854775808) : qZ a / qZ b = qZ (a.tdiv b) := by
  have e1 : Int64.minValue.toInt = -9223372036854775808 := by decide
  have e2 : Int64.maxValue.toInt = 9223372036854775807 := by decide
  exact (Int64.ofInt_tdiv (by omega) (by omega) (by omega) (by omega)).symm
theorem qz_64 {z : Int} (h1 : -2147483648 ≤ z) (h2 : z < 2147483648) : (qz z).toInt64 = qZ z := by
  apply Int64.toInt_inj.mp
  rw [Int32.toInt_toInt64, qz_int h1 h2, qZ_int (by omega) (by omega)]
theorem qZ_32 (z : Int) : (qZ z).toInt32 = qz z := Int64.toInt32_ofInt
theorem qz_eq {a b : Int} (h1 : -2147483648 ≤ a) (h2 : a < 2147483648) (h3 : -2147483648 ≤ b) (h4 : b < 2147483648) : (qz a = qz b) ↔ a = b := by
  rw [← Int32.toInt_inj, qz_int h1 h2, qz_int h3 h4]
theorem qz_lt {a b : Int} (h1 : -2147483648 ≤ a) (h2 : a < 2147483648) (h3 : -2147483648 ≤ b) (h4 : b < 2147483648) : (qz a < qz b) ↔ a < b := by
  rw [Int32.lt_iff_toInt_lt, qz_int h1 h2, qz_int h3 h4]
theorem qz_le {a b : Int} (h1 : -2147483648 ≤ a) (h2 : a < 2147483648) (h3 : -2147483648 ≤ b) (h4 : b < 2147483648) : (qz a ≤ qz b) ↔ a ≤ b := by
  rw [Int32.le_iff_toInt_le, qz_int h1 h2, qz_int h3 h4]
theorem qZ_eq {a b : Int} (h1 : -9223372036854775808 ≤ a) (h2 : a < 9223372036854775808) (h3 : -9223372036854775808 ≤ b) (h4 : b < 9223372036854775808) : (qZ a = qZ b) ↔ a = b := by
  rw [← Int64.toInt_inj, qZ_int h1 h2, qZ_int h3 h4]
theorem qZ_lt {a b : Int} (h1 : -9223372036854775808 ≤ a) (h2 : a < 9223372036854775808) (h3 : -9223372036854775808 ≤ b) (h4 : b < 9223372036854775808) : (qZ a < qZ b) ↔ a < b := by
  rw [Int64.lt_iff_toInt_lt, qZ_int h1 h2, qZ_int h3 h4]
theorem qZ_le {a b : Int} (h1 : -9223372036854775808 ≤ a) (h2 : a < 9223372036854775808) (h3 : -9223372036854775808 ≤ b) (h4 : b < 9223372036854775808) : (qZ a ≤ qZ b) ↔ a ≤ b := by
  rw [Int64.le_iff_toInt_le, qZ_int h1 h2, qZ_int h3 h4]
theorem qz_xor {a b : Int} (h1 : -2147483648 ≤ a) (h2 : a < 2147483648) (h3 : -2147483648 ≤ b) (h4 : b < 2147483648) : (0 ≤ (qz a ^^^ qz b)) ↔ (a < 0 ↔ b < 0) := by
  have e : ∀ x : Int32, (0 ≤ x) ↔ x.toBitVec.msb = false := by
    intro x
    rw [Int32.le_iff_toInt_le, BitVec.msb_eq_toInt]
    show (0 : Int) ≤ x.toBitVec.toInt ↔ _
    simp
  have e1 : ∀ z : Int, -2147483648 ≤ z → z < 2147483648 → (qz z).toBitVec.msb = decide (z < 0) := by
    intro z g1 g2
    rw [BitVec.msb_eq_toInt]
    show decide ((qz z).toInt < 0) = _
    rw [qz_int g1 g2]
  rw [e, Int32.toBitVec_xor, BitVec.msb_xor, e1 a h1 h2, e1 b h3 h4]
  by_cases ha : a < 0 <;> by_cases hb : b < 0 <;> simp [ha, hb]
/-! what the joins reckon -/
def cl (z : Int) : Int := if z > 1000000 then 1000000 else if z < -1000000 then -1000000 else z
def fl (a b : Int) : Int := if a - a.tdiv b * b ≠ 0 ∧ ¬ (a < 0 ↔ b < 0) then a.tdiv b - 1 else a.tdiv b
def evJ (c : Nat) (a b : Int) : Int := if c = 5 then cl (a + b) else if c = 6 then cl (a - b) else if c = 7 then cl (a * b) else if c = 8 then (if b = 0 then 0 else cl (fl a b)) else if c = 9 then (if b = 0 then 0 else a - b * fl a b) else if c = 10 then (if b < a then b else a) else if c = 11 then (if a < b then b else a) else if c = 12 then (if a = 0 ∧ b = 0 then 0 else 1) else if c = 13 then (if a = 0 ∨ b = 0 then 0 else 1) else if c = 14 then (if b ≤ a then 0 else 1) else if c = 15 then (if a ≤ b then 0 else 1) else if c = 16 then (if a = b then 1 else 0) else 0
theorem cl_b (z : Int) : -1000000 ≤ cl z ∧ cl z ≤ 1000000 := by
  unfold cl; split
  · omega
  · split <;> omega
theorem td_b {a b : Int} (h : -1000000 ≤ a ∧ a ≤ 1000000) : -1000000 ≤ a.tdiv b ∧ a.tdiv b ≤ 1000000 := by
  have := Int.natAbs_tdiv_le_natAbs a b
  omega
theorem fl_b {a b : Int} (h : -1000000 ≤ a ∧ a ≤ 1000000) : -1000001 ≤ fl a b ∧ fl a b ≤ 1000000 := by
  have := td_b (b := b) h
  unfold fl; split <;> omega
theorem tm_e (a b : Int) : a - a.tdiv b * b = a.tmod b := by
  have := Int.tmod_add_tdiv_mul a b
  omega
theorem tm_b {a b : Int} (h : b ≠ 0) : (0 ≤ a → 0 ≤ a.tmod b) ∧ (a < 0 → a.tmod b ≤ 0) ∧ (a.tmod b).natAbs < b.natAbs := by
  refine ⟨Int.tmod_nonneg b, fun ha => ?_, ?_⟩
  · have := Int.tmod_nonneg (a := -a) b (by omega)
    rw [Int.neg_tmod] at this
    omega
  · rw [Int.natAbs_tmod]
    exact Nat.mod_lt _ (by omega)
theorem md_e (a b : Int) : a - b * fl a b = if a.tmod b ≠ 0 ∧ ¬ (a < 0 ↔ b < 0) then a.tmod b + b else a.tmod b := by
  unfold fl
  rw [tm_e]
  have := Int.tmod_add_tdiv_mul a b
  split
  · rw [Int.mul_sub, Int.mul_comm b]; omega
  · rw [Int.mul_comm b]; omega
theorem md_b {a b : Int} (h : b ≠ 0) (hb : -1000000 ≤ b ∧ b ≤ 1000000) : -1000000 ≤ a - b * fl a b ∧ a - b * fl a b ≤ 1000000 := by
  rw [md_e]
  obtain ⟨h1, h2, h3⟩ := tm_b (a := a) h
  split <;> omega
def okZ (z : Int) : Prop := -1000000 ≤ z ∧ z ≤ 1000000
theorem p_ite {c : Prop} [Decidable c] {x y : Int} (h1 : c → okZ x) (h2 : ¬ c → okZ y) : okZ (if c then x else y) := by
  by_cases h : c
  · rw [if_pos h]; exact h1 h
  · rw [if_neg h]; exact h2 h
theorem evJ_b {c : Nat} {a b : Int} (ha : -1000000 ≤ a ∧ a ≤ 1000000) (hb : -1000000 ≤ b ∧ b ≤ 1000000) : -1000000 ≤ evJ c a b ∧ evJ c a b ≤ 1000000 := by
  have k0 : okZ 0 := ⟨by decide, by decide⟩
  have k1 : okZ 1 := ⟨by decide, by decide⟩
  have ka : okZ a := ha
  have kb : okZ b := hb
  have kc : ∀ z, okZ (cl z) := cl_b
  have key : okZ (evJ c a b) := by
    unfold evJ
    exact p_ite (fun _ => kc _) fun _ => p_ite (fun _ => kc _) fun _ => p_ite (fun _ => kc _) fun _ => p_ite (fun _ => p_ite (fun _ => k0) fun _ => kc _) fun _ => p_ite (fun _ => p_ite (fun _ => k0) fun h => md_b h hb) fun _ => p_ite (fun _ => p_ite (fun _ => kb) fun _ => ka) fun _ => p_ite (fun _ => p_ite (fun _ => kb) fun _ => ka) fun _ => p_ite (fun _ => p_ite (fun _ => k0) fun _ => k1) fun _ => p_ite (fun _ => p_ite (fun _ => k0) fun _ => k1) fun _ => p_ite (fun _ => p_ite (fun _ => k0) fun _ => k1) fun _ => p_ite (fun _ => p_ite (fun _ => k0) fun _ => k1) fun _ => p_ite (fun _ => p_ite (fun _ => k1) fun _ => k0) fun _ => k0
  exact key
theorem evJ_t {c : Nat} (hc : 12 ≤ c) {a b : Int} : evJ c a b = 0 ∨ evJ c a b = 1 := by
  unfold evJ
  repeat' split
  all_goals omega
theorem c_bounded {z : Int} (h : -10000000000000 ≤ z ∧ z ≤ 10000000000000) : f_X4_bounded (qZ z) = some (qz (cl z)) := by
  unfold f_X4_bounded g_X4_bounded cl
  simp (disch := omega) only [qZ_lit, qZ_neg, qZ_lt]
  by_cases h1 : z < 1000000
  · have h2 : ¬ z > 1000000 := by omega
    simp (disch := omega) only [h1, h2, ↓reduceIte, Int.cast_ofNat_Int, qZ_lt]
    by_cases h3 : z < -1000000
    · simp only [h3, ↓reduceIte, qZ_32]
    · simp only [h3, ↓reduceIte, qZ_32]
  · have h4 : (if z > 1000000 then (1000000 : Int) else if z < -1000000 then -1000000 else z) = 1000000 := by split <;> (try split) <;> omega
    rw [h4]
    simp (disch := omega) only [h1, ↓reduceIte, Int.cast_ofNat_Int, qZ_lt, qZ_32, Int.reduceNeg, Int.reduceLT]
theorem r_held {z : Int} (h : -10000000000000 ≤ z ∧ z ≤ 10000000000000) : f_held (qZ z) = some (qZ (cl z)) := by
  unfold f_held cl
  simp (disch := omega) only [↓lg_cmp_le, ↓lg_cmp_ge, qZ_lit, qZ_neg, qZ_le, Int.cast_ofNat_Int]
  by_cases h1 : z ≤ 1000000
  · have h2 : ¬ z > 1000000 := by omega
    simp only [h1, h2, ↓reduceIte]
    by_cases h3 : -1000000 ≤ z
    · have h4 : ¬ z < -1000000 := by omega
      simp only [h3, h4, ↓reduceIte]
    · have h4 : z < -1000000 := by omega
      simp only [h3, h4, ↓reduceIte]
  · have h2 : z > 1000000 := by omega
    simp only [h1, h2, ↓reduceIte]
theorem c_floorDiv {a b : Int} (ha : -1000000 ≤ a ∧ a ≤ 1000000) (hb : -1000000 ≤ b ∧ b ≤ 1000000) (h0 : b ≠ 0) : f_J9_floorDiv_7cf53 (qz a) (qz b) = some (qz (fl a b)) := by
  have ht := td_b (b := b) ha
  have hm := tm_b (a := a) h0
  have he := Int.tmod_add_tdiv_mul a b
  unfold f_J9_floorDiv_7cf53 g_J9_floorDiv_7cf53 fl
  simp (disch := omega) only [↓qz_xor, qz_div, qz_mul]
  have e0 : ¬ qz b = 0 := by rw [qz_lit, qz_eq] <;> omega
  have e1 : (qz (a.tdiv b * b) = qz a) ↔ a - a.tdiv b * b = 0 := by rw [qz_eq] <;> omega
  simp only [e0, not_false_eq_true, ↓reduceIte, e1]
  by_cases h1 : (a < 0 ↔ b < 0)
  · simp only [h1, ↓reduceIte, not_true, and_false]
  · by_cases h2 : a - a.tdiv b * b = 0
    · simp only [h1, h2, ↓reduceIte, ne_eq, not_true, false_and]
    · simp only [h1, h2, ↓reduceIte, ne_eq, not_false_eq_true, and_true, qz_lit, qz_sub]
      rfl
theorem c_floorMod {a b : Int} (ha : -1000000 ≤ a ∧ a ≤ 1000000) (hb : -1000000 ≤ b ∧ b ≤ 1000000) (h0 : b ≠ 0) : f_J9_floorMod_7cf53 (qz a) (qz b) = some (qz (a - b * fl a b)) := by
  have ht := td_b (b := b) ha
  have hm := tm_b (a := a) h0
  rw [md_e]
  unfold f_J9_floorMod_7cf53 g_J9_floorMod_7cf53
  simp (disch := omega) only [↓qz_xor, qz_div, qz_mul, qz_sub, tm_e]
  have e0 : ¬ qz b = 0 := by rw [qz_lit, qz_eq] <;> omega
  have e1 : (qz (a.tmod b) = 0) ↔ a.tmod b = 0 := by rw [qz_lit, qz_eq] <;> omega
  simp only [e0, not_false_eq_true, ↓reduceIte, e1]
  by_cases h1 : (a < 0 ↔ b < 0)
  · simp only [h1, ↓reduceIte, not_true, and_false]
  · by_cases h2 : a.tmod b = 0
    · simp only [h1, h2, ↓reduceIte, ne_eq, not_true, false_and]
    · simp only [h1, h2, ↓reduceIte, ne_eq, not_false_eq_true, and_true, qz_add]
theorem r_floor {a b : Int} (ha : -1000000 ≤ a ∧ a ≤ 1000000) (hb : -1000000 ≤ b ∧ b ≤ 1000000) : f_floor (qZ a) (qZ b) = some (if b = 0 then qZ 0 else qZ (fl a b)) := by
  have ht := td_b (b := b) ha
  by_cases h0 : b = 0
  · subst h0
    unfold f_floor
    simp (disch := omega) only [↓lg_cmp_eq, qZ_lit, Int.cast_ofNat_Int, ↓reduceIte]
  have hm := tm_b (a := a) h0
  unfold f_floor f_floor_32 f_floor_43 fl
  have e0 : ¬ qZ b = 0 := by rw [qZ_lit, qZ_eq] <;> omega
  simp (disch := omega) only [↓lg_cmp_eq, ↓lg_cmp_ge, qZ_div, qZ_mul, qZ_sub, tm_e, e0, not_false_eq_true, ↓reduceIte]
  have e1 : (qZ (a.tmod b) = 0) ↔ a.tmod b = 0 := by rw [qZ_lit, qZ_eq] <;> omega
  have e2 : (0 ≤ qZ a) ↔ ¬ a < 0 := by rw [qZ_lit, qZ_le] <;> omega
  have e3 : (0 ≤ qZ b) ↔ ¬ b < 0 := by rw [qZ_lit, qZ_le] <;> omega
  have e4 : ¬ ((0 : Int32) = 1) := by decide
  have e5 : ¬ ((1 : Int32) = 0) := by decide
  have e6 : qZ (a.tdiv b) - 1 = qZ (a.tdiv b - 1) := by rw [qZ_lit, qZ_sub]; rfl
  simp only [e1, e2, e3, h0, ↓reduceIte, ne_eq, e6]
  by_cases h2 : a.tmod b = 0
  · simp only [h2, ↓reduceIte, not_true, false_and]
  · by_cases h3 : a < 0 <;> by_cases h4 : b < 0 <;> simp only [h2, h3, h4, e4, e5, ↓reduceIte, not_true, not_false_eq_true, and_true, and_false, iff_false, iff_true, false_iff, true_iff]
theorem c_joined {c : Nat} (hc : 5 ≤ c ∧ c ≤ 16) {a b : Int} (ha : -1000000 ≤ a ∧ a ≤ 1000000) (hb : -1000000 ≤ b ∧ b ≤ 1000000) (ht : c = 12 ∨ c = 13 → (a = 0 ∨ a = 1) ∧ (b = 0 ∨ b = 1)) : f_X4_joined (qi c) (qz a) (qz b) = some (qz (evJ c a b)) := by
  have hp : a * b ≤ 1000000000000 ∧ -1000000000000 ≤ a * b := by
    have h1 : (a * b).natAbs ≤ 1000000 * 1000000 := by
      rw [Int.natAbs_mul]
      exact Nat.mul_le_mul (by omega) (by omega)
    omega
  have e0 : (qz b = qi 0) ↔ b = 0 := by rw [qi_z, qz_eq] <;> omega
  rcases (by omega : c = 5 ∨ c = 6 ∨ c = 7 ∨ c = 8 ∨ c = 9 ∨ c = 10 ∨ c = 11 ∨ c = 12 ∨ c = 13 ∨ c = 14 ∨ c = 15 ∨ c = 16) with rfl | rfl | rfl | rfl | rfl | rfl | rfl | rfl | rfl | rfl | rfl | rfl
  · simp (disch := omega) only [f_X4_joined, g_X4_joined, evJ, q_lit, q_eq, ↓reduceIte, qz_64, qZ_add, c_bounded, o_bind, Nat.reduceEqDiff]
  · simp (disch := omega) only [f_X4_joined, g_X4_joined, evJ, q_lit, q_eq, ↓reduceIte, qz_64, qZ_sub, c_bounded, o_bind, Nat.reduceEqDiff]
  · simp (disch := omega) only [f_X4_joined, g_X4_joined, evJ, q_lit, q_eq, ↓reduceIte, qz_64, qZ_mul, c_bounded, o_bind, Nat.reduceEqDiff]
  · have := fl_b (b := b) ha
    by_cases hb0 : b = 0
    · subst hb0
      simp (disch := omega) only [f_X4_joined, g_X4_joined, evJ, q_lit, q_eq, ↓reduceIte, Nat.reduceEqDiff, e0]
      rfl
    · simp (disch := omega) only [f_X4_joined, g_X4_joined, evJ, q_lit, q_eq, hb0, ↓reduceIte, Nat.reduceEqDiff, e0, c_floorDiv, o_bind, qz_64, c_bounded]
  · by_cases hb0 : b = 0
    · subst hb0
      simp (disch := omega) only [f_X4_joined, g_X4_joined, evJ, q_lit, q_eq, ↓reduceIte, Nat.reduceEqDiff, e0]
      rfl
    · simp (disch := omega) only [f_X4_joined, g_X4_joined, evJ, q_lit, q_eq, hb0, ↓reduceIte, Nat.reduceEqDiff, e0, c_floorMod, o_bind]
  · simp (disch := omega) only [f_X4_joined, g_X4_joined, evJ, q_lit, q_eq, ↓reduceIte, Nat.reduceEqDiff, qz_lt]
    split <;> rfl
  · simp (disch := omega) only [f_X4_joined, g_X4_joined, evJ, q_lit, q_eq, ↓reduceIte, Nat.reduceEqDiff, qz_lt]
    split <;> rfl
  · obtain ⟨rfl | rfl, rfl | rfl⟩ := ht (Or.inl rfl) <;> rfl
  · obtain ⟨rfl | rfl, rfl | rfl⟩ := ht (Or.inr rfl) <;> rfl
  · simp (disch := omega) only [f_X4_joined, g_X4_joined, evJ, q_lit, q_eq, ↓reduceIte, Nat.reduceEqDiff, qz_le]
    split <;> rfl
  · simp (disch := omega) only [f_X4_joined, g_X4_joined, evJ, q_lit, q_eq, ↓reduceIte, Nat.reduceEqDiff, qz_le]
    split <;> rfl
  · simp (disch := omega) only [f_X4_joined, g_X4_joined, evJ, q_lit, q_eq, ↓reduceIte, Nat.reduceEqDiff, qz_eq]
    split <;> rfl
def sOf (c : Nat) : Nat := if c = 12 then 42 else if c = 13 then 41 else if c < 12 then c + 26 else if c < 17 then c + 24 else c + 26
theorem sOf_b {c : Nat} (hc : 5 ≤ c ∧ c ≤ 16) : 30 < sOf c ∧ sOf c < 43 := by
  unfold sOf
  by_cases h1 : c = 12
  · rw [if_pos h1]; omega
  rw [if_neg h1]
  by_cases h2 : c = 13
  · rw [if_pos h2]; omega
  rw [if_neg h2]
  by_cases h3 : c < 12
  · rw [if_pos h3]; omega
  rw [if_neg h3, if_pos (by omega)]; omega
theorem r_two {c : Nat} (hc : 5 ≤ c ∧ c ≤ 16) {a b : Int} (ha : -1000000 ≤ a ∧ a ≤ 1000000) (hb : -1000000 ≤ b ∧ b ≤ 1000000) (ht : c = 12 ∨ c = 13 → (a = 0 ∨ a = 1) ∧ (b = 0 ∨ b = 1)) : f_two (qi (sOf c)) (qZ a) (qZ b) = some (qZ (evJ c a b)) := by
  have hp : a * b ≤ 1000000000000 ∧ -1000000000000 ≤ a * b := by
    have h1 : (a * b).natAbs ≤ 1000000 * 1000000 := by
      rw [Int.natAbs_mul]
      exact Nat.mul_le_mul (by omega) (by omega)
    omega
  have e0 : (qZ b = 0) ↔ b = 0 := by rw [qZ_lit, qZ_eq] <;> omega
  rcases (by omega : c = 5 ∨ c = 6 ∨ c = 7 ∨ c = 8 ∨ c = 9 ∨ c = 10 ∨ c = 11 ∨ c = 12 ∨ c = 13 ∨ c = 14 ∨ c = 15 ∨ c = 16) with rfl | rfl | rfl | rfl | rfl | rfl | rfl | rfl | rfl | rfl | rfl | rfl
  · simp (disch := omega) only [f_two, evJ, sOf, q_lit, q_eq, ↓reduceIte, qZ_add, r_held, o_bind, Nat.reduceEqDiff, Nat.reduceLT, Nat.reduceAdd]
  · simp (disch := omega) only [f_two, evJ, sOf, q_lit, q_eq, ↓reduceIte, qZ_sub, r_held, o_bind, Nat.reduceEqDiff, Nat.reduceLT, Nat.reduceAdd]
  · simp (disch := omega) only [f_two, evJ, sOf, q_lit, q_eq, ↓reduceIte, qZ_mul, r_held, o_bind, Nat.reduceEqDiff, Nat.reduceLT, Nat.reduceAdd]
  · have := fl_b (b := b) ha
    by_cases hb0 : b = 0
    · subst hb0
      simp (disch := omega) only [f_two, evJ, sOf, q_lit, q_eq, ↓reduceIte, Nat.reduceEqDiff, r_floor, o_bind, Nat.reduceLT, Nat.reduceAdd, r_held]
      rfl
    · simp (disch := omega) only [f_two, evJ, sOf, q_lit, q_eq, hb0, ↓reduceIte, Nat.reduceEqDiff, r_floor, o_bind, Nat.reduceLT, Nat.reduceAdd, r_held]
  · by_cases hb0 : b = 0
    · subst hb0
      simp (disch := omega) only [f_two, evJ, sOf, ↓lg_cmp_eq, q_lit, q_eq, ↓reduceIte, Nat.reduceEqDiff, e0, o_bind, Nat.reduceLT, Nat.reduceAdd]
      rfl
    · have hmd := md_b (a := a) hb0 hb
      have hcl : cl (a - b * fl a b) = a - b * fl a b := by
        unfold cl
        rw [if_neg (by omega), if_neg (by omega)]
      simp (disch := omega) only [f_two, evJ, sOf, ↓lg_cmp_eq, q_lit, q_eq, hb0, ↓reduceIte, Nat.reduceEqDiff, e0, r_floor, o_bind, Nat.reduceLT, Nat.reduceAdd, qZ_mul, qZ_sub, r_held, hcl]
  · simp (disch := omega) only [f_two, evJ, sOf, ↓lg_cmp_ge, q_lit, q_eq, ↓reduceIte, Nat.reduceEqDiff, Nat.reduceLT, Nat.reduceAdd, qZ_le]
    by_cases h1 : b ≤ a
    · by_cases h2 : b < a
      · simp only [h1, h2, ↓reduceIte]
      · obtain rfl : b = a := by omega
        simp only [h1, h2, ↓reduceIte]
    · have h2 : ¬ b < a := by omega
      simp only [h1, h2, ↓reduceIte]
  · simp (disch := omega) only [f_two, evJ, sOf, ↓lg_cmp_le, q_lit, q_eq, ↓reduceIte, Nat.reduceEqDiff, Nat.reduceLT, Nat.reduceAdd, qZ_le]
    by_cases h1 : a ≤ b
    · by_cases h2 : a < b
      · simp only [h1, h2, ↓reduceIte]
      · obtain rfl : b = a := by omega
        simp only [h1, h2, ↓reduceIte]
    · have h2 : ¬ a < b := by omega
      simp only [h1, h2, ↓reduceIte]
  · obtain ⟨rfl | rfl, rfl | rfl⟩ := ht (Or.inl rfl) <;> rfl
  · obtain ⟨rfl | rfl, rfl | rfl⟩ := ht (Or.inr rfl) <;> rfl
  · simp (disch := omega) only [f_two, evJ, sOf, ↓lg_cmp_ge, q_lit, q_eq, ↓reduceIte, Nat.reduceEqDiff, Nat.reduceLT, Nat.reduceAdd, qZ_le]
    split <;> rfl
  · simp (disch := omega) only [f_two, evJ, sOf, ↓lg_cmp_le, q_lit, q_eq, ↓reduceIte, Nat.reduceEqDiff, Nat.reduceLT, Nat.reduceAdd, qZ_le]
    split <;> rfl
  · simp (disch := omega) only [f_two, evJ, sOf, ↓lg_cmp_eq, q_lit, q_eq, ↓reduceIte, Nat.reduceEqDiff, Nat.reduceLT, Nat.reduceAdd, qZ_eq]
    split <;> rfl
end
