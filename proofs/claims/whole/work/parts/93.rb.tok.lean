section
variable {T : tkT} {R : zI} {M : zL}
theorem sb (h : tkR T R M) (h5 : T.1 ≠ 5) {n : Nat} {β : Type} {f : Int32 × zI × zL → Option β} (hn : (OfNat.ofNat n : Nat) < 256) : (f_isSign (OfNat.ofNat n) R M).bind f = f (qi (if tS T (OfNat.ofNat n) then 1 else 0), R, M) := by
  rw [q_lit, tk_sg h h5 hn]
  rfl
theorem nS {s : Nat} (h : ¬ (T.1 = 1 ∧ T.2.1 = s)) : ¬ tS T s := h
theorem nO {s : Nat} (h : ¬ (T.1 = 4 ∧ T.2.1 = s)) : ¬ tO T s := h
theorem tS_F {s : Nat} (h : ¬ (T.1 = 1 ∧ T.2.1 = s)) : tS T s = False := eq_false h
theorem tS_T {s : Nat} (h : T.1 = 1 ∧ T.2.1 = s) : tS T s = True := eq_true h
theorem tO_F {s : Nat} (h : ¬ (T.1 = 4 ∧ T.2.1 = s)) : tO T s = False := eq_false h
theorem tO_T {s : Nat} (h : T.1 = 4 ∧ T.2.1 = s) : tO T s = True := eq_true h
theorem wb_0 (h : tkR T R M) (h5 : T.1 ≠ 5) {β : Type} {f : Int32 × zI × zL → Option β} : (f_isWord 1953462126 R M).bind f = f (qi (if tO T 0 then 1 else 0), R, M) := by
  rw [show (1953462126 : Int64) = qI (ow 0) from rfl, tk_wd h h5 (by omega)]
  rfl
theorem wb_1 (h : tkR T R M) (h5 : T.1 ≠ 5) {β : Type} {f : Int32 × zI × zL → Option β} : (f_isWord 1667330676 R M).bind f = f (qi (if tO T 1 then 1 else 0), R, M) := by
  rw [show (1667330676 : Int64) = qI (ow 1) from rfl, tk_wd h h5 (by omega)]
  rfl
theorem wb_2 (h : tkR T R M) (h5 : T.1 ≠ 5) {β : Type} {f : Int32 × zI × zL → Option β} : (f_isWord 29807 R M).bind f = f (qi (if tO T 2 then 1 else 0), R, M) := by
  rw [show (29807 : Int64) = qI (ow 2) from rfl, tk_wd h h5 (by omega)]
  rfl
theorem wb_3 (h : tkR T R M) (h5 : T.1 ≠ 5) {β : Type} {f : Int32 × zI × zL → Option β} : (f_isWord 1684109683 R M).bind f = f (qi (if tO T 3 then 1 else 0), R, M) := by
  rw [show (1684109683 : Int64) = qI (ow 3) from rfl, tk_wd h h5 (by omega)]
  rfl
theorem wb_4 (h : tkR T R M) (h5 : T.1 ≠ 5) {β : Type} {f : Int32 × zI × zL → Option β} : (f_isWord 448545973363 R M).bind f = f (qi (if tO T 4 then 1 else 0), R, M) := by
  rw [show (448545973363 : Int64) = qI (ow 4) from rfl, tk_wd h h5 (by omega)]
  rfl
theorem wb_5 (h : tkR T R M) (h5 : T.1 ≠ 5) {β : Type} {f : Int32 × zI × zL → Option β} : (f_isWord 28518 R M).bind f = f (qi (if tO T 5 then 1 else 0), R, M) := by
  rw [show (28518 : Int64) = qI (ow 5) from rfl, tk_wd h h5 (by omega)]
  rfl
theorem wb_6 (h : tkR T R M) (h5 : T.1 ≠ 5) {β : Type} {f : Int32 × zI × zL → Option β} : (f_isWord 131333279212915 R M).bind f = f (qi (if tO T 6 then 1 else 0), R, M) := by
  rw [show (131333279212915 : Int64) = qI (ow 6) from rfl, tk_wd h h5 (by omega)]
  rfl
theorem wb_7 (h : tkR T R M) (h5 : T.1 ≠ 5) {β : Type} {f : Int32 × zI × zL → Option β} : (f_isWord 465625113971 R M).bind f = f (qi (if tO T 7 then 1 else 0), R, M) := by
  rw [show (465625113971 : Int64) = qI (ow 7) from rfl, tk_wd h h5 (by omega)]
  rfl
theorem wb_8 (h : tkR T R M) (h5 : T.1 ≠ 5) {β : Type} {f : Int32 × zI × zL → Option β} : (f_isWord 512970880104 R M).bind f = f (qi (if tO T 8 then 1 else 0), R, M) := by
  rw [show (512970880104 : Int64) = qI (ow 8) from rfl, tk_wd h h5 (by omega)]
  rfl
theorem wb_9 (h : tkR T R M) (h5 : T.1 ≠ 5) {β : Type} {f : Int32 × zI × zL → Option β} : (f_isWord 1701733228 R M).bind f = f (qi (if tO T 9 then 1 else 0), R, M) := by
  rw [show (1701733228 : Int64) = qI (ow 9) from rfl, tk_wd h h5 (by omega)]
  rfl
theorem wb_10 (h : tkR T R M) (h5 : T.1 ≠ 5) {β : Type} {f : Int32 × zI × zL → Option β} : (f_isWord 1819243380 R M).bind f = f (qi (if tO T 10 then 1 else 0), R, M) := by
  rw [show (1819243380 : Int64) = qI (ow 10) from rfl, tk_wd h h5 (by omega)]
  rfl
theorem wb_11 (h : tkR T R M) (h5 : T.1 ≠ 5) {β : Type} {f : Int32 × zI × zL → Option β} : (f_isWord 1751477348 R M).bind f = f (qi (if tO T 11 then 1 else 0), R, M) := by
  rw [show (1751477348 : Int64) = qI (ow 11) from rfl, tk_wd h h5 (by omega)]
  rfl
theorem wb_12 (h : tkR T R M) (h5 : T.1 ≠ 5) {β : Type} {f : Int32 × zI × zL → Option β} : (f_isWord 6709618 R M).bind f = f (qi (if tO T 12 then 1 else 0), R, M) := by
  rw [show (6709618 : Int64) = qI (ow 12) from rfl, tk_wd h h5 (by omega)]
  rfl
theorem wb_13 (h : tkR T R M) (h5 : T.1 ≠ 5) {β : Type} {f : Int32 × zI × zL → Option β} : (f_isWord 6578553 R M).bind f = f (qi (if tO T 13 then 1 else 0), R, M) := by
  rw [show (6578553 : Int64) = qI (ow 13) from rfl, tk_wd h h5 (by omega)]
  rfl
theorem wb_14 (h : tkR T R M) (h5 : T.1 ≠ 5) {β : Type} {f : Int32 × zI × zL → Option β} : (f_isWord 1936027252 R M).bind f = f (qi (if tO T 14 then 1 else 0), R, M) := by
  rw [show (1936027252 : Int64) = qI (ow 14) from rfl, tk_wd h h5 (by omega)]
  rfl
theorem wb_15 (h : tkR T R M) (h5 : T.1 ≠ 5) {β : Type} {f : Int32 × zI × zL → Option β} : (f_isWord 6778740 R M).bind f = f (qi (if tO T 15 then 1 else 0), R, M) := by
  rw [show (6778740 : Int64) = qI (ow 15) from rfl, tk_wd h h5 (by omega)]
  rfl
theorem wb_16 (h : tkR T R M) (h5 : T.1 ≠ 5) {β : Type} {f : Int32 × zI × zL → Option β} : (f_isWord 26982 R M).bind f = f (qi (if tO T 16 then 1 else 0), R, M) := by
  rw [show (26982 : Int64) = qI (ow 16) from rfl, tk_wd h h5 (by omega)]
  rfl
theorem wb_17 (h : tkR T R M) (h5 : T.1 ≠ 5) {β : Type} {f : Int32 × zI × zL → Option β} : (f_isWord 28530 R M).bind f = f (qi (if tO T 17 then 1 else 0), R, M) := by
  rw [show (28530 : Int64) = qI (ow 17) from rfl, tk_wd h h5 (by omega)]
  rfl
theorem wb_18 (h : tkR T R M) (h5 : T.1 ≠ 5) {β : Type} {f : Int32 × zI × zL → Option β} : (f_isWord 6385252 R M).bind f = f (qi (if tO T 18 then 1 else 0), R, M) := by
  rw [show (6385252 : Int64) = qI (ow 18) from rfl, tk_wd h h5 (by omega)]
  rfl
theorem wb_19 (h : tkR T R M) (h5 : T.1 ≠ 5) {β : Type} {f : Int32 × zI × zL → Option β} : (f_isWord 7237492 R M).bind f = f (qi (if tO T 19 then 1 else 0), R, M) := by
  rw [show (7237492 : Int64) = qI (ow 19) from rfl, tk_wd h h5 (by omega)]
  rfl
theorem wb_20 (h : tkR T R M) (h5 : T.1 ≠ 5) {β : Type} {f : Int32 × zI × zL → Option β} : (f_isWord 6384748 R M).bind f = f (qi (if tO T 20 then 1 else 0), R, M) := by
  rw [show (6384748 : Int64) = qI (ow 20) from rfl, tk_wd h h5 (by omega)]
  rfl
theorem wb_21 (h : tkR T R M) (h5 : T.1 ≠ 5) {β : Type} {f : Int32 × zI × zL → Option β} : (f_isWord 7170414 R M).bind f = f (qi (if tO T 21 then 1 else 0), R, M) := by
  rw [show (7170414 : Int64) = qI (ow 21) from rfl, tk_wd h h5 (by omega)]
  rfl
theorem wb_22 (h : tkR T R M) (h5 : T.1 ≠ 5) {β : Type} {f : Int32 × zI × zL → Option β} : (f_isWord 7168376 R M).bind f = f (qi (if tO T 22 then 1 else 0), R, M) := by
  rw [show (7168376 : Int64) = qI (ow 22) from rfl, tk_wd h h5 (by omega)]
  rfl
end
