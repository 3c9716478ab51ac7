section
theorem Q_sh8 {a : Nat} (ha : a < 281474976710656) : qI a <<< ((qi 8).toInt64 &&& 63) = qI (a * 256) := by
  rw [qb_c 8 (by omega)]
  apply Int64.toBitVec_inj.mp
  rw [Int64.toBitVec_shiftLeft, Q_tb, Q_tb, Q_tb, qb_sm 8 (by omega)]
  apply BitVec.eq_of_toNat_eq
  rw [BitVec.shiftLeft_eq', BitVec.toNat_shiftLeft, BitVec.toNat_ofNat, BitVec.toNat_ofNat, BitVec.toNat_ofNat, Nat.shiftLeft_eq, Nat.mod_eq_of_lt (show a < 2 ^ 64 by omega), show 8 % 2 ^ 64 = 8 from rfl]
theorem Q_let {a o : Nat} (ha : a < 281474976710656) (ho : o < 256) : (qI a <<< ((qi 8).toInt64 &&& 63)) ||| (qi o).toInt64 = qI (a * 256 + o) := by
  rw [Q_sh8 ha, Q_i (by omega), Q_or (by omega) (by omega)]
  have e := Nat.two_pow_add_eq_or_of_lt (i := 8) ho a
  rw [show (2 : Nat) ^ 8 = 256 from rfl] at e
  rw [Nat.mul_comm a 256, ← e]
end
