section SIGNC
theorem gL_shr {a d : Nat} {D : Int64} (hD : (D.toBitVec.smod 64).toNat = d) (h : a < 2 ^ 63) : lN a >>> D = lN (a / 2 ^ d) := by
  have hd : a / 2 ^ d ≤ a := Nat.div_le_self _ _
  apply Int64.toInt_inj.mp
  have e : (lN a >>> D).toInt = (lN a).toInt >>> d := by
    rw [← hD]
    exact BitVec.toInt_sshiftRight ..
  rw [e, Int.shiftRight_eq_div_pow, gL_toInt h, gL_toInt (by omega)]
  rfl
theorem gL_and {a b : Nat} (ha : a < 2 ^ 64) (hb : b < 2 ^ 64) : lN a &&& lN b = lN (a &&& b) := by
  apply Int64.toBitVec_inj.mp
  rw [Int64.toBitVec_and]
  apply BitVec.eq_of_toNat_eq
  show ((BitVec.ofNat 64 a) &&& (BitVec.ofNat 64 b)).toNat = (BitVec.ofNat 64 (a &&& b)).toNat
  rw [BitVec.toNat_and, BitVec.toNat_ofNat, BitVec.toNat_ofNat, BitVec.toNat_ofNat, Nat.mod_eq_of_lt ha, Nat.mod_eq_of_lt hb, Nat.mod_eq_of_lt (Nat.and_lt_two_pow _ hb)]
theorem gL_m25 {a : Nat} (ha : a < 2 ^ 64) : lN a &&& (33554431 : Int64) = lN (a % 33554432) := by
  rw [show (33554431 : Int64) = lN (2 ^ 25 - 1) from rfl, gL_and ha (by decide), Nat.and_two_pow_sub_one_eq_mod]
theorem gL_m50 {a : Nat} (ha : a < 2 ^ 64) : lN a &&& (1125899906842623 : Int64) = lN (a % 1125899906842624) := by
  rw [show (1125899906842623 : Int64) = lN (2 ^ 50 - 1) from rfl, gL_and ha (by decide), Nat.and_two_pow_sub_one_eq_mod]
theorem gL_s25 {a : Nat} (ha : a < 2 ^ 63) : lN a >>> ((25 : Int32).toInt64 &&& 63) = lN (a / 33554432) := gL_shr (d := 25) (by decide) ha
theorem gL_s50 {a : Nat} (ha : a < 2 ^ 63) : lN a >>> ((50 : Int32).toInt64 &&& 63) = lN (a / 1125899906842624) := gL_shr (d := 50) (by decide) ha
theorem gL_l25 {a : Nat} (ha : a < 2 ^ 38) : lN a <<< ((25 : Int32).toInt64 &&& 63) = lN (a * 33554432) := by
  apply Int64.toBitVec_inj.mp
  rw [Int64.toBitVec_shiftLeft, show (((25 : Int32).toInt64 &&& 63).toBitVec.smod 64) = BitVec.ofNat 64 25 from by decide]
  apply BitVec.eq_of_toNat_eq
  show ((BitVec.ofNat 64 a) <<< BitVec.ofNat 64 25).toNat = (BitVec.ofNat 64 (a * 33554432)).toNat
  rw [BitVec.shiftLeft_eq', BitVec.toNat_shiftLeft, BitVec.toNat_ofNat, BitVec.toNat_ofNat, BitVec.toNat_ofNat, Nat.mod_eq_of_lt (show a < 2 ^ 64 by omega), show 25 % 2 ^ 64 = 25 from rfl, Nat.shiftLeft_eq]
end SIGNC
