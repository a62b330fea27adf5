section LONG
theorem iL_add (a b : Int) : iL a + iL b = iL (a + b) := (Int64.ofInt_add a b).symm
theorem iL_mul (a b : Int) : iL a * iL b = iL (a * b) := (Int64.ofInt_mul a b).symm
theorem iL_neg (a : Int) : -(iL a) = iL (-a) := (Int64.ofInt_neg a).symm
theorem lN_iL (n : Nat) : lN n = iL (n : Int) := Int64.ofInt_eq_ofNat.symm
theorem nI_L {n : Nat} (h : n < 2 ^ 31) : (nI n).toInt64 = lN n := by
  apply Int64.toInt_inj.mp
  rw [Int32.toInt_toInt64, gL_toInt (by omega), nI_toInt h]
theorem nI_subL {a b : Nat} (ha : a < 2 ^ 30) (hb : b < 2 ^ 30) : (nI a - nI b).toInt64 = iL ((a : Int) - b) := by
  apply Int64.toInt_inj.mp
  rw [Int32.toInt_toInt64, iL_toInt (by omega), Int32.toInt_sub, nI_toInt (by omega), nI_toInt (by omega)]
  apply Int.bmod_eq_of_le
  · simp; omega
  · simp; omega
theorem iL_le {a b : Int} (ha : a.natAbs < 2 ^ 63) (hb : b.natAbs < 2 ^ 63) : iL a ≤ iL b ↔ a ≤ b := by
  rw [Int64.le_iff_toInt_le, iL_toInt ha, iL_toInt hb]
theorem iL_lt {a b : Int} (ha : a.natAbs < 2 ^ 63) (hb : b.natAbs < 2 ^ 63) : iL a < iL b ↔ a < b := by
  rw [Int64.lt_iff_toInt_lt, iL_toInt ha, iL_toInt hb]
theorem iL_eq {a b : Int} (ha : a.natAbs < 2 ^ 63) (hb : b.natAbs < 2 ^ 63) : iL a = iL b ↔ a = b := by
  rw [← Int64.toInt_inj, iL_toInt ha, iL_toInt hb]
theorem iL_div {a b : Int} (ha : a.natAbs < 2 ^ 63) (hb : b.natAbs < 2 ^ 63) : iL a / iL b = iL (a.tdiv b) := by
  have hq : (a.tdiv b).natAbs < 2 ^ 63 := by
    rw [Int.natAbs_tdiv]
    exact Nat.lt_of_le_of_lt (Nat.div_le_self _ _) ha
  apply Int64.toInt_inj.mp
  rw [Int64.toInt_div, iL_toInt ha, iL_toInt hb, iL_toInt hq]
  generalize a.tdiv b = q at hq
  apply Int.bmod_eq_of_le
  · simp; omega
  · simp; omega
/-- the class's Math.max -/
theorem iL_max {a b : Int} (ha : a.natAbs < 2 ^ 63) (hb : b.natAbs < 2 ^ 63) : (if iL a < iL b then iL b else iL a) = iL (max a b) := by
  by_cases c : a < b
  · rw [if_pos ((iL_lt ha hb).mpr c), Int.max_eq_right (by omega)]
  · rw [if_neg (fun q => c ((iL_lt ha hb).mp q)), Int.max_eq_left (by omega)]
end LONG
