section SIGN
variable {q p : Nat} {x y : Int}
def gpq (q p : Nat) (x y : Int) : Int := (q : Int) * x + (p : Int) * y
theorem gpq_nn (hq : 0 < q) (hp : 0 < p) (hx : 0 ≤ x) (hy : 0 ≤ y) : 0 < gpq q p x y ↔ 0 < x ∨ 0 < y := by
  have a : 0 ≤ (q : Int) * x := Int.mul_nonneg (by omega) hx
  have b : 0 ≤ (p : Int) * y := Int.mul_nonneg (by omega) hy
  unfold gpq
  constructor
  · intro h
    refine Classical.byContradiction (fun z => ?_)
    have x0 : x = 0 := by omega
    have y0 : y = 0 := by omega
    rw [x0, y0, Int.mul_zero, Int.mul_zero] at h
    omega
  · rintro (h | h)
    · have : 0 < (q : Int) * x := Int.mul_pos (by omega) h
      omega
    · have : 0 < (p : Int) * y := Int.mul_pos (by omega) h
      omega
theorem gpq_neg : gpq q p (-x) (-y) = -(gpq q p x y) := by
  unfold gpq
  rw [Int.mul_neg, Int.mul_neg]
  omega
theorem gpq_np (hq : 0 < q) (hp : 0 < p) (hx : x ≤ 0) (hy : y ≤ 0) : gpq q p x y ≤ 0 ∧ (gpq q p x y < 0 ↔ x < 0 ∨ y < 0) := by
  have h := gpq_nn (x := -x) (y := -y) hq hp (by omega) (by omega)
  rw [gpq_neg] at h
  have a : 0 ≤ (q : Int) * (-x) := Int.mul_nonneg (by omega) (by omega)
  have b : 0 ≤ (p : Int) * (-y) := Int.mul_nonneg (by omega) (by omega)
  have e := gpq_neg (q := q) (p := p) (x := x) (y := y)
  have e2 : gpq q p (-x) (-y) = (q : Int) * (-x) + (p : Int) * (-y) := rfl
  refine ⟨by omega, ?_⟩
  constructor
  · intro z
    have := h.mp (by omega)
    omega
  · intro z
    have := h.mpr (by omega)
    omega
theorem gpq_pm (hpl : p * p = 2 * (q * q) + 1) (hx : 0 < x) (hy : y < 0) (hb : y.natAbs < q) : (0 < gpq q p x y ↔ 2 * (y.natAbs * y.natAbs) < x.natAbs * x.natAbs) ∧ gpq q p x y ≠ 0 := by
  obtain ⟨a, rfl⟩ := Int.eq_ofNat_of_zero_le (show 0 ≤ x by omega)
  obtain ⟨b, hb'⟩ := Int.eq_ofNat_of_zero_le (show 0 ≤ -y by omega)
  obtain rfl : y = -(b : Int) := by omega
  have nb : (-(b : Int)).natAbs = b := by omega
  have na : ((a : Int)).natAbs = a := by omega
  rw [nb] at hb ⊢
  rw [na, gq1 q p a b hpl hb]
  have ne := gq2 q p a b hpl hb (by omega)
  have e : gpq q p (a : Int) (-(b : Int)) = ((q * a : Nat) : Int) - ((p * b : Nat) : Int) := by
    unfold gpq
    rw [Int.mul_neg, Int.natCast_mul, Int.natCast_mul]
    omega
  rw [e]
  omega
theorem gpq_mp (hpl : p * p = 2 * (q * q) + 1) (hx : x < 0) (hy : 0 < y) (hb : y.natAbs < q) : (0 < gpq q p x y ↔ ¬ 2 * (y.natAbs * y.natAbs) < x.natAbs * x.natAbs) ∧ gpq q p x y ≠ 0 := by
  have h := gpq_pm (q := q) (p := p) (x := -x) (y := -y) hpl (by omega) (by omega) (by omega)
  rw [gpq_neg, Int.natAbs_neg, Int.natAbs_neg] at h
  obtain ⟨h1, h2⟩ := h
  refine ⟨?_, by omega⟩
  rw [← h1]
  omega
theorem gpq_0 (hpl : p * p = 2 * (q * q) + 1) (hq : 0 < q) (hp : 0 < p) (hb : y.natAbs < q) : gpq q p x y = 0 ↔ x = 0 ∧ y = 0 := by
  constructor
  · intro h
    rcases Int.lt_trichotomy x 0 with a | a | a
    · rcases Int.lt_trichotomy y 0 with b | b | b
      · have := (gpq_np (x := x) (y := y) hq hp (by omega) (by omega)).2.mpr (Or.inl a); omega
      · have := (gpq_np (x := x) (y := y) hq hp (by omega) (by omega)).2.mpr (Or.inl a); omega
      · exact absurd h (gpq_mp hpl a b hb).2
    · rcases Int.lt_trichotomy y 0 with b | b | b
      · have := (gpq_np (x := x) (y := y) hq hp (by omega) (by omega)).2.mpr (Or.inr b); omega
      · exact ⟨a, b⟩
      · have := (gpq_nn (x := x) (y := y) hq hp (by omega) (by omega)).mpr (Or.inr b); omega
    · rcases Int.lt_trichotomy y 0 with b | b | b
      · exact absurd h (gpq_pm hpl a b hb).2
      · have := (gpq_nn (x := x) (y := y) hq hp (by omega) (by omega)).mpr (Or.inl a); omega
      · have := (gpq_nn (x := x) (y := y) hq hp (by omega) (by omega)).mpr (Or.inl a); omega
  · rintro ⟨rfl, rfl⟩
    unfold gpq
    rw [Int.mul_zero, Int.mul_zero]
    rfl
theorem gpell : 5964153172084899 * 5964153172084899 = 2 * (4217293152016490 * 4217293152016490) + 1 := by decide
/-- a number whose sign is that of x + y times the root of two, for x and y that are small -/
def gph (x y : Int) : Int := gpq 4217293152016490 5964153172084899 x y
theorem gq_p : 0 < 4217293152016490 := by decide
theorem gp_p : 0 < 5964153172084899 := by decide
theorem gq_b {n : Nat} (h : n ≤ 1000000000000000) : n < 4217293152016490 := Nat.lt_of_le_of_lt h (by decide)
theorem gph_nn (hx : 0 ≤ x) (hy : 0 ≤ y) : 0 < gph x y ↔ 0 < x ∨ 0 < y := gpq_nn gq_p gp_p hx hy
theorem gph_np (hx : x ≤ 0) (hy : y ≤ 0) : gph x y ≤ 0 ∧ (gph x y < 0 ↔ x < 0 ∨ y < 0) := gpq_np gq_p gp_p hx hy
theorem gph_pm (hx : 0 < x) (hy : y < 0) (hb : y.natAbs ≤ 1000000000000000) : (0 < gph x y ↔ 2 * (y.natAbs * y.natAbs) < x.natAbs * x.natAbs) ∧ gph x y ≠ 0 := gpq_pm gpell hx hy (gq_b hb)
theorem gph_mp (hx : x < 0) (hy : 0 < y) (hb : y.natAbs ≤ 1000000000000000) : (0 < gph x y ↔ ¬ 2 * (y.natAbs * y.natAbs) < x.natAbs * x.natAbs) ∧ gph x y ≠ 0 := gpq_mp gpell hx hy (gq_b hb)
theorem gph_0 (hb : y.natAbs ≤ 1000000000000000) : gph x y = 0 ↔ x = 0 ∧ y = 0 := gpq_0 gpell gq_p gp_p (gq_b hb)
end SIGN
