section SIGNA
theorem gsq_lt {a b : Nat} (h : a * a < b * b) : a < b := Nat.lt_of_not_le (fun q => by have := Nat.mul_le_mul q q; omega)
theorem gq1 (q p a b : Nat) (hp : p * p = 2 * (q * q) + 1) (hb : b < q) : 2 * (b * b) < a * a ↔ p * b < q * a := by
  have e1 : q * a * (q * a) = q * q * (a * a) := by rw [Nat.mul_mul_mul_comm]
  have e2 : p * b * (p * b) = p * p * (b * b) := by rw [Nat.mul_mul_mul_comm]
  have b2 : b * b < q * q := Nat.mul_self_lt_mul_self hb
  constructor
  · intro h
    refine gsq_lt ?_
    rw [e1, e2, hp, Nat.add_mul, Nat.one_mul]
    have h1 : q * q * (2 * (b * b) + 1) ≤ q * q * (a * a) := Nat.mul_le_mul_left _ h
    have h2 : q * q * (2 * (b * b) + 1) = 2 * (q * q) * (b * b) + q * q := by
      rw [Nat.mul_add, Nat.mul_one, ← Nat.mul_assoc, Nat.mul_comm (q * q) 2]
    omega
  · intro h
    refine Nat.lt_of_not_le (fun k => ?_)
    have h2 : p * b * (p * b) < q * a * (q * a) := Nat.mul_self_lt_mul_self h
    rw [e1, e2, hp, Nat.add_mul, Nat.one_mul] at h2
    have h1 : q * q * (a * a) ≤ q * q * (2 * (b * b)) := Nat.mul_le_mul_left _ k
    have h3 : q * q * (2 * (b * b)) = 2 * (q * q) * (b * b) := by rw [← Nat.mul_assoc, Nat.mul_comm (q * q) 2]
    omega
theorem gq2 (q p a b : Nat) (hp : p * p = 2 * (q * q) + 1) (hb : b < q) (h0 : 0 < b) : p * b ≠ q * a := fun h => by
  have e1 : q * a * (q * a) = q * q * (a * a) := by rw [Nat.mul_mul_mul_comm]
  have e2 : p * b * (p * b) = p * p * (b * b) := by rw [Nat.mul_mul_mul_comm]
  have b2 : b * b < q * q := Nat.mul_self_lt_mul_self hb
  have b0 : 0 < b * b := Nat.mul_pos h0 h0
  rw [h, e1, hp, Nat.add_mul, Nat.one_mul] at e2
  have d : q * q ∣ b * b := by
    have d1 : q * q ∣ 2 * (q * q) * (b * b) + b * b := ⟨a * a, e2.symm⟩
    have d2 : q * q ∣ 2 * (q * q) * (b * b) := ⟨2 * (b * b), by rw [Nat.mul_comm 2 (q * q), Nat.mul_assoc]⟩
    exact (Nat.dvd_add_right d2).mp d1
  have := Nat.le_of_dvd b0 d
  omega
end SIGNA
