section IRR
/-- the root of two is no fraction -/
theorem girr : ∀ n w r : Nat, r ≤ n → w * w = 2 * (r * r) → r = 0
  | 0, _, _, h, _ => by omega
  | n + 1, w, r, h, e => by
    refine Classical.byContradiction (fun z => ?_)
    have r0 : 0 < r := by omega
    have rr : 0 < r * r := Nat.mul_pos r0 r0
    have h1 : r < w := gsq_lt (by omega)
    have h2 : w < 2 * r := gsq_lt (by rw [e, show 2 * r * (2 * r) = 4 * (r * r) by rw [Nat.mul_mul_mul_comm]]; omega)
    obtain ⟨a, rfl⟩ : ∃ a, w = r + a := ⟨w - r, by omega⟩
    obtain ⟨b, rfl⟩ : ∃ b, r = a + b := ⟨r - a, by omega⟩
    have e' : b * b = 2 * (a * a) := by
      clear h1 h2 rr r0 z h
      rw [Nat.add_mul, Nat.mul_add, Nat.mul_add, Nat.add_mul, Nat.add_mul, Nat.mul_add, Nat.mul_add, Nat.mul_comm b a] at e
      omega
    have := girr n b a (by omega) e'
    omega
end IRR
