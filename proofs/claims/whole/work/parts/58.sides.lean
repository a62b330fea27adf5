section SIDES4
variable {I I' : gb_FI} {J J' : gb_FJ}
def gb_bc4 (m : Nat) : Nat := m % 2 + m / 2 % 2 + m / 4 % 2 + m / 8 % 2
theorem x_bits : ∀ m, m < 16 → ∀ h, fnJ6_bitCount_0f7a4 (nI m) h = some (nI (gb_bc4 m), h) := by
  intro m hm h
  match m, hm with
  | 0, _ => rfl
  | 1, _ => rfl
  | 2, _ => rfl
  | 3, _ => rfl
  | 4, _ => rfl
  | 5, _ => rfl
  | 6, _ => rfl
  | 7, _ => rfl
  | 8, _ => rfl
  | 9, _ => rfl
  | 10, _ => rfl
  | 11, _ => rfl
  | 12, _ => rfl
  | 13, _ => rfl
  | 14, _ => rfl
  | 15, _ => rfl
  | i + 16, hi => exact absurd hi (by omega)
theorem gb_bc4b : ∀ m, m < 16 → ((nI (gb_bc4 m) &&& (1 : Int32)) = 1 ↔ gb_bc4 m % 2 = 1) := by decide
/-- the greatest of the odd ones below i, from z -/
def gb_mx (f : Nat → Int) (z : Int) : Nat → Int
  | 0 => z
  | i + 1 => if gb_bc4 i % 2 = 1 then max (f i) (gb_mx f z i) else gb_mx f z i
theorem gb_mx_le {f : Nat → Int} {z : Int} {B : Nat} (hf : ∀ m, (f m).natAbs ≤ B) (hz : z.natAbs ≤ B) : ∀ i, (gb_mx f z i).natAbs ≤ B
  | 0 => hz
  | i + 1 => by
    have ih := gb_mx_le hf hz i
    have a := hf i
    show (if gb_bc4 i % 2 = 1 then max (f i) (gb_mx f z i) else gb_mx f z i).natAbs ≤ B
    split
    · omega
    · exact ih
end SIDES4
