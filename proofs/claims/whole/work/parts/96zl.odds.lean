section ODDS3
variable {k : Nat}
/-- the row of counts of a product -/
def gb_rw (k : Nat) : Nat := gb_kp (gb_ky (gb_pa (k % 32)) (gb_pa (k / 32 % 32)) (gb_pa (k / 1024)))
theorem x_rowOfKey (hk : gb_sk k) (h : gb_H) : fnX0_rowOfKey (nI k) h = some (nI (gb_rw k), h) := by
  obtain ⟨b1, b2, b3, b4, b5⟩ := gb_sk_b hk
  have p1 := gb_pa_b (k % 32)
  have p2 := gb_pa_b (k / 32 % 32)
  have p3 := gb_pa_b (k / 1024)
  have sk := (gb_ky_s (x := gb_pa (k % 32)) (y := gb_pa (k / 32 % 32)) (z := gb_pa (k / 1024)) (by omega) (by omega) (by omega)).1
  unfold fnX0_rowOfKey gb_rw
  rw [x_low hk, gb_bd_s, x_pathOf b1, gb_bd_s, x_mid hk, gb_bd_s, x_pathOf b2, gb_bd_s, x_high hk, gb_bd_s, x_pathOf b3, gb_bd_s, x_keyOf (by omega) (by omega) (by omega), gb_bd_s, x_place sk, gb_bd_s]
end ODDS3
