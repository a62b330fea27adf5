section ODDS
variable {I I' I1 I2 : gb_FI} {J J' J1 J2 : gb_FJ} {k : Nat}
/-- the product of k! over the seats with k grains -/
def gb_od (k : Nat) : Nat := if k % 32 = 0 ∨ k % 32 ≠ k / 32 % 32 then (if k / 32 % 32 ≠ 0 ∧ k / 32 % 32 = k / 1024 then 2 else 1) else (if k / 32 % 32 ≠ 0 ∧ k / 32 % 32 = k / 1024 then 6 else 2)
theorem x_orders (hk : gb_sk k) (h : gb_H) : fnX0_orders (nI k) h = some (nI (gb_od k), h) := by
  obtain ⟨b1, b2, b3, b4, b5⟩ := gb_sk_b hk
  have z1 : nI (k % 32) = 0 ↔ k % 32 = 0 := nI_eq (b := 0) (by omega) (by omega)
  have z2 : nI (k / 32 % 32) = 0 ↔ k / 32 % 32 = 0 := nI_eq (b := 0) (by omega) (by omega)
  have e1 : nI (k / 32 % 32) = nI (k / 1024) ↔ k / 32 % 32 = k / 1024 := nI_eq (by omega) (by omega)
  have e2 : nI (k % 32) = nI (k / 32 % 32) ↔ k % 32 = k / 32 % 32 := nI_eq (by omega) (by omega)
  unfold fnX0_orders fbX0_orders_26 fbX0_orders_27 fbX0_orders_37 fbX0_orders_50 gb_od
  rw [x_low hk, gb_bd_s, x_mid hk, gb_bd_s, x_high hk, gb_bd_s]
  by_cases a : k / 32 % 32 = 0
  · rw [if_pos (z2.mpr a)]
    have l0 : k % 32 = 0 := by unfold gb_sk at hk; omega
    rw [if_pos (z1.mpr l0), if_pos (Or.inl l0), if_neg (fun z => z.1 a)]
    rfl
  · rw [if_neg (fun z => a (z2.mp z))]
    by_cases c : k / 32 % 32 = k / 1024
    · rw [if_pos (e1.mpr c)]
      by_cases d : k % 32 = 0
      · rw [if_pos (z1.mpr d), if_pos (Or.inl d), if_pos ⟨a, c⟩]
        rfl
      · rw [if_neg (fun z => d (z1.mp z))]
        by_cases e : k % 32 = k / 32 % 32
        · rw [if_pos (e2.mpr e), if_pos (show (2 : Int32) = 2 from rfl), if_neg (fun z => by rcases z with y | y; exact d y; exact y e), if_pos ⟨a, c⟩]
          rfl
        · rw [if_neg (fun z => e (e2.mp z)), if_pos (Or.inr e), if_pos ⟨a, c⟩]
          rfl
    · rw [if_neg (fun z => c (e1.mp z))]
      by_cases d : k % 32 = 0
      · rw [if_pos (z1.mpr d), if_pos (Or.inl d), if_neg (fun z => c z.2)]
        rfl
      · rw [if_neg (fun z => d (z1.mp z))]
        by_cases e : k % 32 = k / 32 % 32
        · rw [if_pos (e2.mpr e), if_neg (show ¬ (1 : Int32) = 2 by decide), if_neg (fun z => by rcases z with y | y; exact d y; exact y e), if_neg (fun z => c z.2)]
          rfl
        · rw [if_neg (fun z => e (e2.mp z)), if_pos (Or.inr e), if_neg (fun z => c z.2)]
          rfl
end ODDS
