section START
noncomputable def gI1 : gb_FI := gb_I gb_H1
noncomputable def gJ1 : gb_FJ := gb_L gb_H1
theorem gb_H1_mk : gb_H1 = gb_mk gI1 gJ1 := rfl
def gS1 : gb_S := ([], 0, [], -1, fun _ => [], [], fun _ => 0, [], none)
theorem g1_a : gI1 0 13 = 0 ∧ gI1 0 15 = 0 ∧ gI1 0 14 = -1 ∧ gI1 1 1 = 0 ∧ gI1 116 1 = 0 ∧ gI1 126 3 = 0 ∧ gI1 139 7 = -1 ∧ gI1 241 1 = 0 ∧ gI1 241 0 = 0 ∧ gI1 241 14 = 0 ∧ gI1 241 18 = -1 ∧ gI1 241 6 = 0 ∧ gI1 241 37 = 0 ∧ gI1 241 46 = -1 := by unfold gI1; rw [gb_H1_eq]; decide +kernel
theorem g1_b : ∀ b, b < 4 → gI1 (24 + 23 * b) 1 = 0 ∧ gI1 (42 + 23 * b) 6 = 0 ∧ gI1 244 b = 0 := by unfold gI1; rw [gb_H1_eq]; decide +kernel
theorem g1_c : ∀ i, i < 5 → gI1 240 i = 0 ∧ gI1 260 i = 0 := by unfold gI1; rw [gb_H1_eq]; decide +kernel
theorem g1_d : ∀ i, i < 3 → gI1 239 i = 0 := by unfold gI1; rw [gb_H1_eq]; decide +kernel
end START
