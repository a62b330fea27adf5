section NOTES3
variable {cOK : gb_CP} {S : gb_S} {I I' : gb_FI} {J J' : gb_FJ}
/-- what notes answers -/
def gb_an (u : Int) (W : Nat) (k : Nat) : Int64 := if k = 0 then iL (u.tdiv (gb_g3 u 0 W)) else if k = 1 then lN (W / gb_g3 u 0 W) else if u ≤ 2 * (W : Int) then 0 else 1
theorem gb_g30 {u : Int} {W : Nat} : gb_g3 u 0 W = Int.gcd u W := by
  unfold gb_g3 Int.gcd
  rw [Int.natAbs_zero, Nat.gcd_zero_right, Int.natAbs_natCast]
theorem m_notesEnd {u : Int} {W k : Nat} {v0 : Nat} {v1 v7 : Int32} (hu : u.natAbs ≤ 655360000000000) (hW : W ≤ 409600000000) (hW0 : 0 < W) (hk : k < 3) {k81 : Nat → Int32 → Int32 → Int64 → Int64 → Int32 → Int32 → gb_H → Option (Int64 × gb_H)} (h : gb_H) :
    fbX11_notes_81 k81 v0 v1 (nI k) (lN W) (iL u) v7 (nI 16) h = some (gb_an u W k, h) := by
  have g0 : 0 < gb_g3 u 0 W := gb_g3_pos hW0
  have g1 : gb_g3 u 0 W ≤ W := gb_g3_le hW0
  have gc : fnX11_divisor (iL u) (lN W) h = some (lN (gb_g3 u 0 W), h) := by
    rw [lN_iL, m_gcd (by omega) (by rw [Int.natAbs_natCast]; omega), gb_g30]
  have nz : ¬ lN (gb_g3 u 0 W) = 0 := fun q => by have := (gL_eq0 (by omega)).mp q; omega
  have d1 : iL u / lN (gb_g3 u 0 W) = iL (u.tdiv (gb_g3 u 0 W)) := by
    rw [lN_iL, iL_div (by omega) (by rw [Int.natAbs_natCast]; omega)]
  have d2 : lN W / lN (gb_g3 u 0 W) = lN (W / gb_g3 u 0 W) := gL_div (by omega) (by omega)
  have d3 : iL u ≤ (2 : Int64) * lN W ↔ u ≤ 2 * (W : Int) := by
    rw [lN_iL, show (2 : Int64) = iL 2 from rfl, iL_mul, iL_le (by omega) (by omega)]
  simp only [fbX11_notes_81, fbX11_notes_279]
  rw [if_pos (show (16 : Int32) ≤ nI 16 by decide)]
  simp only [gb_lt_d, gb_gd_t, gb_rd_s, gb_bd_s, gb_I_mk, gb_L_mk, gb_sI_mk, gb_sL_mk, gc, gb_nzL_of nz, d1, d2]
  unfold gb_an
  match k, hk with
  | 0, _ => rw [if_pos (show nI 0 = 0 from rfl), if_pos rfl]
  | 1, _ => rw [if_neg (show ¬ nI 1 = 0 by decide), if_pos (show nI 1 = 1 from rfl), if_neg (by decide), if_pos rfl]
  | 2, _ =>
    rw [if_neg (show ¬ nI 2 = 0 by decide), if_neg (show ¬ nI 2 = 1 by decide), if_neg (show ¬ (2 : Nat) = 0 by decide), if_neg (show ¬ (2 : Nat) = 1 by decide)]
    by_cases c : u ≤ 2 * (W : Int)
    · rw [if_pos (d3.mpr c), if_pos c]
    · rw [if_neg (fun q => c (d3.mp q)), if_neg c]
theorem gb_sg_z {rs : List gb_Ru} {d : Nat} (hL : ∀ b, b < 4 → 0 < gb_Lo rs d b) {W m : Nat} : ∀ i, i ≤ 4 → -(i * (W : Int)) ≤ gb_sg W (gb_Up rs d) (gb_Lo rs d) m i
  | 0, _ => by show -(((0 : Nat) : Int) * (W : Int)) ≤ 0; omega
  | i + 1, hi => by
    have ih := gb_sg_z hL (W := W) (m := m) i (by omega)
    have t : (gb_Up rs d i * ((W / gb_Lo rs d i : Nat) : Int)).natAbs ≤ W := by
      rw [Int.natAbs_mul, Int.natAbs_natCast]
      refine Nat.le_trans (Nat.mul_le_mul_right _ (show (gb_Up rs d i).natAbs ≤ gb_Lo rs d i by unfold gb_Up gb_Lo; omega)) (Nat.mul_div_le _ _)
    show -(((i + 1 : Nat) : Int) * (W : Int)) ≤ gb_sg W (gb_Up rs d) (gb_Lo rs d) m i + (if m / 2 ^ i % 2 = 1 then -(gb_Up rs d i * ((W / gb_Lo rs d i : Nat) : Int)) else gb_Up rs d i * ((W / gb_Lo rs d i : Nat) : Int))
    rw [Int.natCast_add, Int.add_mul]
    generalize gb_Up rs d i * ((W / gb_Lo rs d i : Nat) : Int) = x at t
    generalize (i : Int) * (W : Int) = y at *
    split <;> omega
theorem gb_Wp0 {rs : List gb_Ru} {d : Nat} : ∀ i, gb_Wp rs d i ≠ 0 ∨ ∃ n, n < i ∧ (∀ b, b < n → 0 < gb_Lo rs d b) ∧ ¬ 0 < gb_Lo rs d n
  | 0 => Or.inl (by show (1 : Nat) ≠ 0; decide)
  | i + 1 => by
    by_cases q : ∃ n, n < i ∧ (∀ b, b < n → 0 < gb_Lo rs d b) ∧ ¬ 0 < gb_Lo rs d n
    · obtain ⟨n, hn, r⟩ := q
      exact Or.inr ⟨n, by omega, r⟩
    · have p : ∀ j, j ≤ i → ∀ b, b < j → 0 < gb_Lo rs d b := by
        intro j
        induction j with
        | zero => intro _ b hb; omega
        | succ j ih =>
          intro hj b hb
          by_cases e : b = j
          · subst e
            exact Classical.byContradiction (fun c => q ⟨b, by omega, ih (by omega), c⟩)
          · exact ih (by omega) b (by omega)
      by_cases e : 0 < gb_Lo rs d i
      · refine Or.inl ?_
        have := gb_Wp_pos (rs := rs) (d := d) (i + 1) (fun b hb => by
          by_cases e2 : b = i
          · subst e2; exact e
          · exact p i (Nat.le_refl _) b (by omega))
        omega
      · exact Or.inr ⟨i, by omega, p i (Nat.le_refl _), e⟩
theorem gb_Wp_z {rs : List gb_Ru} {d n : Nat} (h : ¬ 0 < gb_Lo rs d n) : ∀ i, n < i → gb_Wp rs d i = 0
  | 0, hn => absurd hn (by omega)
  | i + 1, hn => by
    show gb_Wp rs d i * gb_Lo rs d i = 0
    by_cases e : n = i
    · subst e
      rw [show gb_Lo rs d n = 0 by omega, Nat.mul_zero]
    · rw [gb_Wp_z h i (by omega), Nat.zero_mul]
end NOTES3
