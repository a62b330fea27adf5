section SIDES6
variable {I I' : gb_FI} {J J' : gb_FJ}
theorem gb_Lo_le {rs : List gb_Ru} {d b : Nat} (hl : rs.length ≤ 200) : gb_Lo rs d b ≤ 800 := by
  have q0 := gb_pq_le (rs := rs) (b := b) (d := d) (k := 0)
  have q1 := gb_pq_le (rs := rs) (b := b) (d := d) (k := 1)
  unfold gb_Lo; omega
theorem gb_Up_le {rs : List gb_Ru} {d b : Nat} (hl : rs.length ≤ 200) : (gb_Up rs d b).natAbs ≤ 400 := by
  have q0 := gb_pq_le (rs := rs) (b := b) (d := d) (k := 0)
  have q1 := gb_pq_le (rs := rs) (b := b) (d := d) (k := 1)
  unfold gb_Up; omega
theorem gb_Wp_le {rs : List gb_Ru} {d : Nat} (hl : rs.length ≤ 200) : ∀ i, gb_Wp rs d i ≤ 800 ^ i
  | 0 => Nat.le_refl _
  | i + 1 => by
    rw [Nat.pow_succ]
    exact Nat.mul_le_mul (gb_Wp_le hl i) (gb_Lo_le hl)
theorem gb_Wp_pos {rs : List gb_Ru} {d : Nat} : ∀ i, (∀ b, b < i → 0 < gb_Lo rs d b) → 0 < gb_Wp rs d i
  | 0, _ => Nat.one_pos
  | i + 1, h => Nat.mul_pos (gb_Wp_pos i (fun b hb => h b (by omega))) (h i (by omega))
theorem gb_sg_le {W : Nat} {U : Nat → Int} {L : Nat → Nat} {m : Nat} (hU : ∀ b, (U b).natAbs ≤ 400) : ∀ i, (gb_sg W U L m i).natAbs ≤ i * (400 * W)
  | 0 => Nat.zero_le _
  | i + 1 => by
    have ih := gb_sg_le (W := W) (L := L) (m := m) hU i
    have t : (U i * ((W / L i : Nat) : Int)).natAbs ≤ 400 * W := by
      rw [Int.natAbs_mul, Int.natAbs_natCast]
      exact Nat.mul_le_mul (hU i) (Nat.div_le_self _ _)
    show (gb_sg W U L m i + (if m / 2 ^ i % 2 = 1 then -(U i * ((W / L i : Nat) : Int)) else U i * ((W / L i : Nat) : Int))).natAbs ≤ (i + 1) * (400 * W)
    rw [Nat.add_mul, Nat.one_mul]
    generalize U i * ((W / L i : Nat) : Int) = x at t
    generalize 400 * W = y at *
    generalize i * y = zz at *
    split <;> omega
def gb_sh3 (J : gb_FJ) (u : Int) (w : Nat) : gb_FJ := gb_u (gb_u (gb_u J 238 0 (iL (u.tdiv (gb_g3 u 0 w)))) 238 1 (iL ((0 : Int).tdiv (gb_g3 u 0 w)))) 238 2 (lN (w / gb_g3 u 0 w))
def gb_bs (rs : List gb_Ru) (d : Nat) : Int := gb_mx (fun m => gb_sg (gb_Wp rs d 4) (gb_Up rs d) (gb_Lo rs d) m 4) (-4 * (gb_Wp rs d 4 : Int)) 16
end SIDES6
