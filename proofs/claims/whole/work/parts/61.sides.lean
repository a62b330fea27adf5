section SIDES7
variable {I I' : gb_FI} {J J' : gb_FJ}
theorem gb_m4W (W : Nat) : (-4 : Int64) * lN W = iL (-4 * (W : Int)) := by
  rw [lN_iL, ← iL_mul]
  rfl
/-- the second loop from its first hour -/
theorem x_sides3 {W : Nat} {U : Nat → Int} {L : Nat → Nat} (hW : W ≤ 409600000000) (hW0 : 0 < W) (hU : ∀ b, b < 4 → (I 131 b).toInt64 = iL (U b)) (hU2 : ∀ b, (U b).natAbs ≤ 400) (hL : ∀ b, b < 4 → I 132 b = nI (L b) ∧ 0 < L b ∧ L b < 2 ^ 31) (hk : ∀ I J, gb_k (gb_mk I J) 238 8 = true) :
    lpX3_sumSides_89 gb_FU 126 238 (lN W) ((-4 : Int64) * lN W) 0 (gb_mk I J) = some (1, gb_mk I (gb_sh3 J (gb_mx (fun m => gb_sg W U L m 4) (-4 * (W : Int)) 16) W)) := by
  have hB : ∀ m, (gb_sg W U L m 4).natAbs ≤ 655360000000000 := fun m => by
    have := gb_sg_le (W := W) (L := L) (m := m) hU2 4
    omega
  rw [gb_m4W]
  unfold gb_sh3
  exact x_sides2 (B := 655360000000000) (by omega) hW0 hU hL (by omega) hB (by omega) hk
/-- the first bench without pairs ends it -/
theorem x_sumSides0 {rs : List gb_Ru} (h : xR (I 126 3) (I 127) (I 128) (I 129) rs) {d n s : Nat} (hd : d < 1000) (hn : n < 4) (hp : ∀ b, b < n → 0 < gb_Lo rs d b) (h0 : ¬ 0 < gb_Lo rs d n) :
    fnX3_sumSides 126 (nI d) s (gb_mk I J) = some (0, gb_mk (gb_sd I rs d (n + 1)) J) := by
  simp only [fnX3_sumSides, lpX3_sumSides_5]
  refine gb_forF (fun i => (126, nI d, s, lN (gb_Wp rs d i), nI i, gb_mk (gb_sd I rs d i) J)) n (by omega) ?_ ?_
  · intro j hj k
    refine (x_sides1 (gb_sd_R h) (by omega) hd _).trans ?_
    rw [if_pos (hp j hj), gb_Wp, gb_sd]
  · intro k
    refine (x_sides1 (gb_sd_R h) hn hd _).trans ?_
    rw [if_neg h0, gb_sd]
end SIDES7
