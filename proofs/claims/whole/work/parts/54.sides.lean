section SIDES
variable {I I' : gb_FI} {J J' : gb_FJ}
/-- the sum of the four sides, with the signs of m -/
def gb_sg (W : Nat) (U : Nat → Int) (L : Nat → Nat) (m : Nat) : Nat → Int
  | 0 => 0
  | b + 1 => gb_sg W U L m b + (if m / 2 ^ b % 2 = 1 then -(U b * ((W / L b : Nat) : Int)) else U b * ((W / L b : Nat) : Int))
theorem gb_bt4 : ∀ m, m < 16 → ∀ b, b < 4 → (((nI m >>> (nI b &&& 31)) &&& (1 : Int32)) = 1 ↔ m / 2 ^ b % 2 = 1) := by decide
theorem x_signedSum {W m : Nat} {U : Nat → Int} {L : Nat → Nat} (hm : m < 16) (hW : W < 2 ^ 63) (hU : ∀ b, b < 4 → (I 131 b).toInt64 = iL (U b)) (hL : ∀ b, b < 4 → I 132 b = nI (L b) ∧ 0 < L b ∧ L b < 2 ^ 31) :
    fnX3_signedSum 126 (nI m) (lN W) (gb_mk I J) = some (iL (gb_sg W U L m 4), gb_mk I J) := by
  simp only [fnX3_signedSum, lpX3_signedSum_6]
  refine gb_forF (fun i => (126, nI m, lN W, iL (gb_sg W U L m i), nI i, gb_mk I J)) 4 (by decide) ?_ ?_
  · intro j hj k
    obtain ⟨l1, l2, l3⟩ := hL j hj
    have e1 := nI_L l3
    have e2 : ¬ lN (L j) ≤ 0 := fun q => by have := (gL_le0 (by omega)).mp q; omega
    have e3 : ¬ lN (L j) = 0 := fun q => by have := (gL_eq0 (by omega)).mp q; omega
    have e4 : iL (U j) * (lN W / lN (L j)) = iL (U j * ((W / L j : Nat) : Int)) := by rw [gL_div hW (by omega), lN_iL, iL_mul]
    simp only [fbX3_signedSum_6]
    rw [if_neg (show ¬ (4 : Int32) ≤ nI j from nI_ge (show j < 4 from hj) (by decide))]
    simp (disch := omega) only [gb_lt_d, gb_gd_t, gb_rd_s, gb_bd_s, gb_I_mk, gb_L_mk, gb_sI_mk, gb_sL_mk, gk126, gr126_0, gr126_1, gr126_2, gr126_4, gr126_6, gr126_7, gk131, gk132, gi131, gi132, nI_clamp, l1, e1]
    rw [if_neg e2]
    simp (disch := omega) only [gb_lt_d, gb_gd_t, gb_rd_s, gb_bd_s, gb_I_mk, gb_L_mk, gb_sI_mk, gb_sL_mk, gk126, gr126_0, gr126_1, gr126_2, gr126_4, gr126_6, gr126_7, gk131, gk132, gi131, gi132, nI_clamp, hU j hj, gb_nzL_of e3, e4, iL_neg]
    show _ = k (126, nI m, lN W, iL (gb_sg W U L m j + (if m / 2 ^ j % 2 = 1 then -(U j * ((W / L j : Nat) : Int)) else U j * ((W / L j : Nat) : Int))), nI (j + 1), gb_mk I J)
    by_cases c : m / 2 ^ j % 2 = 1
    · rw [if_pos ((gb_bt4 m hm j hj).mpr c), if_pos c]
      simp (disch := omega) only [fbX3_signedSum_64, fbX3_signedSum_67, gb_lt_d, gb_gd_t, gb_rd_s, gb_bd_s, gb_I_mk, gb_L_mk, gb_sI_mk, gb_sL_mk, iL_add, gb_lit 1, nI_add]
    · rw [if_neg (fun q => c ((gb_bt4 m hm j hj).mp q)), if_neg c]
      simp (disch := omega) only [fbX3_signedSum_64, fbX3_signedSum_67, gb_lt_d, gb_gd_t, gb_rd_s, gb_bd_s, gb_I_mk, gb_L_mk, gb_sI_mk, gb_sL_mk, iL_add, gb_lit 1, nI_add]
  · intro k
    simp only [fbX3_signedSum_6]
    rw [if_pos (show (4 : Int32) ≤ nI 4 by decide)]
end SIDES
