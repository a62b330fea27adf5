section SIDES5
variable {I I' : gb_FI} {J J' : gb_FJ}
theorem x_sides2 {W B : Nat} {U : Nat → Int} {L : Nat → Nat} {z : Int} (hW : W < 2 ^ 63) (hW0 : 0 < W) (hU : ∀ b, b < 4 → (I 131 b).toInt64 = iL (U b)) (hL : ∀ b, b < 4 → I 132 b = nI (L b) ∧ 0 < L b ∧ L b < 2 ^ 31)
    (hB : B < 2 ^ 63) (hf : ∀ m, (gb_sg W U L m 4).natAbs ≤ B) (hz : z.natAbs ≤ B) (hk : ∀ I J, gb_k (gb_mk I J) 238 8 = true) :
    lpX3_sumSides_89 gb_FU 126 238 (lN W) (iL z) 0 (gb_mk I J) = some (1, gb_mk I (gb_u (gb_u (gb_u J 238 0 (iL ((gb_mx (fun m => gb_sg W U L m 4) z 16).tdiv (gb_g3 (gb_mx (fun m => gb_sg W U L m 4) z 16) 0 W)))) 238 1 (iL ((0 : Int).tdiv (gb_g3 (gb_mx (fun m => gb_sg W U L m 4) z 16) 0 W)))) 238 2 (lN (W / gb_g3 (gb_mx (fun m => gb_sg W U L m 4) z 16) 0 W)))) := by
  simp only [lpX3_sumSides_89]
  refine gb_forF (fun i => (126, 238, lN W, iL (gb_mx (fun m => gb_sg W U L m 4) z i), nI i, gb_mk I J)) 16 (by decide) ?_ ?_
  · intro j hj k
    have b1 := gb_mx_le (f := fun m => gb_sg W U L m 4) hf hz j
    have b2 := hf j
    simp only [fbX3_sumSides_89]
    rw [if_neg (show ¬ (16 : Int32) ≤ nI j from nI_ge (show j < 16 from hj) (by decide))]
    simp only [x_bits j hj, gb_lt_d, gb_gd_t, gb_rd_s, gb_bd_s, gb_I_mk, gb_L_mk, gb_sI_mk, gb_sL_mk]
    show _ = k (126, 238, lN W, iL (if gb_bc4 j % 2 = 1 then max (gb_sg W U L j 4) (gb_mx (fun m => gb_sg W U L m 4) z j) else gb_mx (fun m => gb_sg W U L m 4) z j), nI (j + 1), gb_mk I J)
    by_cases c : gb_bc4 j % 2 = 1
    · rw [if_pos ((gb_bc4b j hj).mpr c), if_pos c]
      simp (disch := omega) only [gb_lt_d, gb_gd_t, gb_rd_s, gb_bd_s, gb_I_mk, gb_L_mk, gb_sI_mk, gb_sL_mk, gk126, gr126_0, gr126_1, gr126_2, gr126_4, gr126_6, gr126_7, x_signedSum hj hW hU hL, iL_max, fbX3_sumSides_121, gb_lit 1, nI_add]
    · rw [if_neg (fun q => c ((gb_bc4b j hj).mp q)), if_neg c]
      simp (disch := omega) only [gb_lt_d, gb_gd_t, gb_rd_s, gb_bd_s, gb_I_mk, gb_L_mk, gb_sI_mk, gb_sL_mk, fbX3_sumSides_121, gb_lit 1, nI_add]
  · intro k
    have b1 := gb_mx_le (f := fun m => gb_sg W U L m 4) hf hz 16
    simp only [fbX3_sumSides_89]
    rw [if_pos (show (16 : Int32) ≤ nI 16 by decide)]
    have p := x_put (I := I) (J := J) hk (u := gb_mx (fun m => gb_sg W U L m 4) z 16) (v := 0) (by omega) (by decide) hW hW0
    rw [show iL 0 = 0 from rfl] at p
    simp only [gb_lt_d, gb_gd_t, gb_rd_s, gb_bd_s, gb_I_mk, gb_L_mk, gb_sI_mk, gb_sL_mk, hk, p]
end SIDES5
