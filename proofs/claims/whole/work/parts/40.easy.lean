section EASY
variable {I : gb_FI} {J : gb_FJ}
theorem x_refuse (v : Int32) : fnX10_refuse 0 v (gb_mk I J) = some (v, gb_mk (gb_u I 0 15 v) J) := by
  simp only [fnX10_refuse, gb_lt_d, gb_gd_t, gb_rd_s, gb_bd_s, gb_I_mk, gb_L_mk, gb_sI_mk, gb_sL_mk, gk0, gr0_0, gr0_1, gr0_2, gr0_3, gr0_4, gr0_5, gr0_6, gr0_7, gr0_8, gr0_9, gr0_10, gr0_11, gr0_12]
theorem x_allow (v : Int32) : fnX10_allow 0 v (gb_mk I J) = some (v, gb_mk (gb_u I 0 15 0) J) := by
  simp only [fnX10_allow, gb_lt_d, gb_gd_t, gb_rd_s, gb_bd_s, gb_I_mk, gb_L_mk, gb_sI_mk, gb_sL_mk, gk0, gr0_0, gr0_1, gr0_2, gr0_3, gr0_4, gr0_5, gr0_6, gr0_7, gr0_8, gr0_9, gr0_10, gr0_11, gr0_12]
theorem m_in (v lo hi : Int32) (h : gb_H) : fnX11_in v lo hi h = some (if v < lo then 0 else if hi < v then 0 else 1, h) := by
  simp only [fnX11_in, fbX11_in_14, fbX11_in_15, gb_b_0, gb_b_1, gb_lt_d, gb_gd_t, gb_rd_s, gb_bd_s, gb_I_mk, gb_L_mk, gb_sI_mk, gb_sL_mk]
  split
  · rfl
  · split <;> rfl
theorem m_inR (v : Int32) (n : Nat) (hn : n + 1 < 2 ^ 31) (h : gb_H) {L : Int32} (hL : L = nI n) : fnX11_in v 0 L h = some (if gb_rg v (n + 1) = true then 1 else 0, h) := by
  rw [m_in, gb_rgM v n hn hL]
theorem m_ends (v : Int32) : fnX11_ends 241 v (gb_mk I J) = some (v, gb_mk (gb_u I 241 0 (if 0 ≤ v then 0 else v)) J) := by
  simp only [fnX11_ends, fbX11_ends_10, gb_lt_d, gb_gd_t, gb_rd_s, gb_bd_s, gb_I_mk, gb_L_mk, gb_sI_mk, gb_sL_mk, gk241, gk242, gk243, gk244, gk245, gk246, gk247, gk248, gk249, gk250, gk251, gk252, gk253, gk254, gk255, gk256, gk257, gk258, gk259, gk260, gk261, gk262, gk263, gk264, gk265, gk266, gk267, gk268, gr241_2, gr241_3, gr241_4, gr241_5, gr241_7, gr241_8, gr241_11, gr241_12, gr241_13, gr241_20, gr241_21, gr241_22, gr241_26, gr241_27, gr241_28, gr241_29, gr241_31, gr241_32, gr241_33, gr241_38, gr241_39, gr241_40, gr241_41, gr241_42, gr241_43, gr241_44, gr241_45]
  split <;> rfl
/-- the odds of no bench are kept -/
def gb_fg (I : gb_FI) : gb_FI := gb_u (gb_u (gb_u (gb_u I 42 6 0) 65 6 0) 88 6 0) 111 6 0
def gb_fgi (I : gb_FI) : Nat → gb_FI
  | 0 => I
  | i + 1 => gb_u (gb_fgi I i) (42 + 23 * i) 6 0
theorem x_forget : fnX10_forgetChances 0 (gb_mk I J) = some ((), gb_mk (gb_fg I) J) := by
  simp only [fnX10_forgetChances, lpX10_forgetChances_2]
  refine gb_forF (fun i => (0, nI i, gb_mk (gb_fgi I i) J)) 4 (by decide) ?_ ?_
  · intro j hj k
    simp (disch := omega) only [fbX10_forgetChances_2, gb_lt_d, gb_gd_t, gb_rd_s, gb_bd_s, gb_I_mk, gb_L_mk, gb_sI_mk, gb_sL_mk, gk0, gr0_0, gr0_1, gr0_2, gr0_3, gr0_4, gr0_5, gr0_6, gr0_7, gr0_8, gr0_9, gr0_10, gr0_11, gr0_12, gk23, gr23_0, gr23_1, gr23_2, gr23_3, gb_lit, nI_leI, nI_clamp, gi23, gx_ch, gx_chk, nI_add, gb_fgi]
    rw [if_neg (by omega)]
  · intro k
    simp (disch := omega) only [fbX10_forgetChances_2, gb_lit, nI_leI]
    rw [if_pos (by omega)]
    rfl
end EASY
