section OPS5
variable {cOK : gb_CP} {S : gb_S} {I I' : gb_FI} {J J' : gb_FJ}
theorem RM.rn (h : RM S I J) {rs : List (Nat × Nat × Nat)} (hR : xR (I' 241 37) (I' 261) (I' 262) (I' 263) rs) (k : ∀ n, n ≠ 241 → n < 261 ∨ 263 < n → I' n = I n) (k1 : ∀ j, j ≠ 37 → I' 241 j = I 241 j) : RM (sR S rs) I' J := by
  obtain ⟨h1, h2, h3, h4, h5, h6, h7, h8, h9⟩ := h
  refine ⟨?_, ?_, ?_, ?_, ?_, ?_, ?_, hR, ?_⟩
  · rw [k1 1 (by decide), k 242 (by decide) (by decide)]; exact h1
  · rw [k1 0 (by decide)]; exact h2
  · rw [k1 14 (by decide), k 248 (by decide) (by decide)]; exact h3
  · rw [k1 18 (by decide)]; exact h4
  · rw [k 244 (by decide) (by decide), k 243 (by decide) (by decide)]; exact h5
  · rw [k1 6 (by decide), k 245 (by decide) (by decide)]; exact h6
  · rw [k 260 (by decide) (by decide)]; exact h7
  · rw [k1 46 (by decide), k 268 (by decide) (by decide), k 267 (by decide) (by decide)]; exact h9
theorem M_run (h : RM S I J) (b t d : Int32) : mok (fnX11_run 241 b t d) I J (a_run b t d S) := by
  have bad : fbX11_run_21 241 (gb_mk I J) = some (-1, gb_mk (gb_u I 241 0 (-1)) J) := by
    simp only [fbX11_run_21, m_ends, gb_lt_d, gb_gd_t, gb_rd_s, gb_bd_s, gb_I_mk, gb_L_mk, gb_sI_mk, gb_sL_mk, gk241, gk242, gk243, gk244, gk245, gk246, gk247, gk248, gk249, gk250, gk251, gk252, gk253, gk254, gk255, gk256, gk257, gk258, gk259, gk260, gk261, gk262, gk263, gk264, gk265, gk266, gk267, gk268, gr241_2, gr241_3, gr241_4, gr241_5, gr241_7, gr241_8, gr241_11, gr241_12, gr241_13, gr241_20, gr241_21, gr241_22, gr241_26, gr241_27, gr241_28, gr241_29, gr241_31, gr241_32, gr241_33, gr241_38, gr241_39, gr241_40, gr241_41, gr241_42, gr241_43, gr241_44, gr241_45]
    rfl
  have l := h.2.2.2.2.2.2.2.1.2.1
  unfold a_run mok
  simp only [fnX11_run, m_inR _ 31 (by decide) _ (show (31 : Int32) = nI 31 from rfl), m_inR _ 999 (by decide) _ (show (999 : Int32) = nI 999 from rfl), m_inR _ 3 (by decide) _ (show (3 : Int32) = nI 3 from rfl), gb_lt_d, gb_gd_t, gb_rd_s, gb_bd_s, gb_I_mk, gb_L_mk, gb_sI_mk, gb_sL_mk]
  by_cases h1 : gb_rg t 32 = true
  · rw [if_pos (show gb_rg t (31 + 1) = true from h1), if_neg gb_n10]
    by_cases h2 : gb_rg d 1000 = true
    · rw [if_pos (show gb_rg d (999 + 1) = true from h2), if_neg gb_n10, if_pos (show gb_rg t 32 = true ∧ gb_rg d 1000 = true from ⟨h1, h2⟩)]
      by_cases h3 : gb_rg b 4 = true
      · rw [if_pos (show gb_rg b (3 + 1) = true from h3), if_pos h3, if_neg gb_n10]
        obtain ⟨b', hb, _, rfl⟩ := gb_rgT h3
        obtain ⟨t', ht, _, rfl⟩ := gb_rgT h1
        obtain ⟨d', hd, _, rfl⟩ := gb_rgT h2
        rw [nI_clamp (by omega), nI_clamp (by omega), nI_clamp (by omega)]
        generalize hn : S.2.2.2.2.2.2.2.1.length = n at l
        have hn2 : n ≤ 200 := by rw [← hn]; exact h.2.2.2.2.2.2.2.1.1
        simp only [gb_lt_d, gb_gd_t, gb_rd_s, gb_bd_s, gb_I_mk, gb_L_mk, gb_sI_mk, gb_sL_mk, gk241, gk242, gk243, gk244, gk245, gk246, gk247, gk248, gk249, gk250, gk251, gk252, gk253, gk254, gk255, gk256, gk257, gk258, gk259, gk260, gk261, gk262, gk263, gk264, gk265, gk266, gk267, gk268, gr241_2, gr241_3, gr241_4, gr241_5, gr241_7, gr241_8, gr241_11, gr241_12, gr241_13, gr241_20, gr241_21, gr241_22, gr241_26, gr241_27, gr241_28, gr241_29, gr241_31, gr241_32, gr241_33, gr241_38, gr241_39, gr241_40, gr241_41, gr241_42, gr241_43, gr241_44, gr241_45, l, gb_lit 200]
        by_cases h4 : n < 200
        · rw [if_neg (fun q => absurd ((nI_eq (by omega) (by decide)).mp q) (by omega)), if_pos h4]
          refine ⟨gb_u (gb_u (gb_u (gb_u (gb_u I 261 n (nI b')) 262 n (nI t')) 263 n (nI d')) 241 37 (nI (n + 1))) 241 0 0, J, ?_, ?_, ((((gb_fm.r.u (by decide)).u (by decide)).u (by decide)).u (by decide)).u (by decide)⟩
          · simp (disch := omega) only [gb_lt_d, gb_gd_t, gb_rd_s, gb_bd_s, gb_I_mk, gb_L_mk, gb_sI_mk, gb_sL_mk, gk241, gk242, gk243, gk244, gk245, gk246, gk247, gk248, gk249, gk250, gk251, gk252, gk253, gk254, gk255, gk256, gk257, gk258, gk259, gk260, gk261, gk262, gk263, gk264, gk265, gk266, gk267, gk268, gr241_2, gr241_3, gr241_4, gr241_5, gr241_7, gr241_8, gr241_11, gr241_12, gr241_13, gr241_20, gr241_21, gr241_22, gr241_26, gr241_27, gr241_28, gr241_29, gr241_31, gr241_32, gr241_33, gr241_38, gr241_39, gr241_40, gr241_41, gr241_42, gr241_43, gr241_44, gr241_45, l, nI_clamp, gi261, gi262, gi263, gb_u_ne, gb_lit 1, nI_add, m_ends, gb_u_s]
            rw [if_pos (nI_pos' (by omega))]
          · refine RM.st (S := sR S _) (h.rn (h.2.2.2.2.2.2.2.1.push (by omega) hb ht hd ?_ ?_ ?_ ?_ ?_) ?_ ?_) 0
            · rw [gb_u_s, hn]
            · intro i hi
              rw [hn] at hi
              rw [gb_u_row _ _ (show 261 ≠ 241 by decide), gb_u_row _ _ (show 261 ≠ 263 by decide), gb_u_row _ _ (show 261 ≠ 262 by decide), gb_u_nk _ _ hi, gb_u_row _ _ (show 262 ≠ 241 by decide), gb_u_row _ _ (show 262 ≠ 263 by decide), gb_u_nk _ _ hi, gb_u_row _ _ (show 262 ≠ 261 by decide), gb_u_row _ _ (show 263 ≠ 241 by decide), gb_u_nk _ _ hi, gb_u_row _ _ (show 263 ≠ 262 by decide), gb_u_row _ _ (show 263 ≠ 261 by decide)]
              exact ⟨rfl, rfl, rfl⟩
            · rw [hn, gb_u_ne _ _ (by decide), gb_u_ne _ _ (by decide), gb_u_ne _ _ (by decide), gb_u_s]
            · rw [hn, gb_u_ne _ _ (by decide), gb_u_ne _ _ (by decide), gb_u_s]
            · rw [hn, gb_u_ne _ _ (by decide), gb_u_s]
            · intro n' hn' hn''
              rw [gb_u_row _ _ hn', gb_u_row _ _ (by omega), gb_u_row _ _ (by omega), gb_u_row _ _ (by omega)]
            · intro j hj
              rw [gb_u_nk _ _ hj, gb_u_ne _ _ (by decide), gb_u_ne _ _ (by decide), gb_u_ne _ _ (by decide)]
        · rw [if_pos (by rw [show n = 200 by omega]), if_neg h4]
          simp only [m_ends, gb_lt_d, gb_gd_t, gb_rd_s, gb_bd_s, gb_I_mk, gb_L_mk, gb_sI_mk, gb_sL_mk]
          exact ⟨_, _, rfl, h.st _, gb_fm.r.u (by decide)⟩
      · rw [if_neg (show ¬ gb_rg b (3 + 1) = true from h3), if_neg h3, if_pos (show (0 : Int32) = 0 from rfl)]
        simp only [m_ends, gb_lt_d, gb_gd_t, gb_rd_s, gb_bd_s, gb_I_mk, gb_L_mk, gb_sI_mk, gb_sL_mk, gk241, gk242, gk243, gk244, gk245, gk246, gk247, gk248, gk249, gk250, gk251, gk252, gk253, gk254, gk255, gk256, gk257, gk258, gk259, gk260, gk261, gk262, gk263, gk264, gk265, gk266, gk267, gk268, gr241_2, gr241_3, gr241_4, gr241_5, gr241_7, gr241_8, gr241_11, gr241_12, gr241_13, gr241_20, gr241_21, gr241_22, gr241_26, gr241_27, gr241_28, gr241_29, gr241_31, gr241_32, gr241_33, gr241_38, gr241_39, gr241_40, gr241_41, gr241_42, gr241_43, gr241_44, gr241_45]
        exact ⟨_, _, rfl, h.st _, gb_fm.r.u (by decide)⟩
    · rw [if_neg (show ¬ gb_rg d (999 + 1) = true from h2), if_pos (show (0 : Int32) = 0 from rfl), if_neg (show ¬ (gb_rg t 32 = true ∧ gb_rg d 1000 = true) from fun q => h2 q.2)]
      exact ⟨_, _, bad, h.st _, gb_fm.r.u (by decide)⟩
  · rw [if_neg (show ¬ gb_rg t (31 + 1) = true from h1), if_pos (show (0 : Int32) = 0 from rfl), if_neg (show ¬ (gb_rg t 32 = true ∧ gb_rg d 1000 = true) from fun q => h1 q.1)]
    exact ⟨_, _, bad, h.st _, gb_fm.r.u (by decide)⟩
/-! count -/
def a_count (v : Int32) (S : gb_S) : Int32 × gb_S :=
  (if gb_rg v 8 = true then nI (match v.toNatClampNeg with
    | 0 => S.1.length
    | 5 => S.2.2.2.2.2.1.length
    | 6 => S.2.2.2.2.2.2.2.1.length
    | 7 => S.2.2.1.length
    | k => (S.2.2.2.2.1 (k - 1)).length) else -1, S)
theorem gb_out {v : Int32} {n : Nat} (h : ¬ gb_rg v n = true) {j : Nat} (hj : j < n) (h31 : n < 2 ^ 31) : ¬ v = nI j := by
  intro e
  rw [e, gb_rg_nI (by omega)] at h
  exact h (by simp; exact hj)
theorem X_count (h : RX cOK S I J) (v : Int32) : xok cOK (fnX10_count 0 v) I J (a_count v S) := by
  obtain ⟨h1, h2, h3, h4, h5, h6, h7, h8, h9, h10, h11⟩ := id h
  refine ⟨I, J, ?_, h, gb_fx.r⟩
  unfold a_count
  by_cases hv : gb_rg v 8 = true
  · rw [if_pos hv]
    obtain ⟨j, hj, _, rfl⟩ := gb_rgT hv
    rw [nI_clamp (by omega)]
    match j, hj with
    | 0, _ =>
      simp only [fnX10_count, fbX10_count_22, gb_lt_d, gb_gd_t, gb_rd_s, gb_bd_s, gb_I_mk, gb_L_mk, gb_sI_mk, gb_sL_mk, gk0, gr0_0, gr0_1, gr0_2, gr0_3, gr0_4, gr0_5, gr0_6, gr0_7, gr0_8, gr0_9, gr0_10, gr0_11, gr0_12]
      rw [if_pos (by decide), if_pos (by decide), h1.2.2.1]
    | 5, _ =>
      simp only [fnX10_count, fbX10_count_22, gb_lt_d, gb_gd_t, gb_rd_s, gb_bd_s, gb_I_mk, gb_L_mk, gb_sI_mk, gb_sL_mk, gk0, gr0_0, gr0_1, gr0_2, gr0_3, gr0_4, gr0_5, gr0_6, gr0_7, gr0_8, gr0_9, gr0_10, gr0_11, gr0_12, gk116, gr116_0]
      rw [if_neg (by decide), if_pos (by decide), if_neg (by decide), if_neg (by decide), if_neg (by decide), if_neg (by decide), if_neg (by decide), if_pos (by decide), h6.2.1]
    | 6, _ =>
      simp only [fnX10_count, fbX10_count_22, gb_lt_d, gb_gd_t, gb_rd_s, gb_bd_s, gb_I_mk, gb_L_mk, gb_sI_mk, gb_sL_mk, gk0, gr0_0, gr0_1, gr0_2, gr0_3, gr0_4, gr0_5, gr0_6, gr0_7, gr0_8, gr0_9, gr0_10, gr0_11, gr0_12, gk126, gr126_0, gr126_1, gr126_2, gr126_4, gr126_6, gr126_7]
      rw [if_neg (by decide), if_pos (by decide), if_neg (by decide), if_neg (by decide), if_neg (by decide), if_neg (by decide), if_neg (by decide), if_neg (by decide), if_pos (by decide), h8.2.1]
    | 7, _ =>
      simp only [fnX10_count, fbX10_count_22, gb_lt_d, gb_gd_t, gb_rd_s, gb_bd_s, gb_I_mk, gb_L_mk, gb_sI_mk, gb_sL_mk, gk0, gr0_0, gr0_1, gr0_2, gr0_3, gr0_4, gr0_5, gr0_6, gr0_7, gr0_8, gr0_9, gr0_10, gr0_11, gr0_12, gk1, gr1_0]
      rw [if_neg (by decide), if_pos (by decide), if_neg (by decide), if_neg (by decide), if_neg (by decide), if_neg (by decide), if_neg (by decide), if_neg (by decide), if_neg (by decide), if_pos (by decide), h3.2.2.1]
    | 1, _ =>
      simp only [fnX10_count, fbX10_count_22, gb_lt_d, gb_gd_t, gb_rd_s, gb_bd_s, gb_I_mk, gb_L_mk, gb_sI_mk, gb_sL_mk, gk0, gr0_0, gr0_1, gr0_2, gr0_3, gr0_4, gr0_5, gr0_6, gr0_7, gr0_8, gr0_9, gr0_10, gr0_11, gr0_12]
      rw [if_neg (by decide), if_neg (by decide), show nI 1 - 1 = nI 0 from rfl]
      simp (disch := omega) only [gb_lt_d, gb_gd_t, gb_rd_s, gb_bd_s, gb_I_mk, gb_L_mk, gb_sI_mk, gb_sL_mk, gk0, gr0_0, gr0_1, gr0_2, gr0_3, gr0_4, gr0_5, gr0_6, gr0_7, gr0_8, gr0_9, gr0_10, gr0_11, gr0_12, gk22, gr22_0, gr22_1, gr22_2, gr22_3, nI_clamp, gi22, gx_ly, gx_lyk]
      rw [(h5 0 (by decide)).2.1]
      try rfl
    | 2, _ =>
      simp only [fnX10_count, fbX10_count_22, gb_lt_d, gb_gd_t, gb_rd_s, gb_bd_s, gb_I_mk, gb_L_mk, gb_sI_mk, gb_sL_mk, gk0, gr0_0, gr0_1, gr0_2, gr0_3, gr0_4, gr0_5, gr0_6, gr0_7, gr0_8, gr0_9, gr0_10, gr0_11, gr0_12]
      rw [if_neg (by decide), if_neg (by decide), show nI 2 - 1 = nI 1 from rfl]
      simp (disch := omega) only [gb_lt_d, gb_gd_t, gb_rd_s, gb_bd_s, gb_I_mk, gb_L_mk, gb_sI_mk, gb_sL_mk, gk0, gr0_0, gr0_1, gr0_2, gr0_3, gr0_4, gr0_5, gr0_6, gr0_7, gr0_8, gr0_9, gr0_10, gr0_11, gr0_12, gk22, gr22_0, gr22_1, gr22_2, gr22_3, nI_clamp, gi22, gx_ly, gx_lyk]
      rw [(h5 1 (by decide)).2.1]
      try rfl
    | 3, _ =>
      simp only [fnX10_count, fbX10_count_22, gb_lt_d, gb_gd_t, gb_rd_s, gb_bd_s, gb_I_mk, gb_L_mk, gb_sI_mk, gb_sL_mk, gk0, gr0_0, gr0_1, gr0_2, gr0_3, gr0_4, gr0_5, gr0_6, gr0_7, gr0_8, gr0_9, gr0_10, gr0_11, gr0_12]
      rw [if_neg (by decide), if_neg (by decide), show nI 3 - 1 = nI 2 from rfl]
      simp (disch := omega) only [gb_lt_d, gb_gd_t, gb_rd_s, gb_bd_s, gb_I_mk, gb_L_mk, gb_sI_mk, gb_sL_mk, gk0, gr0_0, gr0_1, gr0_2, gr0_3, gr0_4, gr0_5, gr0_6, gr0_7, gr0_8, gr0_9, gr0_10, gr0_11, gr0_12, gk22, gr22_0, gr22_1, gr22_2, gr22_3, nI_clamp, gi22, gx_ly, gx_lyk]
      rw [(h5 2 (by decide)).2.1]
      try rfl
    | 4, _ =>
      simp only [fnX10_count, fbX10_count_22, gb_lt_d, gb_gd_t, gb_rd_s, gb_bd_s, gb_I_mk, gb_L_mk, gb_sI_mk, gb_sL_mk, gk0, gr0_0, gr0_1, gr0_2, gr0_3, gr0_4, gr0_5, gr0_6, gr0_7, gr0_8, gr0_9, gr0_10, gr0_11, gr0_12]
      rw [if_neg (by decide), if_neg (by decide), show nI 4 - 1 = nI 3 from rfl]
      simp (disch := omega) only [gb_lt_d, gb_gd_t, gb_rd_s, gb_bd_s, gb_I_mk, gb_L_mk, gb_sI_mk, gb_sL_mk, gk0, gr0_0, gr0_1, gr0_2, gr0_3, gr0_4, gr0_5, gr0_6, gr0_7, gr0_8, gr0_9, gr0_10, gr0_11, gr0_12, gk22, gr22_0, gr22_1, gr22_2, gr22_3, nI_clamp, gi22, gx_ly, gx_lyk]
      rw [(h5 3 (by decide)).2.1]
      try rfl
  · rw [if_neg hv]
    have o : ∀ j, j < 8 → ¬ v = nI j := fun j hj => gb_out hv hj (by decide)
    have t : fbX10_count_22 0 v (gb_mk I J) = some (-1, gb_mk I J) := by
      unfold fbX10_count_22
      rw [if_neg (show ¬ v = 0 from o 0 (by decide)), if_neg (show ¬ v = 1 from o 1 (by decide)), if_neg (show ¬ v = 2 from o 2 (by decide)), if_neg (show ¬ v = 3 from o 3 (by decide)), if_neg (show ¬ v = 4 from o 4 (by decide)), if_neg (show ¬ v = 5 from o 5 (by decide)), if_neg (show ¬ v = 6 from o 6 (by decide)), if_neg (show ¬ v = 7 from o 7 (by decide))]
    unfold fnX10_count
    by_cases c1 : v < 1
    · rw [if_pos c1]; exact t
    · rw [if_neg c1]
      by_cases c2 : (4 : Int32) < v
      · rw [if_pos c2]; exact t
      · exfalso
        obtain ⟨j, hj, rfl⟩ := nI_of (x := v) (by
          intro q
          exact c1 (Int32.lt_trans q (by decide)))
        have : ¬ 4 < j := fun q => c2 (nI_lt (a := 4) (b := j) q hj)
        exact o j (by omega) rfl
theorem M_count (h : RM S I J) (v : Int32) : mok (fnX11_count 241 v) I J (a_count v S) := by
  obtain ⟨h1, h2, h3, h4, h5, h6, h7, h8, h9⟩ := id h
  refine ⟨I, J, ?_, h, gb_fm.r⟩
  unfold a_count
  simp only [fnX11_count, fbX11_count_68, m_in, gb_lt_d, gb_gd_t, gb_rd_s, gb_bd_s, gb_I_mk, gb_L_mk, gb_sI_mk, gb_sL_mk]
  by_cases hv : gb_rg v 8 = true
  · rw [if_pos hv]
    obtain ⟨j, hj, _, rfl⟩ := gb_rgT hv
    rw [nI_clamp (by omega)]
    match j, hj with
    | 0, _ =>
      simp only [gb_lt_d, gb_gd_t, gb_rd_s, gb_bd_s, gb_I_mk, gb_L_mk, gb_sI_mk, gb_sL_mk, gk241, gk242, gk243, gk244, gk245, gk246, gk247, gk248, gk249, gk250, gk251, gk252, gk253, gk254, gk255, gk256, gk257, gk258, gk259, gk260, gk261, gk262, gk263, gk264, gk265, gk266, gk267, gk268, gr241_2, gr241_3, gr241_4, gr241_5, gr241_7, gr241_8, gr241_11, gr241_12, gr241_13, gr241_20, gr241_21, gr241_22, gr241_26, gr241_27, gr241_28, gr241_29, gr241_31, gr241_32, gr241_33, gr241_38, gr241_39, gr241_40, gr241_41, gr241_42, gr241_43, gr241_44, gr241_45]
      rw [if_pos (by decide), if_pos (by decide), h1.1]
    | 5, _ =>
      simp only [gb_lt_d, gb_gd_t, gb_rd_s, gb_bd_s, gb_I_mk, gb_L_mk, gb_sI_mk, gb_sL_mk, gk241, gk242, gk243, gk244, gk245, gk246, gk247, gk248, gk249, gk250, gk251, gk252, gk253, gk254, gk255, gk256, gk257, gk258, gk259, gk260, gk261, gk262, gk263, gk264, gk265, gk266, gk267, gk268, gr241_2, gr241_3, gr241_4, gr241_5, gr241_7, gr241_8, gr241_11, gr241_12, gr241_13, gr241_20, gr241_21, gr241_22, gr241_26, gr241_27, gr241_28, gr241_29, gr241_31, gr241_32, gr241_33, gr241_38, gr241_39, gr241_40, gr241_41, gr241_42, gr241_43, gr241_44, gr241_45]
      rw [if_pos (by decide), if_neg (by decide), if_pos (by decide), h6.1]
    | 6, _ =>
      simp only [gb_lt_d, gb_gd_t, gb_rd_s, gb_bd_s, gb_I_mk, gb_L_mk, gb_sI_mk, gb_sL_mk, gk241, gk242, gk243, gk244, gk245, gk246, gk247, gk248, gk249, gk250, gk251, gk252, gk253, gk254, gk255, gk256, gk257, gk258, gk259, gk260, gk261, gk262, gk263, gk264, gk265, gk266, gk267, gk268, gr241_2, gr241_3, gr241_4, gr241_5, gr241_7, gr241_8, gr241_11, gr241_12, gr241_13, gr241_20, gr241_21, gr241_22, gr241_26, gr241_27, gr241_28, gr241_29, gr241_31, gr241_32, gr241_33, gr241_38, gr241_39, gr241_40, gr241_41, gr241_42, gr241_43, gr241_44, gr241_45]
      rw [if_pos (by decide), if_neg (by decide), if_neg (by decide), if_pos (by decide), h8.2.1]
    | 7, _ =>
      simp only [gb_lt_d, gb_gd_t, gb_rd_s, gb_bd_s, gb_I_mk, gb_L_mk, gb_sI_mk, gb_sL_mk, gk241, gk242, gk243, gk244, gk245, gk246, gk247, gk248, gk249, gk250, gk251, gk252, gk253, gk254, gk255, gk256, gk257, gk258, gk259, gk260, gk261, gk262, gk263, gk264, gk265, gk266, gk267, gk268, gr241_2, gr241_3, gr241_4, gr241_5, gr241_7, gr241_8, gr241_11, gr241_12, gr241_13, gr241_20, gr241_21, gr241_22, gr241_26, gr241_27, gr241_28, gr241_29, gr241_31, gr241_32, gr241_33, gr241_38, gr241_39, gr241_40, gr241_41, gr241_42, gr241_43, gr241_44, gr241_45]
      rw [if_pos (by decide), if_neg (by decide), if_neg (by decide), if_neg (by decide), if_pos (by decide), h3.1]
    | 1, _ =>
      rw [if_neg (by decide), show nI 1 - 1 = nI 0 from rfl]
      simp (disch := omega) only [gb_lt_d, gb_gd_t, gb_rd_s, gb_bd_s, gb_I_mk, gb_L_mk, gb_sI_mk, gb_sL_mk, gk241, gk242, gk243, gk244, gk245, gk246, gk247, gk248, gk249, gk250, gk251, gk252, gk253, gk254, gk255, gk256, gk257, gk258, gk259, gk260, gk261, gk262, gk263, gk264, gk265, gk266, gk267, gk268, gr241_2, gr241_3, gr241_4, gr241_5, gr241_7, gr241_8, gr241_11, gr241_12, gr241_13, gr241_20, gr241_21, gr241_22, gr241_26, gr241_27, gr241_28, gr241_29, gr241_31, gr241_32, gr241_33, gr241_38, gr241_39, gr241_40, gr241_41, gr241_42, gr241_43, gr241_44, gr241_45, nI_clamp, gi244]
      rw [(h5 0 (by decide)).1]
    | 2, _ =>
      rw [if_neg (by decide), show nI 2 - 1 = nI 1 from rfl]
      simp (disch := omega) only [gb_lt_d, gb_gd_t, gb_rd_s, gb_bd_s, gb_I_mk, gb_L_mk, gb_sI_mk, gb_sL_mk, gk241, gk242, gk243, gk244, gk245, gk246, gk247, gk248, gk249, gk250, gk251, gk252, gk253, gk254, gk255, gk256, gk257, gk258, gk259, gk260, gk261, gk262, gk263, gk264, gk265, gk266, gk267, gk268, gr241_2, gr241_3, gr241_4, gr241_5, gr241_7, gr241_8, gr241_11, gr241_12, gr241_13, gr241_20, gr241_21, gr241_22, gr241_26, gr241_27, gr241_28, gr241_29, gr241_31, gr241_32, gr241_33, gr241_38, gr241_39, gr241_40, gr241_41, gr241_42, gr241_43, gr241_44, gr241_45, nI_clamp, gi244]
      rw [(h5 1 (by decide)).1]
    | 3, _ =>
      rw [if_neg (by decide), show nI 3 - 1 = nI 2 from rfl]
      simp (disch := omega) only [gb_lt_d, gb_gd_t, gb_rd_s, gb_bd_s, gb_I_mk, gb_L_mk, gb_sI_mk, gb_sL_mk, gk241, gk242, gk243, gk244, gk245, gk246, gk247, gk248, gk249, gk250, gk251, gk252, gk253, gk254, gk255, gk256, gk257, gk258, gk259, gk260, gk261, gk262, gk263, gk264, gk265, gk266, gk267, gk268, gr241_2, gr241_3, gr241_4, gr241_5, gr241_7, gr241_8, gr241_11, gr241_12, gr241_13, gr241_20, gr241_21, gr241_22, gr241_26, gr241_27, gr241_28, gr241_29, gr241_31, gr241_32, gr241_33, gr241_38, gr241_39, gr241_40, gr241_41, gr241_42, gr241_43, gr241_44, gr241_45, nI_clamp, gi244]
      rw [(h5 2 (by decide)).1]
    | 4, _ =>
      rw [if_neg (by decide), show nI 4 - 1 = nI 3 from rfl]
      simp (disch := omega) only [gb_lt_d, gb_gd_t, gb_rd_s, gb_bd_s, gb_I_mk, gb_L_mk, gb_sI_mk, gb_sL_mk, gk241, gk242, gk243, gk244, gk245, gk246, gk247, gk248, gk249, gk250, gk251, gk252, gk253, gk254, gk255, gk256, gk257, gk258, gk259, gk260, gk261, gk262, gk263, gk264, gk265, gk266, gk267, gk268, gr241_2, gr241_3, gr241_4, gr241_5, gr241_7, gr241_8, gr241_11, gr241_12, gr241_13, gr241_20, gr241_21, gr241_22, gr241_26, gr241_27, gr241_28, gr241_29, gr241_31, gr241_32, gr241_33, gr241_38, gr241_39, gr241_40, gr241_41, gr241_42, gr241_43, gr241_44, gr241_45, nI_clamp, gi244]
      rw [(h5 3 (by decide)).1]
  · rw [if_neg hv]
    have o : ∀ j, j < 8 → ¬ v = nI j := fun j hj => gb_out hv hj (by decide)
    have e0 : (if v < 1 then (0 : Int32) else if (4 : Int32) < v then 0 else 1) = 0 := by
      by_cases c1 : v < 1
      · rw [if_pos c1]
      · rw [if_neg c1]
        by_cases c2 : (4 : Int32) < v
        · rw [if_pos c2]
        · exfalso
          obtain ⟨j, hj, rfl⟩ := nI_of (x := v) (by
            intro q
            exact c1 (Int32.lt_trans q (by decide)))
          have : ¬ 4 < j := fun q => c2 (nI_lt (a := 4) (b := j) q hj)
          exact o j (by omega) rfl
    rw [if_pos e0, if_neg (show ¬ v = 0 from o 0 (by decide)), if_neg (show ¬ v = 5 from o 5 (by decide)), if_neg (show ¬ v = 6 from o 6 (by decide)), if_neg (show ¬ v = 7 from o 7 (by decide))]
end OPS5
