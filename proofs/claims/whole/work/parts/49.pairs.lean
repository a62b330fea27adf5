section PAIRS
variable {cOK : gb_CP} {S : gb_S} {I I' : gb_FI} {J J' : gb_FJ}
def a_counted (b t d : Int32) (S : gb_S) : Int32 × gb_S :=
  if gb_rg b 4 = true ∧ gb_rg d 1000 = true then
    if t = -1 then (nI (gb_nt (gb_pA b.toNatClampNeg d.toNatClampNeg) S.2.2.2.2.2.2.2.1 S.2.2.2.2.2.2.2.1.length), S)
    else if gb_rg t 32 = true then (nI (gb_nt (gb_pT b.toNatClampNeg d.toNatClampNeg t.toNatClampNeg) S.2.2.2.2.2.2.2.1 S.2.2.2.2.2.2.2.1.length), S)
    else (-1, S)
  else (-1, S)
theorem X_counted (h : RX cOK S I J) (b t d : Int32) : xok cOK (fnX10_counted 0 b t d) I J (a_counted b t d S) := by
  have hR := h.2.2.2.2.2.2.2.1
  have bad : ∃ I' J', fbX10_counted_26 (gb_mk I J) = some (-1, gb_mk I' J') ∧ RX cOK S I' J' ∧ gb_fx I I' J J' := ⟨I, J, rfl, h, gb_fx.r⟩
  unfold a_counted xok
  simp only [fnX10_counted, x_areBits, x_isDay, x_isBench, gb_lt_d, gb_gd_t, gb_rd_s, gb_bd_s, gb_I_mk, gb_L_mk, gb_sI_mk, gb_sL_mk]
  by_cases h1 : gb_rg b 4 = true
  · rw [if_pos h1, if_neg gb_n10]
    by_cases h2 : gb_rg d 1000 = true
    · rw [if_pos h2, if_neg gb_n10, if_pos (show gb_rg b 4 = true ∧ gb_rg d 1000 = true from ⟨h1, h2⟩)]
      obtain ⟨b', hb, _, rfl⟩ := gb_rgT h1
      obtain ⟨d', hd, _, rfl⟩ := gb_rgT h2
      rw [nI_clamp (by omega), nI_clamp (by omega)]
      by_cases h3 : t = -1
      · rw [if_pos h3, if_pos h3]
        refine ⟨gb_tw I S.2.2.2.2.2.2.2.1 b' d' S.2.2.2.2.2.2.2.1.length, J, ?_, h.ty, gb_fx.ty⟩
        simp only [fbX10_counted_28, fbX10_counted_61, gb_lt_d, gb_gd_t, gb_rd_s, gb_bd_s, gb_I_mk, gb_L_mk, gb_sI_mk, gb_sL_mk, gk0, gr0_0, gr0_1, gr0_2, gr0_3, gr0_4, gr0_5, gr0_6, gr0_7, gr0_8, gr0_9, gr0_10, gr0_11, gr0_12, gk126, gr126_0, gr126_1, gr126_2, gr126_4, gr126_6, gr126_7, x_tally hR hb hd, gb_tw_5]
        rw [if_pos h3]
      · rw [if_neg h3, if_neg h3]
        by_cases h4 : gb_rg t 32 = true
        · rw [if_pos h4, if_neg gb_n10, if_pos h4]
          obtain ⟨t', ht, _, rfl⟩ := gb_rgT h4
          rw [nI_clamp (by omega)]
          refine ⟨gb_tw I S.2.2.2.2.2.2.2.1 b' d' S.2.2.2.2.2.2.2.1.length, J, ?_, h.ty, gb_fx.ty⟩
          simp only [fbX10_counted_28, fbX10_counted_61, gb_lt_d, gb_gd_t, gb_rd_s, gb_bd_s, gb_I_mk, gb_L_mk, gb_sI_mk, gb_sL_mk, gk0, gr0_0, gr0_1, gr0_2, gr0_3, gr0_4, gr0_5, gr0_6, gr0_7, gr0_8, gr0_9, gr0_10, gr0_11, gr0_12, gk126, gr126_0, gr126_1, gr126_2, gr126_4, gr126_6, gr126_7, x_tally hR hb hd]
          rw [if_neg h3]
          simp (disch := omega) only [gb_lt_d, gb_gd_t, gb_rd_s, gb_bd_s, gb_I_mk, gb_L_mk, gb_sI_mk, gb_sL_mk, gk0, gr0_0, gr0_1, gr0_2, gr0_3, gr0_4, gr0_5, gr0_6, gr0_7, gr0_8, gr0_9, gr0_10, gr0_11, gr0_12, gk126, gr126_0, gr126_1, gr126_2, gr126_4, gr126_6, gr126_7, gk130, gi130, nI_clamp, gb_tw_t]
        · rw [if_neg h4, if_pos (show (0 : Int32) = 0 from rfl), if_neg h4]
          exact bad
    · rw [if_neg h2, if_pos (show (0 : Int32) = 0 from rfl), if_neg (show ¬ (gb_rg b 4 = true ∧ gb_rg d 1000 = true) from fun q => h2 q.2)]
      exact bad
  · rw [if_neg h1, if_pos (show (0 : Int32) = 0 from rfl), if_neg (show ¬ (gb_rg b 4 = true ∧ gb_rg d 1000 = true) from fun q => h1 q.1)]
    exact bad
theorem gb_m31 (t : Int32) : (if t < -1 then (0 : Int32) else if (31 : Int32) < t then 0 else 1) = if t = -1 then 1 else if gb_rg t 32 = true then 1 else 0 := by
  by_cases h3 : t = -1
  · rw [if_pos h3, h3]; decide
  · rw [if_neg h3]
    by_cases h0 : t < 0
    · rw [gb_rg_neg h0, if_pos]
      · rfl
      · rw [Int32.lt_iff_toInt_lt] at h0 ⊢
        have : t.toInt ≠ -1 := fun e => h3 (Int32.toInt_inj.mp (e.trans rfl))
        have e0 : Int32.toInt 0 = 0 := rfl
        have e1 : Int32.toInt (-1) = -1 := rfl
        omega
    · obtain ⟨j, hj, rfl⟩ := nI_of h0
      rw [if_neg (show ¬ nI j < -1 from fun q => h0 (Int32.lt_trans q (by decide))), gb_rg_nI hj]
      by_cases c : j < 32
      · rw [if_neg (show ¬ (31 : Int32) < nI j from nI_nlt (a := 31) (b := j) (by omega) (by omega)), if_pos (by simp; exact c)]
      · rw [if_pos (show (31 : Int32) < nI j from nI_lt (a := 31) (b := j) (by omega) hj), if_neg (by simp; omega)]
theorem M_counted (h : RM S I J) (b t d : Int32) : mok (fnX11_counted 241 b t d) I J (a_counted b t d S) := by
  have hR := h.2.2.2.2.2.2.2.1
  unfold a_counted mok
  simp only [fnX11_counted, fbX11_counted_40, fbX11_counted_41, m_inR _ 999 (by decide) _ (show (999 : Int32) = nI 999 from rfl), m_inR _ 3 (by decide) _ (show (3 : Int32) = nI 3 from rfl), m_in t, gb_m31, gb_lt_d, gb_gd_t, gb_rd_s, gb_bd_s, gb_I_mk, gb_L_mk, gb_sI_mk, gb_sL_mk]
  have bad : ∃ I' J', some ((-1 : Int32), gb_mk I J) = some (-1, gb_mk I' J') ∧ RM S I' J' ∧ gb_fm I I' J J' := ⟨I, J, rfl, h, gb_fm.r⟩
  by_cases h1 : gb_rg b 4 = true
  · rw [if_pos (show gb_rg b (3 + 1) = true from h1), if_neg gb_n10]
    by_cases h2 : gb_rg d 1000 = true
    · rw [if_pos (show gb_rg b 4 = true ∧ gb_rg d 1000 = true from ⟨h1, h2⟩), if_pos (show gb_rg d (999 + 1) = true from h2), if_neg gb_n10]
      obtain ⟨b', hb, _, rfl⟩ := gb_rgT h1
      obtain ⟨d', hd, _, rfl⟩ := gb_rgT h2
      rw [nI_clamp (by omega), nI_clamp (by omega)]
      by_cases h3 : t = -1
      · rw [if_pos h3, if_neg gb_n10, if_pos h3]
        refine ⟨I, J, ?_, h, gb_fm.r⟩
        simp only [gb_lt_d, gb_gd_t, gb_rd_s, gb_bd_s, gb_I_mk, gb_L_mk, gb_sI_mk, gb_sL_mk, gk241, gk242, gk243, gk244, gk245, gk246, gk247, gk248, gk249, gk250, gk251, gk252, gk253, gk254, gk255, gk256, gk257, gk258, gk259, gk260, gk261, gk262, gk263, gk264, gk265, gk266, gk267, gk268, gr241_2, gr241_3, gr241_4, gr241_5, gr241_7, gr241_8, gr241_11, gr241_12, gr241_13, gr241_20, gr241_21, gr241_22, gr241_26, gr241_27, gr241_28, gr241_29, gr241_31, gr241_32, gr241_33, gr241_38, gr241_39, gr241_40, gr241_41, gr241_42, gr241_43, gr241_44, gr241_45, m_cnt hR hb hd (Or.inl ⟨h3, rfl⟩)]
      · rw [if_neg h3, if_neg h3]
        by_cases h4 : gb_rg t 32 = true
        · rw [if_pos h4, if_neg gb_n10, if_pos h4]
          obtain ⟨t', ht, _, rfl⟩ := gb_rgT h4
          rw [nI_clamp (by omega)]
          refine ⟨I, J, ?_, h, gb_fm.r⟩
          simp only [gb_lt_d, gb_gd_t, gb_rd_s, gb_bd_s, gb_I_mk, gb_L_mk, gb_sI_mk, gb_sL_mk, gk241, gk242, gk243, gk244, gk245, gk246, gk247, gk248, gk249, gk250, gk251, gk252, gk253, gk254, gk255, gk256, gk257, gk258, gk259, gk260, gk261, gk262, gk263, gk264, gk265, gk266, gk267, gk268, gr241_2, gr241_3, gr241_4, gr241_5, gr241_7, gr241_8, gr241_11, gr241_12, gr241_13, gr241_20, gr241_21, gr241_22, gr241_26, gr241_27, gr241_28, gr241_29, gr241_31, gr241_32, gr241_33, gr241_38, gr241_39, gr241_40, gr241_41, gr241_42, gr241_43, gr241_44, gr241_45, m_cnt hR hb hd (Or.inr ⟨t', ht, rfl, rfl⟩)]
        · rw [if_neg h4, if_pos (show (0 : Int32) = 0 from rfl), if_neg h4]
          exact bad
    · rw [if_neg (show ¬ (gb_rg b 4 = true ∧ gb_rg d 1000 = true) from fun q => h2 q.2), if_neg (show ¬ gb_rg d (999 + 1) = true from h2), if_pos (show (0 : Int32) = 0 from rfl)]
      by_cases h5 : (if t = -1 then (1 : Int32) else if gb_rg t 32 = true then 1 else 0) = 0
      · rw [if_pos h5]; exact bad
      · rw [if_neg h5]; exact bad
  · rw [if_neg (show ¬ gb_rg b (3 + 1) = true from h1), if_pos (show (0 : Int32) = 0 from rfl), if_neg (show ¬ (gb_rg b 4 = true ∧ gb_rg d 1000 = true) from fun q => h1 q.1)]
    exact bad
end PAIRS
