section PAIRS3
variable {cOK : gb_CP} {S : gb_S} {I I' : gb_FI} {J J' : gb_FJ}
def a_pairs (b d k : Int32) (S : gb_S) : Int32 × gb_S :=
  if gb_rg b 4 = true ∧ gb_rg d 1000 = true ∧ gb_rg k 2 = true then (nI (gb_pq S.2.2.2.2.2.2.2.1 b.toNatClampNeg d.toNatClampNeg k.toNatClampNeg), S) else (-1, S)
theorem gb_rgE {β : Type} (v : Int32) (A B : β) : (if v < 0 then A else if v ≤ 1 then B else A) = if gb_rg v 2 = true then B else A := by
  by_cases h0 : v < 0
  · rw [if_pos h0, gb_rg_neg h0]; rfl
  · rw [if_neg h0]
    obtain ⟨j, hj, rfl⟩ := nI_of h0
    rw [gb_rg_nI hj]
    by_cases c : j < 2
    · rw [if_pos (show nI j ≤ 1 from nI_le (a := j) (b := 1) (by omega) (by omega)), if_pos (by simp; exact c)]
    · rw [if_neg (show ¬ nI j ≤ 1 from nI_ge (a := 1) (b := j) (by omega) hj), if_neg (by simp; omega)]
theorem X_pairs (h : RX cOK S I J) (b d k : Int32) : xok cOK (fnX10_pairs 0 b d k) I J (a_pairs b d k S) := by
  have hR := h.2.2.2.2.2.2.2.1
  have hl := hR.1
  have bad : ∃ I' J', fbX10_pairs_23 (gb_mk I J) = some (-1, gb_mk I' J') ∧ RX cOK S I' J' ∧ gb_fx I I' J J' := ⟨I, J, rfl, h, gb_fx.r⟩
  unfold a_pairs xok
  simp only [fnX10_pairs, x_isDay, x_isBench, gb_lt_d, gb_gd_t, gb_rd_s, gb_bd_s, gb_I_mk, gb_L_mk, gb_sI_mk, gb_sL_mk]
  rw [gb_rgE]
  by_cases h1 : gb_rg b 4 = true
  · rw [if_pos h1, if_neg gb_n10]
    by_cases h2 : gb_rg d 1000 = true
    · rw [if_pos h2, if_neg gb_n10]
      by_cases h3 : gb_rg k 2 = true
      · rw [if_pos h3, if_pos (show gb_rg b 4 = true ∧ gb_rg d 1000 = true ∧ gb_rg k 2 = true from ⟨h1, h2, h3⟩)]
        obtain ⟨b', hb, _, rfl⟩ := gb_rgT h1
        obtain ⟨d', hd, _, rfl⟩ := gb_rgT h2
        obtain ⟨k', hk, _, rfl⟩ := gb_rgT h3
        rw [nI_clamp (by omega), nI_clamp (by omega), nI_clamp (by omega)]
        refine ⟨gb_tw I S.2.2.2.2.2.2.2.1 b' d' S.2.2.2.2.2.2.2.1.length, J, ?_, h.ty, gb_fx.ty⟩
        simp only [fbX10_pairs_55, gb_lt_d, gb_gd_t, gb_rd_s, gb_bd_s, gb_I_mk, gb_L_mk, gb_sI_mk, gb_sL_mk, gk0, gr0_0, gr0_1, gr0_2, gr0_3, gr0_4, gr0_5, gr0_6, gr0_7, gr0_8, gr0_9, gr0_10, gr0_11, gr0_12, gk126, gr126_0, gr126_1, gr126_2, gr126_4, gr126_6, gr126_7, x_tally hR hb hd, x_like hl, x_unlike hl]
        match k', hk with
        | 0, _ => rfl
        | 1, _ => rfl
      · rw [if_neg h3, if_neg (show ¬ (gb_rg b 4 = true ∧ gb_rg d 1000 = true ∧ gb_rg k 2 = true) from fun q => h3 q.2.2)]
        exact bad
    · rw [if_neg h2, if_pos (show (0 : Int32) = 0 from rfl), if_neg (show ¬ (gb_rg b 4 = true ∧ gb_rg d 1000 = true ∧ gb_rg k 2 = true) from fun q => h2 q.2.1)]
      exact bad
  · rw [if_neg h1, if_pos (show (0 : Int32) = 0 from rfl), if_neg (show ¬ (gb_rg b 4 = true ∧ gb_rg d 1000 = true ∧ gb_rg k 2 = true) from fun q => h1 q.1)]
    exact bad
theorem M_pairs (h : RM S I J) (b d k : Int32) : mok (fnX11_pairs 241 b d k) I J (a_pairs b d k S) := by
  have hR := h.2.2.2.2.2.2.2.1
  have bad : ∃ I' J', some ((-1 : Int32), gb_mk I J) = some (-1, gb_mk I' J') ∧ RM S I' J' ∧ gb_fm I I' J J' := ⟨I, J, rfl, h, gb_fm.r⟩
  unfold a_pairs mok
  simp only [fnX11_pairs, fbX11_pairs_41, fbX11_pairs_42, m_inR _ 999 (by decide) _ (show (999 : Int32) = nI 999 from rfl), m_inR _ 3 (by decide) _ (show (3 : Int32) = nI 3 from rfl), m_inR _ 1 (by decide) _ (show (1 : Int32) = nI 1 from rfl), gb_lt_d, gb_gd_t, gb_rd_s, gb_bd_s, gb_I_mk, gb_L_mk, gb_sI_mk, gb_sL_mk]
  by_cases h1 : gb_rg b 4 = true
  · rw [if_pos (show gb_rg b (3 + 1) = true from h1), if_neg gb_n10]
    by_cases h2 : gb_rg d 1000 = true
    · rw [if_pos (show gb_rg d (999 + 1) = true from h2), if_neg gb_n10]
      by_cases h3 : gb_rg k 2 = true
      · rw [if_pos (show gb_rg k (1 + 1) = true from h3), if_neg gb_n10, if_pos (show gb_rg b 4 = true ∧ gb_rg d 1000 = true ∧ gb_rg k 2 = true from ⟨h1, h2, h3⟩)]
        obtain ⟨b', hb, _, rfl⟩ := gb_rgT h1
        obtain ⟨d', hd, _, rfl⟩ := gb_rgT h2
        obtain ⟨k', hk, _, rfl⟩ := gb_rgT h3
        rw [nI_clamp (by omega), nI_clamp (by omega), nI_clamp (by omega)]
        refine ⟨I, J, ?_, h, gb_fm.r⟩
        match k', hk with
        | 0, _ =>
          rw [show (1 : Int32) - nI 0 = 1 from rfl]
          simp only [gb_lt_d, gb_gd_t, gb_rd_s, gb_bd_s, gb_I_mk, gb_L_mk, gb_sI_mk, gb_sL_mk, gk241, gk242, gk243, gk244, gk245, gk246, gk247, gk248, gk249, gk250, gk251, gk252, gk253, gk254, gk255, gk256, gk257, gk258, gk259, gk260, gk261, gk262, gk263, gk264, gk265, gk266, gk267, gk268, gr241_2, gr241_3, gr241_4, gr241_5, gr241_7, gr241_8, gr241_11, gr241_12, gr241_13, gr241_20, gr241_21, gr241_22, gr241_26, gr241_27, gr241_28, gr241_29, gr241_31, gr241_32, gr241_33, gr241_38, gr241_39, gr241_40, gr241_41, gr241_42, gr241_43, gr241_44, gr241_45, m_pairs1 hR hb hd]
        | 1, _ =>
          rw [show (1 : Int32) - nI 1 = 0 from rfl]
          simp only [gb_lt_d, gb_gd_t, gb_rd_s, gb_bd_s, gb_I_mk, gb_L_mk, gb_sI_mk, gb_sL_mk, gk241, gk242, gk243, gk244, gk245, gk246, gk247, gk248, gk249, gk250, gk251, gk252, gk253, gk254, gk255, gk256, gk257, gk258, gk259, gk260, gk261, gk262, gk263, gk264, gk265, gk266, gk267, gk268, gr241_2, gr241_3, gr241_4, gr241_5, gr241_7, gr241_8, gr241_11, gr241_12, gr241_13, gr241_20, gr241_21, gr241_22, gr241_26, gr241_27, gr241_28, gr241_29, gr241_31, gr241_32, gr241_33, gr241_38, gr241_39, gr241_40, gr241_41, gr241_42, gr241_43, gr241_44, gr241_45, m_pairs0 hR hb hd]
      · rw [if_neg (show ¬ gb_rg k (1 + 1) = true from h3), if_pos (show (0 : Int32) = 0 from rfl), if_neg (show ¬ (gb_rg b 4 = true ∧ gb_rg d 1000 = true ∧ gb_rg k 2 = true) from fun q => h3 q.2.2)]
        exact bad
    · rw [if_neg (show ¬ gb_rg d (999 + 1) = true from h2), if_pos (show (0 : Int32) = 0 from rfl), if_neg (show ¬ (gb_rg b 4 = true ∧ gb_rg d 1000 = true ∧ gb_rg k 2 = true) from fun q => h2 q.2.1)]
      exact bad
  · rw [if_neg (show ¬ gb_rg b (3 + 1) = true from h1), if_pos (show (0 : Int32) = 0 from rfl), if_neg (show ¬ (gb_rg b 4 = true ∧ gb_rg d 1000 = true ∧ gb_rg k 2 = true) from fun q => h1 q.1)]
    exact bad
end PAIRS3
