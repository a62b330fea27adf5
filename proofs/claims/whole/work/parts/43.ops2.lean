section OPS2
variable {cOK : gb_CP} {S : gb_S} {I I' : gb_FI} {J J' : gb_FJ}
/-! dark -/
theorem RX.dk (h : RX cOK S I J) {i j : Nat} (hj : j < 10) : RX cOK (sD S (fun k => if k = i then j else S.2.2.2.2.2.2.1 k)) (gb_u I 240 i (nI j)) J := by
  obtain ⟨h1, h2, h3, h4, h5, h6, h7, h8, h9, h10, h11⟩ := h
  have r : ∀ n, n ≠ 240 → gb_u I 240 i (nI j) n = I n := fun n hn => gb_u_row _ _ hn
  refine ⟨?_, ?_, ?_, ?_, h5.keep (fun n _ _ _ => r n (by omega)), h6.keep (fun n _ _ => r n (by omega)), ?_, ?_, ?_, h10.keep (fun n _ _ => r n (by omega)) (fun _ _ _ => rfl), h11.keep (fun n _ _ => ⟨r n (by omega), rfl⟩)⟩
  · rw [r 0 (by decide), r 239 (by decide)]; exact h1
  · rw [r 0 (by decide)]; exact h2
  · rw [r 1 (by decide), r 2 (by decide)]; exact h3
  · rw [r 0 (by decide)]; exact h4
  · intro k hk
    show (if k = i then j else S.2.2.2.2.2.2.1 k) < 10 ∧ _ = nI (if k = i then j else S.2.2.2.2.2.2.1 k)
    by_cases e : k = i
    · rw [if_pos e, e]; exact ⟨hj, gb_u_s _ _ _ _⟩
    · rw [if_neg e, gb_u_nk _ _ e]; exact h7 k hk
  · rw [r 126 (by decide), r 127 (by decide), r 128 (by decide), r 129 (by decide)]; exact h8
  · rw [r 139 (by decide), r 145 (by decide)]; exact h9
theorem RM.dk (h : RM S I J) {i j : Nat} (hj : j < 10) : RM (sD S (fun k => if k = i then j else S.2.2.2.2.2.2.1 k)) (gb_u I 260 i (nI j)) J := by
  obtain ⟨h1, h2, h3, h4, h5, h6, h7, h8, h9⟩ := h
  have r : ∀ n, n ≠ 260 → gb_u I 260 i (nI j) n = I n := fun n hn => gb_u_row _ _ hn
  refine ⟨?_, ?_, ?_, ?_, ?_, ?_, ?_, ?_, ?_⟩
  · rw [r 241 (by decide), r 242 (by decide)]; exact h1
  · rw [r 241 (by decide)]; exact h2
  · rw [r 241 (by decide), r 248 (by decide)]; exact h3
  · rw [r 241 (by decide)]; exact h4
  · rw [r 244 (by decide), r 243 (by decide)]; exact h5
  · rw [r 241 (by decide), r 245 (by decide)]; exact h6
  · intro k hk
    show (if k = i then j else S.2.2.2.2.2.2.1 k) < 10 ∧ _ = nI (if k = i then j else S.2.2.2.2.2.2.1 k)
    by_cases e : k = i
    · rw [if_pos e, e]; exact ⟨hj, gb_u_s _ _ _ _⟩
    · rw [if_neg e, gb_u_nk _ _ e]; exact h7 k hk
  · rw [r 241 (by decide), r 261 (by decide), r 262 (by decide), r 263 (by decide)]; exact h8
  · rw [r 241 (by decide), r 268 (by decide), r 267 (by decide)]; exact h9
theorem X_dark (h : RX cOK S I J) (p t : Int32) : xok cOK (fnX10_dark 0 p t) I J (a_dark p t S) := by
  have bad : fbX10_dark_19 0 (gb_mk I J) = some (-1, gb_mk (gb_u I 0 15 (-1)) J) := by simp only [fbX10_dark_19, x_refuse, gb_lt_d, gb_gd_t, gb_rd_s, gb_bd_s, gb_I_mk, gb_L_mk, gb_sI_mk, gb_sL_mk, gk0, gr0_0, gr0_1, gr0_2, gr0_3, gr0_4, gr0_5, gr0_6, gr0_7, gr0_8, gr0_9, gr0_10, gr0_11, gr0_12]
  unfold a_dark
  unfold xok
  simp only [fnX10_dark]
  rw [gb_rgD p 5 (by decide) (L := 5) rfl, gb_rgC t 10 (by decide) (L := 10) rfl]
  by_cases h1 : gb_rg p 5 = true
  · by_cases h2 : gb_rg t 10 = true
    · rw [if_pos h1, if_pos h2, if_pos ⟨h1, h2⟩]
      obtain ⟨i, hi, _, rfl⟩ := gb_rgT h1
      obtain ⟨j, hj, _, rfl⟩ := gb_rgT h2
      refine ⟨gb_u (gb_u I 240 i (nI j)) 0 15 0, J, ?_, ?_, (gb_fx.r.u (by decide)).u (by decide)⟩
      · simp (disch := omega) only [gb_lt_d, gb_gd_t, gb_rd_s, gb_bd_s, gb_I_mk, gb_L_mk, gb_sI_mk, gb_sL_mk, gk0, gr0_0, gr0_1, gr0_2, gr0_3, gr0_4, gr0_5, gr0_6, gr0_7, gr0_8, gr0_9, gr0_10, gr0_11, gr0_12, gk240, nI_clamp, gi240, x_allow]
        rw [(h.2.2.2.2.2.2.1 i hi).2]
      · rw [nI_clamp (by omega), nI_clamp (by omega)]
        exact (h.dk hj).st 0
    · rw [if_pos h1, if_neg h2, if_neg (fun q => h2 q.2)]
      exact ⟨_, _, bad, h.st _, gb_fx.r.u (by decide)⟩
  · rw [if_neg h1, if_neg (fun q => h1 q.1)]
    exact ⟨_, _, bad, h.st _, gb_fx.r.u (by decide)⟩
theorem M_dark (h : RM S I J) (p t : Int32) : mok (fnX11_dark 241 p t) I J (a_dark p t S) := by
  have bad : fbX11_dark_19 241 (gb_mk I J) = some (-1, gb_mk (gb_u I 241 0 (-1)) J) := by
    simp only [fbX11_dark_19, m_ends, gb_lt_d, gb_gd_t, gb_rd_s, gb_bd_s, gb_I_mk, gb_L_mk, gb_sI_mk, gb_sL_mk, gk241, gk242, gk243, gk244, gk245, gk246, gk247, gk248, gk249, gk250, gk251, gk252, gk253, gk254, gk255, gk256, gk257, gk258, gk259, gk260, gk261, gk262, gk263, gk264, gk265, gk266, gk267, gk268, gr241_2, gr241_3, gr241_4, gr241_5, gr241_7, gr241_8, gr241_11, gr241_12, gr241_13, gr241_20, gr241_21, gr241_22, gr241_26, gr241_27, gr241_28, gr241_29, gr241_31, gr241_32, gr241_33, gr241_38, gr241_39, gr241_40, gr241_41, gr241_42, gr241_43, gr241_44, gr241_45]
    rfl
  unfold a_dark
  unfold mok
  simp only [fnX11_dark, m_inR _ 4 (by decide) _ (show (4 : Int32) = nI 4 from rfl), m_inR _ 9 (by decide) _ (show (9 : Int32) = nI 9 from rfl), gb_lt_d, gb_gd_t, gb_rd_s, gb_bd_s, gb_I_mk, gb_L_mk, gb_sI_mk, gb_sL_mk]
  by_cases h1 : gb_rg p 5 = true
  · by_cases h2 : gb_rg t 10 = true
    · obtain ⟨i, hi, _, rfl⟩ := gb_rgT h1
      obtain ⟨j, hj, _, rfl⟩ := gb_rgT h2
      rw [if_pos (show gb_rg (nI i) (4 + 1) = true from h1), if_pos (show gb_rg (nI j) (9 + 1) = true from h2), if_pos (show gb_rg (nI i) 5 = true ∧ gb_rg (nI j) 10 = true from ⟨h1, h2⟩), if_neg (show ¬ (1 : Int32) = 0 by decide), if_neg (show ¬ (1 : Int32) = 0 by decide)]
      refine ⟨gb_u (gb_u I 260 i (nI j)) 241 0 0, J, ?_, ?_, (gb_fm.r.u (by decide)).u (by decide)⟩
      · simp (disch := omega) only [gb_lt_d, gb_gd_t, gb_rd_s, gb_bd_s, gb_I_mk, gb_L_mk, gb_sI_mk, gb_sL_mk, gk241, gk242, gk243, gk244, gk245, gk246, gk247, gk248, gk249, gk250, gk251, gk252, gk253, gk254, gk255, gk256, gk257, gk258, gk259, gk260, gk261, gk262, gk263, gk264, gk265, gk266, gk267, gk268, gr241_2, gr241_3, gr241_4, gr241_5, gr241_7, gr241_8, gr241_11, gr241_12, gr241_13, gr241_20, gr241_21, gr241_22, gr241_26, gr241_27, gr241_28, gr241_29, gr241_31, gr241_32, gr241_33, gr241_38, gr241_39, gr241_40, gr241_41, gr241_42, gr241_43, gr241_44, gr241_45, nI_clamp, gi260, m_ends]
        rw [(h.2.2.2.2.2.2.1 i hi).2, if_pos (nI_pos' (by have := (h.2.2.2.2.2.2.1 i hi).1; omega))]
      · rw [nI_clamp (by omega), nI_clamp (by omega)]
        exact (h.dk hj).st 0
    · rw [if_pos (show gb_rg p (4 + 1) = true from h1), if_neg (show ¬ gb_rg t (9 + 1) = true from h2), if_neg (show ¬ (gb_rg p 5 = true ∧ gb_rg t 10 = true) from fun q => h2 q.2), if_neg (show ¬ (1 : Int32) = 0 by decide), if_pos (show (0 : Int32) = 0 from rfl)]
      exact ⟨_, _, bad, h.st _, gb_fm.r.u (by decide)⟩
  · rw [if_neg (show ¬ gb_rg p (4 + 1) = true from h1), if_neg (show ¬ (gb_rg p 5 = true ∧ gb_rg t 10 = true) from fun q => h1 q.1), if_pos (show (0 : Int32) = 0 from rfl)]
    exact ⟨_, _, bad, h.st _, gb_fm.r.u (by decide)⟩
end OPS2
