section MREAD
variable {I I' I1 I2 : gb_FI} {J J' : gb_FJ} {c : Nat → Nat} {n s cs : Nat}
/-- the words, five bits a letter -/
def gt_cd (i : Nat) : Nat := [201, 0, 484, 21279251, 5425428, 611814, 208936, 477876, 21177619, 378925, 526067, 183788, 21452259, 0].getD i 0
theorem gt_cd_1 : ∀ i, i < 13 → i ≠ 1 → 0 < (gt_wd i).length ∧ lN (gt_cd i / 32 ^ (gt_wd i).length) ≤ 0 := by decide +kernel
theorem gt_cd_2 : ∀ i, i < 13 → i ≠ 1 → ∀ j, j < 5 → j < (gt_wd i).length → ¬ lN (gt_cd i / 32 ^ j) ≤ 0 := by decide +kernel
theorem gt_cd_3 : ∀ i, i < 13 → i ≠ 1 → ∀ j, j < 5 → j < (gt_wd i).length → (96 : Int64) + (lN (gt_cd i / 32 ^ j) &&& 31) = lN ((gt_wd i).getD j 0) := by decide +kernel
theorem gt_cd_4 : ∀ i, i < 13 → i ≠ 1 → ∀ j, j < 5 → j < (gt_wd i).length → lN (gt_cd i / 32 ^ j) >>> ((5 : Int32).toInt64 &&& 63) = lN (gt_cd i / 32 ^ (j + 1)) := by decide +kernel
theorem gt_cd_ok (i : Nat) (hi : i < 13) (h1 : i ≠ 1) : 0 < (gt_wd i).length ∧ lN (gt_cd i / 32 ^ (gt_wd i).length) ≤ 0 ∧ ∀ j, j < 5 → j < (gt_wd i).length → ¬ lN (gt_cd i / 32 ^ j) ≤ 0 ∧ (96 : Int64) + (lN (gt_cd i / 32 ^ j) &&& 31) = lN ((gt_wd i).getD j 0) ∧ lN (gt_cd i / 32 ^ j) >>> ((5 : Int32).toInt64 &&& 63) = lN (gt_cd i / 32 ^ (j + 1)) :=
  ⟨(gt_cd_1 i hi h1).1, (gt_cd_1 i hi h1).2, fun j a b => ⟨gt_cd_2 i hi h1 j a b, gt_cd_3 i hi h1 j a b, gt_cd_4 i hi h1 j a b⟩⟩
theorem m_isWord (h : mRd I c n s) {i : Nat} (hi : i < 13) (hi1 : i ≠ 1) : fnX11_isWord 241 (lN (gt_cd i)) (gb_mk I J) = some (if gt_is c n s i = true then 1 else 0, gb_mk I J) := by
  obtain ⟨t, hs, h2, h3⟩ := h
  obtain ⟨w0, w1, w2, w3⟩ := gt_wd_ok i (by omega)
  obtain ⟨v0, v1, v2⟩ := gt_cd_ok i hi hi1
  have hn := t.1
  have es := gt_e_s (c := c) hs
  have is : gt_is c n s i = true ↔ gt_e c n s - s = (gt_wd i).length ∧ ∀ j, j < (gt_wd i).length → c (s + j) = (gt_wd i).getD j 0 := by simp [gt_is]
  simp only [fnX11_isWord, gb_lt_d, gb_gd_t, gb_rd_s, gb_bd_s, gb_I_mk, gb_L_mk, gb_sI_mk, gb_sL_mk, gk241, gr241_2, gr241_3, gr241_4, gr241_5, gr241_7, gr241_8, gr241_11, gr241_12, gr241_13, gr241_20, gr241_21, gr241_22, gr241_26, gr241_27, gr241_28, gr241_29, gr241_31, gr241_32, gr241_33, gr241_38, gr241_39, gr241_40, gr241_41, gr241_42, gr241_43, gr241_44, gr241_45, h2, lpX11_isWord_8]
  have st0 : lN (gt_cd i) = lN (gt_cd i / 32 ^ (s - s)) := by rw [Nat.sub_self, Nat.pow_zero, Nat.div_one]
  rw [st0]
  refine gb_whl (fun p => (241, lN (gt_cd i / 32 ^ (p - s)), nI p, gb_mk I J)) (fun p => decide (p < gt_e c n s ∧ c p = (gt_wd i).getD (p - s) 0)) (s + (gt_wd i).length) s (by omega) (by omega) ?_ ?_
  · intro p k h1 h2' hq
    have hd : p < gt_e c n s ∧ c p = (gt_wd i).getD (p - s) 0 := by simpa using hq
    obtain ⟨b1, b2⟩ := t.2.2 p (by omega)
    obtain ⟨z1, z2⟩ := w3 (p - s) (by omega) (by omega)
    obtain ⟨y1, y2, y3⟩ := v2 (p - s) (by omega) (by omega)
    simp only [fbX11_isWord_8]
    rw [if_neg y1]
    simp only [gb_lt_d, gb_gd_t, gb_rd_s, gb_bd_s, gb_I_mk, gb_L_mk, gb_sI_mk, gb_sL_mk, gk241, gr241_2, gr241_3, gr241_4, gr241_5, gr241_7, gr241_8, gr241_11, gr241_12, gr241_13, gr241_20, gr241_21, gr241_22, gr241_26, gr241_27, gr241_28, gr241_29, gr241_31, gr241_32, gr241_33, gr241_38, gr241_39, gr241_40, gr241_41, gr241_42, gr241_43, gr241_44, gr241_45, h3]
    rw [if_neg (show ¬ nI (gt_e c n s) ≤ nI p from nI_ge hd.1 (by omega))]
    simp (disch := omega) only [gb_lt_d, gb_gd_t, gb_rd_s, gb_bd_s, gb_I_mk, gb_L_mk, gb_sI_mk, gb_sL_mk, gk241, gk242, gk243, gk244, gk245, gk246, gk247, gk248, gk249, gk250, gk251, gk252, gk253, gk254, gk255, gk256, gk257, gk258, gk259, gk260, gk261, gk262, gk263, gk264, gk265, gk266, gk267, gk268, gr241_2, gr241_3, gr241_4, gr241_5, gr241_7, gr241_8, gr241_11, gr241_12, gr241_13, gr241_20, gr241_21, gr241_22, gr241_26, gr241_27, gr241_28, gr241_29, gr241_31, gr241_32, gr241_33, gr241_38, gr241_39, gr241_40, gr241_41, gr241_42, gr241_43, gr241_44, gr241_45, gi249, nI_clamp, b2, y2, y3, gb_lit 1, nI_add]
    rw [if_pos ((sb_LN b1 z2).mpr hd.2), show p + 1 - s = p - s + 1 by omega]
  · intro k
    obtain ⟨a1, a2, a3, a4⟩ := gt_w_s (Q := fun p => decide (p < gt_e c n s ∧ c p = (gt_wd i).getD (p - s) 0)) (show s ≤ s + (gt_wd i).length by omega)
    generalize gt_w (fun p => decide (p < gt_e c n s ∧ c p = (gt_wd i).getD (p - s) 0)) (s + (gt_wd i).length) s = p at *
    show fbX11_isWord_8 _ 241 (lN (gt_cd i / 32 ^ (p - s))) (nI p) (gb_mk I J) = _
    simp only [fbX11_isWord_8, fbX11_isWord_44, fbX11_isWord_70]
    by_cases r : p < s + (gt_wd i).length
    · have hd : ¬ (p < gt_e c n s ∧ c p = (gt_wd i).getD (p - s) 0) := by
        have := a4 r
        simpa using this
      obtain ⟨y1, y2, y3⟩ := v2 (p - s) (by omega) (by omega)
      obtain ⟨z1, z2⟩ := w3 (p - s) (by omega) (by omega)
      have no : ¬ gt_is c n s i = true := fun w => by
        have w := is.mp w
        refine hd ⟨by omega, ?_⟩
        have := w.2 (p - s) (by omega)
        rw [show s + (p - s) = p by omega] at this
        exact this
      rw [if_neg y1, if_neg no]
      simp only [gb_lt_d, gb_gd_t, gb_rd_s, gb_bd_s, gb_I_mk, gb_L_mk, gb_sI_mk, gb_sL_mk, gk241, gr241_2, gr241_3, gr241_4, gr241_5, gr241_7, gr241_8, gr241_11, gr241_12, gr241_13, gr241_20, gr241_21, gr241_22, gr241_26, gr241_27, gr241_28, gr241_29, gr241_31, gr241_32, gr241_33, gr241_38, gr241_39, gr241_40, gr241_41, gr241_42, gr241_43, gr241_44, gr241_45, h3]
      by_cases e : p < gt_e c n s
      · rw [if_neg (show ¬ nI (gt_e c n s) ≤ nI p from nI_ge e (by omega))]
        obtain ⟨b1, b2⟩ := t.2.2 p (by omega)
        simp (disch := omega) only [gb_lt_d, gb_gd_t, gb_rd_s, gb_bd_s, gb_I_mk, gb_L_mk, gb_sI_mk, gb_sL_mk, gk241, gk242, gk243, gk244, gk245, gk246, gk247, gk248, gk249, gk250, gk251, gk252, gk253, gk254, gk255, gk256, gk257, gk258, gk259, gk260, gk261, gk262, gk263, gk264, gk265, gk266, gk267, gk268, gr241_2, gr241_3, gr241_4, gr241_5, gr241_7, gr241_8, gr241_11, gr241_12, gr241_13, gr241_20, gr241_21, gr241_22, gr241_26, gr241_27, gr241_28, gr241_29, gr241_31, gr241_32, gr241_33, gr241_38, gr241_39, gr241_40, gr241_41, gr241_42, gr241_43, gr241_44, gr241_45, gi249, nI_clamp, b2, y2]
        rw [if_neg (fun w => hd ⟨e, (sb_LN b1 z2).mp w⟩)]
      · rw [if_pos (show nI (gt_e c n s) ≤ nI p from nI_le (by omega) (by omega))]
    · have ep : p = s + (gt_wd i).length := by omega
      rw [show p - s = (gt_wd i).length by omega, if_pos v1]
      simp only [gb_lt_d, gb_gd_t, gb_rd_s, gb_bd_s, gb_I_mk, gb_L_mk, gb_sI_mk, gb_sL_mk, gk241, gr241_2, gr241_3, gr241_4, gr241_5, gr241_7, gr241_8, gr241_11, gr241_12, gr241_13, gr241_20, gr241_21, gr241_22, gr241_26, gr241_27, gr241_28, gr241_29, gr241_31, gr241_32, gr241_33, gr241_38, gr241_39, gr241_40, gr241_41, gr241_42, gr241_43, gr241_44, gr241_45, h3]
      by_cases e : p = gt_e c n s
      · rw [if_pos (show nI p = nI (gt_e c n s) by rw [e]), if_pos (is.mpr ⟨by omega, fun j hj => by
          have := a3 (s + j) (by omega) (by omega)
          simp only [decide_eq_true_eq] at this
          rw [show s + j - s = j by omega] at this
          exact this.2⟩)]
        rfl
      · rw [if_neg (show ¬ nI p = nI (gt_e c n s) from fun w => e ((nI_eq (by omega) (by omega)).mp w)), if_neg (fun w => e (by have := (is.mp w).1; omega))]
        rfl
/-- a fault has been found -/
def mBd (I : gb_FI) : Prop := ¬ I 241 19 = -1
theorem mBd.u (h : mBd I) {k : Nat} {v : Int32} : mBd (gb_u I 246 k v) := by
  unfold mBd
  rw [gb_u_row _ _ (by decide)]
  exact h
theorem m_goodB (h : mBd I) : fnX11_good 241 (gb_mk I J) = some (0, gb_mk I J) := by
  simp only [fnX11_good, fbX11_good_13, gb_lt_d, gb_gd_t, gb_rd_s, gb_bd_s, gb_I_mk, gb_L_mk, gb_sI_mk, gb_sL_mk, gk241, gr241_2, gr241_3, gr241_4, gr241_5, gr241_7, gr241_8, gr241_11, gr241_12, gr241_13, gr241_20, gr241_21, gr241_22, gr241_26, gr241_27, gr241_28, gr241_29, gr241_31, gr241_32, gr241_33, gr241_38, gr241_39, gr241_40, gr241_41, gr241_42, gr241_43, gr241_44, gr241_45]
  exact (if_neg h).trans rfl
theorem m_goodG (h : I 241 19 = -1) : fnX11_good 241 (gb_mk I J) = some (1, gb_mk I J) := by
  simp only [fnX11_good, fbX11_good_13, gb_lt_d, gb_gd_t, gb_rd_s, gb_bd_s, gb_I_mk, gb_L_mk, gb_sI_mk, gb_sL_mk, gk241, gr241_2, gr241_3, gr241_4, gr241_5, gr241_7, gr241_8, gr241_11, gr241_12, gr241_13, gr241_20, gr241_21, gr241_22, gr241_26, gr241_27, gr241_28, gr241_29, gr241_31, gr241_32, gr241_33, gr241_38, gr241_39, gr241_40, gr241_41, gr241_42, gr241_43, gr241_44, gr241_45]
  exact (if_pos h).trans rfl
theorem m_faultsB (h : mBd I) : fnX11_faults 241 (gb_mk I J) = some ((), gb_mk I J) := by
  simp only [fnX11_faults, fbX11_faults_15, gb_lt_d, gb_gd_t, gb_rd_s, gb_bd_s, gb_I_mk, gb_L_mk, gb_sI_mk, gb_sL_mk, gk241, gr241_2, gr241_3, gr241_4, gr241_5, gr241_7, gr241_8, gr241_11, gr241_12, gr241_13, gr241_20, gr241_21, gr241_22, gr241_26, gr241_27, gr241_28, gr241_29, gr241_31, gr241_32, gr241_33, gr241_38, gr241_39, gr241_40, gr241_41, gr241_42, gr241_43, gr241_44, gr241_45, m_goodB h, if_true]
theorem m_faultsG (h : I 241 19 = -1) {e : Nat} (h2 : I 241 16 = nI e) : fnX11_faults 241 (gb_mk I J) = some ((), gb_mk (gb_u I 241 19 (nI e)) J) := by
  simp only [fnX11_faults, fbX11_faults_15, gb_lt_d, gb_gd_t, gb_rd_s, gb_bd_s, gb_I_mk, gb_L_mk, gb_sI_mk, gb_sL_mk, gk241, gr241_2, gr241_3, gr241_4, gr241_5, gr241_7, gr241_8, gr241_11, gr241_12, gr241_13, gr241_20, gr241_21, gr241_22, gr241_26, gr241_27, gr241_28, gr241_29, gr241_31, gr241_32, gr241_33, gr241_38, gr241_39, gr241_40, gr241_41, gr241_42, gr241_43, gr241_44, gr241_45, m_goodG h, h2]
  rw [if_neg gb_n10]
theorem m_takeB (h : mBd I) (w : Int64) : fnX11_takesWord 241 w (gb_mk I J) = some (0, gb_mk I J) := by
  simp only [fnX11_takesWord, fbX11_takesWord_19, fbX11_takesWord_20, fbX11_takesWord_29, gb_lt_d, gb_gd_t, gb_rd_s, gb_bd_s, gb_I_mk, gb_L_mk, gb_sI_mk, gb_sL_mk, gk241, gr241_2, gr241_3, gr241_4, gr241_5, gr241_7, gr241_8, gr241_11, gr241_12, gr241_13, gr241_20, gr241_21, gr241_22, gr241_26, gr241_27, gr241_28, gr241_29, gr241_31, gr241_32, gr241_33, gr241_38, gr241_39, gr241_40, gr241_41, gr241_42, gr241_43, gr241_44, gr241_45, m_goodB h, if_true]
  rfl
theorem m_take0 (h : mRd I c n s) (g : I 241 19 = -1) {i : Nat} (hi : i < 13) (hi1 : i ≠ 1) (e : ¬ gt_is c n s i = true) : fnX11_takesWord 241 (lN (gt_cd i)) (gb_mk I J) = some (0, gb_mk I J) := by
  simp only [fnX11_takesWord, fbX11_takesWord_19, fbX11_takesWord_20, fbX11_takesWord_29, gb_lt_d, gb_gd_t, gb_rd_s, gb_bd_s, gb_I_mk, gb_L_mk, gb_sI_mk, gb_sL_mk, gk241, gr241_2, gr241_3, gr241_4, gr241_5, gr241_7, gr241_8, gr241_11, gr241_12, gr241_13, gr241_20, gr241_21, gr241_22, gr241_26, gr241_27, gr241_28, gr241_29, gr241_31, gr241_32, gr241_33, gr241_38, gr241_39, gr241_40, gr241_41, gr241_42, gr241_43, gr241_44, gr241_45, m_goodG g, m_isWord h hi hi1, if_neg e, if_true]
  rw [if_neg gb_n10]
  rfl
theorem m_take1 (h : mRd I c n s) (g : I 241 19 = -1) {i : Nat} (hi : i < 13) (hi1 : i ≠ 1) (e : gt_is c n s i = true) : ∃ I', fnX11_takesWord 241 (lN (gt_cd i)) (gb_mk I J) = some (1, gb_mk I' J) ∧ mRd I' c n (gt_n c n s) ∧ I' 241 19 = -1 ∧ gm_ad I I' := by
  obtain ⟨I', e1, e2, e3⟩ := m_adv (J := J) h
  refine ⟨I', ?_, e2, by rw [e3.2 19 (by decide) (by decide)]; exact g, e3⟩
  simp only [fnX11_takesWord, fbX11_takesWord_19, fbX11_takesWord_20, fbX11_takesWord_29, gb_lt_d, gb_gd_t, gb_rd_s, gb_bd_s, gb_I_mk, gb_L_mk, gb_sI_mk, gb_sL_mk, gk241, gr241_2, gr241_3, gr241_4, gr241_5, gr241_7, gr241_8, gr241_11, gr241_12, gr241_13, gr241_20, gr241_21, gr241_22, gr241_26, gr241_27, gr241_28, gr241_29, gr241_31, gr241_32, gr241_33, gr241_38, gr241_39, gr241_40, gr241_41, gr241_42, gr241_43, gr241_44, gr241_45, m_goodG g, m_isWord h hi hi1, if_pos e, e1]
  rw [if_neg gb_n10, if_neg gb_n10, if_neg gb_n10]
  rfl
theorem m_numB (h : mBd I) (w : Int32) : fnX11_number 241 w (gb_mk I J) = some (0, gb_mk I J) := by
  simp only [fnX11_number, gb_lt_d, gb_gd_t, gb_rd_s, gb_bd_s, gb_I_mk, gb_L_mk, gb_sI_mk, gb_sL_mk, gk241, gr241_2, gr241_3, gr241_4, gr241_5, gr241_7, gr241_8, gr241_11, gr241_12, gr241_13, gr241_20, gr241_21, gr241_22, gr241_26, gr241_27, gr241_28, gr241_29, gr241_31, gr241_32, gr241_33, gr241_38, gr241_39, gr241_40, gr241_41, gr241_42, gr241_43, gr241_44, gr241_45, m_goodB h, if_true]
theorem m_pathB (h : mBd I) (w u : Int32) : fnX11_path 241 w u (gb_mk I J) = some (0, gb_mk I J) := by
  simp only [fnX11_path, gb_lt_d, gb_gd_t, gb_rd_s, gb_bd_s, gb_I_mk, gb_L_mk, gb_sI_mk, gb_sL_mk, gk241, gr241_2, gr241_3, gr241_4, gr241_5, gr241_7, gr241_8, gr241_11, gr241_12, gr241_13, gr241_20, gr241_21, gr241_22, gr241_26, gr241_27, gr241_28, gr241_29, gr241_31, gr241_32, gr241_33, gr241_38, gr241_39, gr241_40, gr241_41, gr241_42, gr241_43, gr241_44, gr241_45, m_goodB h, if_true]
theorem m_kindB (h : mBd I) : fnX11_kind 241 (gb_mk I J) = some (0, gb_mk I J) := by
  simp only [fnX11_kind, gb_lt_d, gb_gd_t, gb_rd_s, gb_bd_s, gb_I_mk, gb_L_mk, gb_sI_mk, gb_sL_mk, gk241, gr241_2, gr241_3, gr241_4, gr241_5, gr241_7, gr241_8, gr241_11, gr241_12, gr241_13, gr241_20, gr241_21, gr241_22, gr241_26, gr241_27, gr241_28, gr241_29, gr241_31, gr241_32, gr241_33, gr241_38, gr241_39, gr241_40, gr241_41, gr241_42, gr241_43, gr241_44, gr241_45, m_takeB h, m_faultsB h, if_true]
theorem m_signB (h : mBd I) (w : Int32) : fnX11_takesSign 241 w (gb_mk I J) = some (0, gb_mk I J) := by
  simp only [fnX11_takesSign, fbX11_takesSign_35, fbX11_takesSign_36, fbX11_takesSign_45, gb_lt_d, gb_gd_t, gb_rd_s, gb_bd_s, gb_I_mk, gb_L_mk, gb_sI_mk, gb_sL_mk, gk241, gr241_2, gr241_3, gr241_4, gr241_5, gr241_7, gr241_8, gr241_11, gr241_12, gr241_13, gr241_20, gr241_21, gr241_22, gr241_26, gr241_27, gr241_28, gr241_29, gr241_31, gr241_32, gr241_33, gr241_38, gr241_39, gr241_40, gr241_41, gr241_42, gr241_43, gr241_44, gr241_45, m_goodB h, if_true]
  rfl
end MREAD
