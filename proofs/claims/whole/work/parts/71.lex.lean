section LEX4
variable {I I' I2 : gb_FI} {J J' : gb_FJ} {c : Nat → Nat} {n s : Nat}
/-- the words: if = do split three four half turn shift mark swap lose count ; -/
def gt_wd (i : Nat) : List Nat := [[105, 102], [61], [100, 111], [115, 112, 108, 105, 116], [116, 104, 114, 101, 101], [102, 111, 117, 114], [104, 97, 108, 102], [116, 117, 114, 110], [115, 104, 105, 102, 116], [109, 97, 114, 107], [115, 119, 97, 112], [108, 111, 115, 101], [99, 111, 117, 110, 116], [59]].getD i []
theorem gt_wd_ok : ∀ i, i < 14 → gb_st0 i = true ∧ gb_sn.getD i 0 = (gt_wd i).length ∧ (gt_wd i).length ≤ 5 ∧ ∀ j, j < 5 → j < (gt_wd i).length → (gb_sb.getD i []).getD j 0 &&& 255 = nI ((gt_wd i).getD j 0) ∧ (gt_wd i).getD j 0 < 128 := by decide
/-- the token at s is the word W -/
def gt_is (c : Nat → Nat) (n s i : Nat) : Bool := decide (gt_e c n s - s = (gt_wd i).length ∧ ∀ j, j < (gt_wd i).length → c (s + j) = (gt_wd i).getD j 0)
theorem x_says (h : xRd I c n s) {i : Nat} (hi : i < 14) : fnX7_says 3 i (gb_mk I J) = some (if gt_is c n s i = true then 1 else 0, gb_mk I J) := by
  obtain ⟨t, hs, h2, h3, h4⟩ := h
  obtain ⟨w0, w1, w2, w3⟩ := gt_wd_ok i hi
  have hn := t.1
  have es := gt_e_s (c := c) hs
  have e0 : nI (gt_e c n s) - nI s = nI (gt_e c n s - s) := gb_nI_sub es.1
  have is : gt_is c n s i = true ↔ gt_e c n s - s = (gt_wd i).length ∧ ∀ j, j < (gt_wd i).length → c (s + j) = (gt_wd i).getD j 0 := by simp [gt_is]
  simp only [fnX7_says, fnJ0_length_8abf5, w0, w1]
  simp (disch := omega) only [gb_lt_d, gb_gd_t, gb_rd_s, gb_bd_s, gb_I_mk, gb_L_mk, gb_sI_mk, gb_sL_mk, gk3, gr3_0, gr3_1, gk1, gr1_0, gk2, h2, h3, e0]
  by_cases q : gt_e c n s - s = (gt_wd i).length
  · rw [if_pos (show Int32.ofNat (gt_wd i).length = nI (gt_e c n s - s) by rw [q]; rfl)]
    simp only [lpX7_says_23]
    refine gb_whl (fun p => (3, i, nI p, gb_mk I J)) (fun p => decide (c p = (gt_wd i).getD (p - s) 0)) (gt_e c n s) s es.1 (by omega) ?_ ?_
    · intro p k h1 h2' hq
      obtain ⟨b1, b2⟩ := t.2.2 p (by omega)
      have hd : c p = (gt_wd i).getD (p - s) 0 := by simpa using hq
      obtain ⟨z1, z2⟩ := w3 (p - s) (by omega) (by omega)
      simp only [fbX7_says_23, fnJ0_charAt_5068e]
      simp (disch := omega) only [gb_lt_d, gb_gd_t, gb_rd_s, gb_bd_s, gb_I_mk, gb_L_mk, gb_sI_mk, gb_sL_mk, gk3, gr3_0, gr3_1, gk1, gr1_0, gk2, h2, h3]
      rw [if_neg (show ¬ nI (gt_e c n s) ≤ nI p from nI_ge h2' (by omega))]
      have g1 : (decide (¬ nI (p - s) < 0) && decide (p - s < (gt_wd i).length)) = true := by
        rw [decide_eq_true (nI_pos (by omega)), decide_eq_true (by omega)]; rfl
      simp (disch := omega) only [gb_lt_d, gb_gd_t, gb_rd_s, gb_bd_s, gb_I_mk, gb_L_mk, gb_sI_mk, gb_sL_mk, gk3, gr3_0, gr3_1, gk1, gr1_0, gk2, h2, h3, gi2, nI_clamp, b2, w0, w1, gb_nI_sub h1, z1, g1, hd, gb_lit 1, nI_add, if_true]
    · intro k
      obtain ⟨a1, a2, a3, a4⟩ := gt_w_s (Q := fun p => decide (c p = (gt_wd i).getD (p - s) 0)) es.1
      generalize gt_w (fun p => decide (c p = (gt_wd i).getD (p - s) 0)) (gt_e c n s) s = p at *
      show fbX7_says_23 _ 3 i (nI p) (gb_mk I J) = _
      simp only [fbX7_says_23, fnJ0_charAt_5068e]
      simp (disch := omega) only [gb_lt_d, gb_gd_t, gb_rd_s, gb_bd_s, gb_I_mk, gb_L_mk, gb_sI_mk, gb_sL_mk, gk3, gr3_0, gr3_1, gk1, gr1_0, gk2, h2, h3]
      by_cases r : p < gt_e c n s
      · rw [if_neg (show ¬ nI (gt_e c n s) ≤ nI p from nI_ge r (by omega))]
        obtain ⟨b1, b2⟩ := t.2.2 p (by omega)
        have hd : ¬ c p = (gt_wd i).getD (p - s) 0 := by simpa using a4 r
        obtain ⟨z1, z2⟩ := w3 (p - s) (by omega) (by omega)
        have g1 : (decide (¬ nI (p - s) < 0) && decide (p - s < (gt_wd i).length)) = true := by
          rw [decide_eq_true (nI_pos (by omega)), decide_eq_true (by omega)]; rfl
        simp (disch := omega) only [gb_lt_d, gb_gd_t, gb_rd_s, gb_bd_s, gb_I_mk, gb_L_mk, gb_sI_mk, gb_sL_mk, gk3, gr3_0, gr3_1, gk1, gr1_0, gk2, h2, h3, gi2, nI_clamp, b2, w0, w1, gb_nI_sub a1, z1, g1]
        rw [if_neg (fun w => hd ((nI_eq (by omega) (by omega)).mp w)), if_neg (fun w => hd (by
          have := (is.mp w).2 (p - s) (by omega)
          rw [show s + (p - s) = p by omega] at this
          exact this))]
      · rw [if_pos (show nI (gt_e c n s) ≤ nI p from nI_le (by omega) (by omega)), if_pos (is.mpr ⟨q, fun j hj => by
          have := a3 (s + j) (by omega) (by omega)
          simp only [decide_eq_true_eq] at this
          rw [show s + j - s = j by omega] at this
          exact this⟩)]
  · rw [if_neg (show ¬ Int32.ofNat (gt_wd i).length = nI (gt_e c n s - s) from fun w => q ((nI_eq (by omega) (by omega)).mp w).symm), if_neg (fun w => q (is.mp w).1)]
/-- only the token has moved -/
def gb_ad (I I' : gb_FI) : Prop := (∀ m, m ≠ 3 → I' m = I m) ∧ ∀ k, (k < 2 ∨ 4 < k) → I' 3 k = I 3 k
theorem x_take0 (h : xRd I c n s) {i : Nat} (hi : i < 14) (e : ¬ gt_is c n s i = true) : fnX7_take 3 i (gb_mk I J) = some (0, gb_mk I J) := by
  simp only [fnX7_take, fbX7_take_14]
  simp only [gb_lt_d, gb_gd_t, gb_rd_s, gb_bd_s, gb_I_mk, gb_L_mk, gb_sI_mk, gb_sL_mk, gk3, gr3_0, gr3_1, x_says h hi, if_neg e, if_true]
  rfl
theorem x_take1 (h : xRd I c n s) {i : Nat} (hi : i < 14) (e : gt_is c n s i = true) : ∃ I', fnX7_take 3 i (gb_mk I J) = some (1, gb_mk I' J) ∧ xRd I' c n (gt_n c n s) ∧ gb_ad I I' := by
  obtain ⟨I', e1, e2, e3, e4⟩ := x_adv (J := J) h
  refine ⟨I', ?_, e2, e3, e4⟩
  simp only [fnX7_take, fbX7_take_14]
  simp only [gb_lt_d, gb_gd_t, gb_rd_s, gb_bd_s, gb_I_mk, gb_L_mk, gb_sI_mk, gb_sL_mk, gk3, gr3_0, gr3_1, x_says h hi, if_pos e, e1]
  rw [if_neg gb_n10]
  rfl
/-- the number of the token, at most so much -/
def g_num (c : Nat → Nat) (n most s : Nat) : Option Nat := if s < n ∧ gt_dg c s = true ∧ gt_d c s (gt_e c n s - s) ≤ most then some (gt_d c s (gt_e c n s - s)) else none
theorem g_num_le {most v : Nat} (e : g_num c n most s = some v) : v ≤ most := by
  unfold g_num at e
  split at e
  · rename_i q
    rw [← Option.some.inj e]; exact q.2.2
  · exact absurd e (by simp)
theorem x_num0 (h : xRd I c n s) {most : Nat} (hm : most < 1000) (e : g_num c n most s = none) : fnX7_readNumber 3 (nI most) (gb_mk I J) = some (-1, gb_mk I J) := by
  obtain ⟨t, hs, h2, h3, h4⟩ := h
  have le := gt_d_le c s (gt_e c n s - s)
  simp only [fnX7_readNumber, fbX7_readNumber_14]
  simp only [gb_lt_d, gb_gd_t, gb_rd_s, gb_bd_s, gb_I_mk, gb_L_mk, gb_sI_mk, gb_sL_mk, gk3, gr3_0, gr3_1, h4]
  unfold gt_v
  by_cases q : s < n ∧ gt_dg c s = true
  · have r : ¬ gt_d c s (gt_e c n s - s) ≤ most := fun r => by
      unfold g_num at e
      rw [if_pos ⟨q.1, q.2, r⟩] at e
      exact absurd e (by simp)
    rw [if_pos q, if_neg (nI_pos (by omega)), if_neg (show ¬ nI (gt_d c s (gt_e c n s - s)) ≤ nI most from nI_ge (by omega) (by omega))]
  · rw [if_neg q, if_pos (show (-1 : Int32) < 0 by decide)]
theorem x_num1 (h : xRd I c n s) {most v : Nat} (hm : most < 1000) (e : g_num c n most s = some v) : ∃ I', fnX7_readNumber 3 (nI most) (gb_mk I J) = some (nI v, gb_mk I' J) ∧ xRd I' c n (gt_n c n s) ∧ gb_ad I I' := by
  obtain ⟨I', e1, e2, e3, e4⟩ := x_adv (J := J) h
  obtain ⟨t, hs, h2, h3, h4⟩ := h
  have le := gt_d_le c s (gt_e c n s - s)
  refine ⟨I', ?_, e2, e3, e4⟩
  simp only [fnX7_readNumber, fbX7_readNumber_14]
  simp only [gb_lt_d, gb_gd_t, gb_rd_s, gb_bd_s, gb_I_mk, gb_L_mk, gb_sI_mk, gb_sL_mk, gk3, gr3_0, gr3_1, h4, e1]
  unfold gt_v
  unfold g_num at e
  split at e
  · rename_i q
    rw [← Option.some.inj e, if_pos (show s < n ∧ gt_dg c s = true from ⟨q.1, q.2.1⟩), if_neg (nI_pos (by omega)), if_pos (show nI (gt_d c s (gt_e c n s - s)) ≤ nI most from nI_le q.2.2 (by omega))]
  · exact absurd e (by simp)
end LEX4
