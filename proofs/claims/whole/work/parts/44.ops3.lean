section OPS3
variable {cOK : gb_CP} {S : gb_S} {I I' : gb_FI} {J J' : gb_FJ}
theorem gb_fg_ne {n : Nat} (h : n ≠ 42 ∧ n ≠ 65 ∧ n ≠ 88 ∧ n ≠ 111) : gb_fg I n = I n := by
  unfold gb_fg
  rw [gb_u_row _ _ h.2.2.2, gb_u_row _ _ h.2.2.1, gb_u_row _ _ h.2.1, gb_u_row _ _ h.1]
theorem gb_fg_0 {b : Nat} (h : b < 4) : gb_fg I (42 + 23 * b) 6 = 0 := by
  match b, h with
  | 0, _ => rfl
  | 1, _ => rfl
  | 2, _ => rfl
  | 3, _ => rfl
/-- grains change: the odds kept are void -/
theorem RX.gr (h : RX cOK S I J) {gs : List Nat} (hG : xG (I' 0 13) (I' 239) gs) (h14 : I' 0 14 = I 0 14) (h15 : I' 0 15 = I 0 15) (k : ∀ n, n ≠ 0 → n ≠ 239 → n ≠ 42 ∧ n ≠ 65 ∧ n ≠ 88 ∧ n ≠ 111 → I' n = I n) (hz : ∀ b, b < 4 → I' (42 + 23 * b) 6 = 0) : RX cOK (sG S gs) I' J := by
  obtain ⟨h1, h2, h3, h4, h5, h6, h7, h8, h9, h10, h11⟩ := h
  refine ⟨hG, h15.trans h2, ?_, h14.trans h4, h5.keep (fun n a b c => k n (by omega) (by omega) ?_), h6.keep (fun n _ _ => k n (by omega) (by omega) (by omega)), ?_, ?_, ?_, xC.zero hz, h11.keep (fun n _ _ => ⟨k n (by omega) (by omega) (by omega), rfl⟩)⟩
  · rw [k 1 (by decide) (by decide) (by decide), k 2 (by decide) (by decide) (by decide)]; exact h3
  · have c0 := c 0 (by decide)
    have c1 := c 1 (by decide)
    have c2 := c 2 (by decide)
    have c3 := c 3 (by decide)
    omega
  · rw [k 240 (by decide) (by decide) (by decide)]; exact h7
  · rw [k 126 (by decide) (by decide) (by decide), k 127 (by decide) (by decide) (by decide), k 128 (by decide) (by decide) (by decide), k 129 (by decide) (by decide) (by decide)]; exact h8
  · rw [k 139 (by decide) (by decide) (by decide), k 145 (by decide) (by decide) (by decide)]; exact h9
theorem RM.gr (h : RM S I J) {gs : List Nat} (hG : mG (I' 241 1) (I' 242) gs) (k : ∀ n, n ≠ 241 → n ≠ 242 → I' n = I n) (k1 : ∀ j, j ≠ 1 → I' 241 j = I 241 j) : RM (sG S gs) I' J := by
  obtain ⟨h1, h2, h3, h4, h5, h6, h7, h8, h9⟩ := h
  refine ⟨hG, ?_, ?_, ?_, ?_, ?_, ?_, ?_, ?_⟩
  · rw [k1 0 (by decide)]; exact h2
  · rw [k1 14 (by decide), k 248 (by decide) (by decide)]; exact h3
  · rw [k1 18 (by decide)]; exact h4
  · rw [k 244 (by decide) (by decide), k 243 (by decide) (by decide)]; exact h5
  · rw [k1 6 (by decide), k 245 (by decide) (by decide)]; exact h6
  · rw [k 260 (by decide) (by decide)]; exact h7
  · rw [k1 37 (by decide), k 261 (by decide) (by decide), k 262 (by decide) (by decide), k 263 (by decide) (by decide)]; exact h8
  · rw [k1 46 (by decide), k 268 (by decide) (by decide), k 267 (by decide) (by decide)]; exact h9
/-! grain -/
def a_grain (v : Int32) (S : gb_S) : Int32 × gb_S := if gb_rg v 10 = true then (if S.1.length < 3 then (nI (S.1.length + 1), sSt (sG S (S.1 ++ [v.toNatClampNeg])) 0) else (-5, sSt S (-5))) else (-1, sSt S (-1))
theorem X_grain (h : RX cOK S I J) (v : Int32) : xok cOK (fnX10_grain 0 v) I J (a_grain v S) := by
  have bad : fbX10_grain_10 0 (gb_mk I J) = some (-1, gb_mk (gb_u I 0 15 (-1)) J) := by simp only [fbX10_grain_10, x_refuse, gb_lt_d, gb_gd_t, gb_rd_s, gb_bd_s, gb_I_mk, gb_L_mk, gb_sI_mk, gb_sL_mk, gk0, gr0_0, gr0_1, gr0_2, gr0_3, gr0_4, gr0_5, gr0_6, gr0_7, gr0_8, gr0_9, gr0_10, gr0_11, gr0_12]
  obtain ⟨g1, g2, g3, g4⟩ := id h.1
  unfold a_grain xok
  simp only [fnX10_grain]
  rw [gb_rgC v 10 (by decide) (L := 10) rfl]
  by_cases h1 : gb_rg v 10 = true
  · rw [if_pos h1, if_pos h1]
    obtain ⟨m, hm, _, rfl⟩ := gb_rgT h1
    simp only [gb_lt_d, gb_gd_t, gb_rd_s, gb_bd_s, gb_I_mk, gb_L_mk, gb_sI_mk, gb_sL_mk, gk0, gr0_0, gr0_1, gr0_2, gr0_3, gr0_4, gr0_5, gr0_6, gr0_7, gr0_8, gr0_9, gr0_10, gr0_11, gr0_12, g3, gb_lit 3]
    by_cases h2 : S.1.length < 3
    · rw [if_pos (nI_lt h2 (by decide)), if_pos h2]
      refine ⟨gb_u (gb_fg (gb_u (gb_u I 239 S.1.length (nI (m + 1))) 0 13 (nI (S.1.length + 1)))) 0 15 0, J, ?_, ?_, ((gb_fx.r.u (by decide)).u (by decide)).fg.u (by decide)⟩
      · simp (disch := omega) only [gb_lt_d, gb_gd_t, gb_rd_s, gb_bd_s, gb_I_mk, gb_L_mk, gb_sI_mk, gb_sL_mk, gk0, gr0_0, gr0_1, gr0_2, gr0_3, gr0_4, gr0_5, gr0_6, gr0_7, gr0_8, gr0_9, gr0_10, gr0_11, gr0_12, gk239, nI_clamp, gi239, gb_lit 1, nI_add, x_forget, x_allow, gb_u_ne, g3, gb_fg_ne, gb_u_s, ne_eq, reduceCtorEq, not_false_eq_true]
      · have e : (nI m).toNatClampNeg = m := nI_clamp (by omega)
        rw [e]
        refine RX.st (S := sG S (S.1 ++ [m])) (h.gr ⟨?_, ?_, ?_, ?_⟩ ?_ ?_ ?_ (fun b hb => gb_fg_0 hb)) 0
        · simp; omega
        · intro x hx
          rcases List.mem_append.mp hx with q | q
          · exact g2 x q
          · rw [List.mem_singleton.mp q]; exact hm
        · rw [gb_fg_ne (by decide), gb_u_s]; simp
        · intro i hi
          rw [gb_fg_ne (by decide), gb_u_row _ _ (by decide)]
          by_cases e : i = S.1.length
          · subst e
            rw [gb_u_s]; simp
          · rw [gb_u_nk _ _ e, g4 i hi]
            congr 1
            rcases Nat.lt_or_ge i S.1.length with q | q
            · rw [List.getElem?_append_left q]
            · rw [List.getElem?_eq_none q, List.getElem?_eq_none (by simp; omega)]
        · rw [gb_fg_ne (by decide), gb_u_nk _ _ (by decide), gb_u_ne _ _ (by decide)]
        · rw [gb_fg_ne (by decide), gb_u_nk _ _ (by decide), gb_u_ne _ _ (by decide)]
        · intro n n0 n1 n2
          rw [gb_fg_ne n2, gb_u_row _ _ n0, gb_u_row _ _ n1]
    · rw [if_neg (nI_nlt (by omega) (by omega)), if_neg h2]
      simp only [x_refuse, gb_lt_d, gb_gd_t, gb_rd_s, gb_bd_s, gb_I_mk, gb_L_mk, gb_sI_mk, gb_sL_mk]
      exact ⟨_, _, rfl, h.st _, gb_fx.r.u (by decide)⟩
  · rw [if_neg h1, if_neg h1]
    exact ⟨_, _, bad, h.st _, gb_fx.r.u (by decide)⟩
theorem M_grain (h : RM S I J) (hl : S.1.length ≤ 3) (v : Int32) : mok (fnX11_grain 241 v) I J (a_grain v S) := by
  obtain ⟨g3, g4⟩ := id h.1
  unfold a_grain mok
  simp only [fnX11_grain, m_inR _ 9 (by decide) _ (show (9 : Int32) = nI 9 from rfl), gb_lt_d, gb_gd_t, gb_rd_s, gb_bd_s, gb_I_mk, gb_L_mk, gb_sI_mk, gb_sL_mk]
  by_cases h1 : gb_rg v 10 = true
  · rw [if_pos (show gb_rg v (9 + 1) = true from h1), if_pos h1, if_neg (show ¬ (1 : Int32) = 0 by decide)]
    obtain ⟨m, hm, _, rfl⟩ := gb_rgT h1
    simp only [gb_lt_d, gb_gd_t, gb_rd_s, gb_bd_s, gb_I_mk, gb_L_mk, gb_sI_mk, gb_sL_mk, gk241, gk242, gk243, gk244, gk245, gk246, gk247, gk248, gk249, gk250, gk251, gk252, gk253, gk254, gk255, gk256, gk257, gk258, gk259, gk260, gk261, gk262, gk263, gk264, gk265, gk266, gk267, gk268, gr241_2, gr241_3, gr241_4, gr241_5, gr241_7, gr241_8, gr241_11, gr241_12, gr241_13, gr241_20, gr241_21, gr241_22, gr241_26, gr241_27, gr241_28, gr241_29, gr241_31, gr241_32, gr241_33, gr241_38, gr241_39, gr241_40, gr241_41, gr241_42, gr241_43, gr241_44, gr241_45, g3, gb_lit 3]
    by_cases h2 : S.1.length < 3
    · rw [if_neg (fun q => absurd ((nI_eq (by omega) (by decide)).mp q) (by omega)), if_pos h2]
      refine ⟨gb_u (gb_u (gb_u I 242 S.1.length (nI m)) 241 1 (nI (S.1.length + 1))) 241 0 0, J, ?_, ?_, ((gb_fm.r.u (by decide)).u (by decide)).u (by decide)⟩
      · simp (disch := omega) only [gb_lt_d, gb_gd_t, gb_rd_s, gb_bd_s, gb_I_mk, gb_L_mk, gb_sI_mk, gb_sL_mk, gk241, gk242, gk243, gk244, gk245, gk246, gk247, gk248, gk249, gk250, gk251, gk252, gk253, gk254, gk255, gk256, gk257, gk258, gk259, gk260, gk261, gk262, gk263, gk264, gk265, gk266, gk267, gk268, gr241_2, gr241_3, gr241_4, gr241_5, gr241_7, gr241_8, gr241_11, gr241_12, gr241_13, gr241_20, gr241_21, gr241_22, gr241_26, gr241_27, gr241_28, gr241_29, gr241_31, gr241_32, gr241_33, gr241_38, gr241_39, gr241_40, gr241_41, gr241_42, gr241_43, gr241_44, gr241_45, nI_clamp, gi242, gb_lit 1, nI_add, m_ends, gb_u_ne, g3, gb_u_s]
        rw [if_pos (nI_pos' (by omega))]
      · have e : (nI m).toNatClampNeg = m := nI_clamp (by omega)
        rw [e]
        refine RM.st (S := sG S (S.1 ++ [m])) (h.gr ⟨?_, ?_⟩ ?_ ?_) 0
        · rw [gb_u_s]; simp
        · intro i x hx
          rw [gb_u_row _ _ (by decide)]
          by_cases e : i = S.1.length
          · subst e
            rw [gb_u_s]
            simp at hx
            rw [hx]
          · rw [gb_u_nk _ _ e]
            have hlt : i < S.1.length := by
              have := (List.getElem?_eq_some_iff.mp hx).1
              simp at this
              omega
            rw [List.getElem?_append_left hlt] at hx
            exact g4 i x hx
        · intro n n0 n1
          rw [gb_u_row _ _ n0, gb_u_row _ _ n1]
        · intro j hj
          rw [gb_u_nk _ _ hj, gb_u_ne _ _ (by decide)]
    · rw [if_pos (by rw [show S.1.length = 3 by omega]), if_neg h2]
      simp only [m_ends, gb_lt_d, gb_gd_t, gb_rd_s, gb_bd_s, gb_I_mk, gb_L_mk, gb_sI_mk, gb_sL_mk]
      exact ⟨_, _, rfl, h.st _, gb_fm.r.u (by decide)⟩
  · rw [if_neg (show ¬ gb_rg v (9 + 1) = true from h1), if_neg h1, if_pos (show (0 : Int32) = 0 from rfl)]
    simp only [m_ends, gb_lt_d, gb_gd_t, gb_rd_s, gb_bd_s, gb_I_mk, gb_L_mk, gb_sI_mk, gb_sL_mk, gk241, gk242, gk243, gk244, gk245, gk246, gk247, gk248, gk249, gk250, gk251, gk252, gk253, gk254, gk255, gk256, gk257, gk258, gk259, gk260, gk261, gk262, gk263, gk264, gk265, gk266, gk267, gk268, gr241_2, gr241_3, gr241_4, gr241_5, gr241_7, gr241_8, gr241_11, gr241_12, gr241_13, gr241_20, gr241_21, gr241_22, gr241_26, gr241_27, gr241_28, gr241_29, gr241_31, gr241_32, gr241_33, gr241_38, gr241_39, gr241_40, gr241_41, gr241_42, gr241_43, gr241_44, gr241_45]
    exact ⟨_, _, rfl, h.st _, gb_fm.r.u (by decide)⟩
end OPS3
