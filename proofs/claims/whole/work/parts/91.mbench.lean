section MBENCH2
variable {S : gb_S} {I I' I1 I2 : gb_FI} {J J' : gb_FJ} {c : Nat → Nat} {n s cs ls a m b : Nat}
theorem sb_b8 : ∀ v, v < 256 → (sb_b v).toInt8.toInt32 = sb_b v := by decide +kernel
def gm_cy (I : gb_FI) (c : Nat → Nat) : Nat → gb_FI
  | 0 => I
  | i + 1 => gb_u (gm_cy I c i) 249 i (sb_b (c i))
theorem gm_cy_ne {m : Nat} (h : m ≠ 249) : ∀ i, gm_cy I c i m = I m
  | 0 => rfl
  | i + 1 => by
    show gb_u (gm_cy I c i) 249 i _ m = I m
    rw [gb_u_row _ _ h, gm_cy_ne h i]
theorem gm_cy_i {j : Nat} : ∀ i, j < i → gm_cy I c i 249 j = sb_b (c j)
  | 0, h => absurd h (by omega)
  | i + 1, h => by
    show gb_u (gm_cy I c i) 249 i _ 249 j = _
    by_cases e : j = i
    · subst e; rw [gb_u_s]
    · rw [gb_u_nk _ _ e, gm_cy_i i (by omega)]
def gm_c0 (I : gb_FI) : Nat → gb_FI
  | 0 => I
  | i + 1 => gb_u (gm_c0 I i) 247 i 0
theorem gm_c0_ne {m : Nat} (h : m ≠ 247) : ∀ i, gm_c0 I i m = I m
  | 0 => rfl
  | i + 1 => by
    show gb_u (gm_c0 I i) 247 i _ m = I m
    rw [gb_u_row _ _ h, gm_c0_ne h i]
theorem gm_c0_i {j : Nat} : ∀ i, j < i → gm_c0 I i 247 j = 0
  | 0, h => absurd h (by omega)
  | i + 1, h => by
    show gb_u (gm_c0 I i) 247 i _ 247 j = _
    by_cases e : j = i
    · subst e; rw [gb_u_s]
    · rw [gb_u_nk _ _ e, gm_c0_i i (by omega)]
theorem m_begins63 (t : mTp I c n) (h17 : I 241 17 = nI 0) : lpX11_begins_63 gb_FU 241 0 (gb_mk I J) = some ((), gb_mk (gm_tk (gm_c0 I 5) (gt_s c n 0) (gt_e c n (gt_s c n 0))) J) := by
  have k : ∀ i m, m ≠ 247 → gm_c0 I i m = I m := fun i m hm => gm_c0_ne hm i
  simp only [lpX11_begins_63]
  refine gb_forF (fun i => (241, nI i, gb_mk (gm_c0 I i) J)) 5 (by decide) ?_ ?_
  · intro j hj kk
    simp only [fbX11_begins_63]
    rw [if_neg (show ¬ (5 : Int32) ≤ nI j from nI_ge (a := j) (b := 5) hj (by omega))]
    simp (disch := omega) only [gb_lt_d, gb_gd_t, gb_rd_s, gb_bd_s, gb_I_mk, gb_L_mk, gb_sI_mk, gb_sL_mk, gk241, gk242, gk243, gk244, gk245, gk246, gk247, gk248, gk249, gk250, gk251, gk252, gk253, gk254, gk255, gk256, gk257, gk258, gk259, gk260, gk261, gk262, gk263, gk264, gk265, gk266, gk267, gk268, gr241_2, gr241_3, gr241_4, gr241_5, gr241_7, gr241_8, gr241_11, gr241_12, gr241_13, gr241_20, gr241_21, gr241_22, gr241_26, gr241_27, gr241_28, gr241_29, gr241_31, gr241_32, gr241_33, gr241_38, gr241_39, gr241_40, gr241_41, gr241_42, gr241_43, gr241_44, gr241_45, gi247, nI_clamp, gb_lit 1, nI_add]
    rfl
  · intro kk
    have t' : mTp (gm_c0 I 5) c n := ⟨t.1, by rw [k 5 241 (by decide)]; exact t.2.1, fun i hi => by rw [k 5 249 (by decide)]; exact t.2.2 i hi⟩
    have e := m_next (J := J) t' (Nat.zero_le _) (by rw [k 5 241 (by decide)]; exact h17)
    simp only [fbX11_begins_63]
    rw [if_pos (show (5 : Int32) ≤ nI 5 by decide)]
    simp only [gb_lt_d, gb_gd_t, gb_rd_s, gb_bd_s, gb_I_mk, gb_L_mk, gb_sI_mk, gb_sL_mk, gk241, gr241_2, gr241_3, gr241_4, gr241_5, gr241_7, gr241_8, gr241_11, gr241_12, gr241_13, gr241_20, gr241_21, gr241_22, gr241_26, gr241_27, gr241_28, gr241_29, gr241_31, gr241_32, gr241_33, gr241_38, gr241_39, gr241_40, gr241_41, gr241_42, gr241_43, gr241_44, gr241_45, e]
/-- a text is begun -/
theorem m_begins (hn : n ≤ 400) (h14 : I 241 14 = nI n) (h8 : ∀ i, i < n → c i < 256 ∧ I 248 i = sb_b (c i)) : ∃ I', fnX11_begins 241 (gb_mk I J) = some ((), gb_mk I' J) ∧ mRd I' c n (gt_s c n 0) ∧ I' 241 19 = -1 ∧ mCs I' 0 ∧ I' 241 10 = nI 0 ∧ I' 241 9 = nI 0 ∧ I' 241 14 = 0 ∧ (∀ x, x ≠ 241 → x ≠ 247 → x ≠ 249 → I' x = I x) ∧ ∀ k, k ≠ 9 → k ≠ 10 → k ≠ 14 → k ≠ 15 → k ≠ 16 → k ≠ 17 → k ≠ 19 → I' 241 k = I 241 k := by
  have kc : ∀ i, (gm_cy (gb_u (gb_u I 241 15 (nI n)) 241 14 0) c i) 241 15 = nI n := fun i => by rw [gm_cy_ne (by decide), gb_u_nk _ _ (by decide), gb_u_s]
  have k8 : ∀ i j, j < n → (gm_cy (gb_u (gb_u I 241 15 (nI n)) 241 14 0) c i) 248 j = sb_b (c j) := fun i j hj => by rw [gm_cy_ne (by decide), gb_u_row _ _ (by decide), gb_u_row _ _ (by decide)]; exact (h8 j hj).2
  have fin := m_begins63 (J := J) (c := c) (n := n) (I := gb_u (gb_u (gb_u (gb_u (gm_cy (gb_u (gb_u I 241 15 (nI n)) 241 14 0) c n) 241 17 0) 241 19 (-1)) 241 9 0) 241 10 0) ⟨hn, by rw [gb_u_nk _ _ (by decide), gb_u_nk _ _ (by decide), gb_u_nk _ _ (by decide), gb_u_nk _ _ (by decide)]; exact kc n, fun i hi => by
    rw [gb_u_row _ _ (by decide), gb_u_row _ _ (by decide), gb_u_row _ _ (by decide), gb_u_row _ _ (by decide), gm_cy_i n hi]
    exact ⟨(h8 i hi).1, rfl⟩⟩ (by rw [gb_u_nk _ _ (by decide), gb_u_nk _ _ (by decide), gb_u_nk _ _ (by decide), gb_u_s]; rfl)
  have hs : gt_s c n 0 ≤ n := (gt_w_s (Nat.zero_le _)).2.1
  refine ⟨gm_tk (gm_c0 (gb_u (gb_u (gb_u (gb_u (gm_cy (gb_u (gb_u I 241 15 (nI n)) 241 14 0) c n) 241 17 0) 241 19 (-1)) 241 9 0) 241 10 0) 5) (gt_s c n 0) (gt_e c n (gt_s c n 0)), ?_, ⟨⟨hn, ?_, ?_⟩, hs, gm_tk_16, gm_tk_17⟩, ?_, ⟨by decide, fun p hp => ?_⟩, ?_, ?_, ?_, ?_, ?_⟩
  · simp only [fnX11_begins, gb_lt_d, gb_gd_t, gb_rd_s, gb_bd_s, gb_I_mk, gb_L_mk, gb_sI_mk, gb_sL_mk, gk241, gr241_2, gr241_3, gr241_4, gr241_5, gr241_7, gr241_8, gr241_11, gr241_12, gr241_13, gr241_20, gr241_21, gr241_22, gr241_26, gr241_27, gr241_28, gr241_29, gr241_31, gr241_32, gr241_33, gr241_38, gr241_39, gr241_40, gr241_41, gr241_42, gr241_43, gr241_44, gr241_45, h14]
    simp only [lpX11_begins_15]
    refine gb_forF (fun i => (241, nI i, gb_mk (gm_cy (gb_u (gb_u I 241 15 (nI n)) 241 14 0) c i) J)) n (by omega) ?_ ?_
    · intro j hj kk
      simp only [fbX11_begins_15, gb_lt_d, gb_gd_t, gb_rd_s, gb_bd_s, gb_I_mk, gb_L_mk, gb_sI_mk, gb_sL_mk, gk241, gr241_2, gr241_3, gr241_4, gr241_5, gr241_7, gr241_8, gr241_11, gr241_12, gr241_13, gr241_20, gr241_21, gr241_22, gr241_26, gr241_27, gr241_28, gr241_29, gr241_31, gr241_32, gr241_33, gr241_38, gr241_39, gr241_40, gr241_41, gr241_42, gr241_43, gr241_44, gr241_45, kc j]
      rw [if_neg (show ¬ nI n ≤ nI j from nI_ge hj (by omega))]
      simp (disch := omega) only [gb_lt_d, gb_gd_t, gb_rd_s, gb_bd_s, gb_I_mk, gb_L_mk, gb_sI_mk, gb_sL_mk, gk241, gk242, gk243, gk244, gk245, gk246, gk247, gk248, gk249, gk250, gk251, gk252, gk253, gk254, gk255, gk256, gk257, gk258, gk259, gk260, gk261, gk262, gk263, gk264, gk265, gk266, gk267, gk268, gr241_2, gr241_3, gr241_4, gr241_5, gr241_7, gr241_8, gr241_11, gr241_12, gr241_13, gr241_20, gr241_21, gr241_22, gr241_26, gr241_27, gr241_28, gr241_29, gr241_31, gr241_32, gr241_33, gr241_38, gr241_39, gr241_40, gr241_41, gr241_42, gr241_43, gr241_44, gr241_45, gi248, gi249, nI_clamp, gb_lit 1, nI_add, k8 j j hj, sb_b8 _ (h8 j hj).1]
      rfl
    · intro kk
      show fbX11_begins_15 _ 241 (nI n) (gb_mk (gm_cy (gb_u (gb_u I 241 15 (nI n)) 241 14 0) c n) J) = _
      simp only [fbX11_begins_15, gb_lt_d, gb_gd_t, gb_rd_s, gb_bd_s, gb_I_mk, gb_L_mk, gb_sI_mk, gb_sL_mk, gk241, gr241_2, gr241_3, gr241_4, gr241_5, gr241_7, gr241_8, gr241_11, gr241_12, gr241_13, gr241_20, gr241_21, gr241_22, gr241_26, gr241_27, gr241_28, gr241_29, gr241_31, gr241_32, gr241_33, gr241_38, gr241_39, gr241_40, gr241_41, gr241_42, gr241_43, gr241_44, gr241_45, kc n]
      rw [if_pos (show nI n ≤ nI n from nI_le (Nat.le_refl _) (by omega))]
      exact fin
  · rw [gm_tk_o (by decide) (by decide), gm_c0_ne (by decide), gb_u_nk _ _ (by decide), gb_u_nk _ _ (by decide), gb_u_nk _ _ (by decide), gb_u_nk _ _ (by decide)]; exact kc n
  · intro i hi
    rw [gm_tk_r (by decide), gm_c0_ne (by decide), gb_u_row _ _ (by decide), gb_u_row _ _ (by decide), gb_u_row _ _ (by decide), gb_u_row _ _ (by decide), gm_cy_i n hi]
    exact ⟨(h8 i hi).1, rfl⟩
  · rw [gm_tk_o (by decide) (by decide), gm_c0_ne (by decide), gb_u_nk _ _ (by decide), gb_u_nk _ _ (by decide), gb_u_s]
  · rw [gm_tk_r (by decide), gm_c0_i 5 hp, Nat.zero_div]; rfl
  · rw [gm_tk_o (by decide) (by decide), gm_c0_ne (by decide), gb_u_s]; rfl
  · rw [gm_tk_o (by decide) (by decide), gm_c0_ne (by decide), gb_u_nk _ _ (by decide), gb_u_s]; rfl
  · rw [gm_tk_o (by decide) (by decide), gm_c0_ne (by decide), gb_u_nk _ _ (by decide), gb_u_nk _ _ (by decide), gb_u_nk _ _ (by decide), gb_u_nk _ _ (by decide), gm_cy_ne (by decide), gb_u_s]
  · intro x h1 h2 h3
    rw [gm_tk_r h1, gm_c0_ne h2, gb_u_row _ _ h1, gb_u_row _ _ h1, gb_u_row _ _ h1, gb_u_row _ _ h1, gm_cy_ne h3, gb_u_row _ _ h1, gb_u_row _ _ h1]
  · intro k h1 h2 h3 h4 h5 h6 h7
    rw [gm_tk_o h5 h6, gm_c0_ne (by decide), gb_u_nk _ _ h2, gb_u_nk _ _ h1, gb_u_nk _ _ h7, gb_u_nk _ _ h6, gm_cy_ne (by decide), gb_u_nk _ _ h3, gb_u_nk _ _ h4]
/-- the parts read, copied to a bench -/
def gm_cb (I : gb_FI) (b : Nat) : Nat → gb_FI
  | 0 => I
  | i + 1 => gb_u (gm_cb I b i) 243 (128 * b + i) (I 246 i)
theorem gm_cb_ne {m : Nat} (h : m ≠ 243) : ∀ i, gm_cb I b i m = I m
  | 0 => rfl
  | i + 1 => by
    show gb_u (gm_cb I b i) 243 (128 * b + i) _ m = I m
    rw [gb_u_row _ _ h, gm_cb_ne h i]
theorem gm_cb_i {j : Nat} : ∀ i, j < i → gm_cb I b i 243 (128 * b + j) = I 246 j
  | 0, h => absurd h (by omega)
  | i + 1, h => by
    show gb_u (gm_cb I b i) 243 (128 * b + i) _ 243 (128 * b + j) = _
    by_cases e : j = i
    · subst e; rw [gb_u_s]
    · rw [gb_u_nk _ _ (by omega), gm_cb_i i (by omega)]
theorem gm_cb_o {k : Nat} : ∀ i, (k < 128 * b ∨ 128 * b + i ≤ k) → gm_cb I b i 243 k = I 243 k
  | 0, _ => rfl
  | i + 1, h => by
    show gb_u (gm_cb I b i) 243 (128 * b + i) _ 243 k = _
    rw [gb_u_nk _ _ (by omega), gm_cb_o i (by omega)]
theorem m_bench78B {e : Nat} (he : e < 1000) (h : I 241 19 = nI e) (v : Int32) : fbX11_bench_78 241 v (gb_mk I J) = some (-6, gb_mk (gb_u (gb_u I 241 18 (nI e)) 241 0 (-6)) J) := by
  have bd : mBd (gb_u I 241 18 (nI e)) := by unfold mBd; rw [gb_u_nk _ _ (by decide), h]; exact gb_nmi e he
  simp only [fbX11_bench_78, gb_lt_d, gb_gd_t, gb_rd_s, gb_bd_s, gb_I_mk, gb_L_mk, gb_sI_mk, gb_sL_mk, gk241, gr241_2, gr241_3, gr241_4, gr241_5, gr241_7, gr241_8, gr241_11, gr241_12, gr241_13, gr241_20, gr241_21, gr241_22, gr241_26, gr241_27, gr241_28, gr241_29, gr241_31, gr241_32, gr241_33, gr241_38, gr241_39, gr241_40, gr241_41, gr241_42, gr241_43, gr241_44, gr241_45, h, m_goodB bd, if_true, m_ends]
  rfl
theorem m_bench78G (h : I 241 19 = -1) (hb : b < 4) (hm : m ≤ 16) (h9 : I 241 9 = nI m) : fbX11_bench_78 241 (nI b) (gb_mk I J) = some (nI m, gb_mk (gb_u (gm_cb (gb_u (gb_u I 241 18 (-1)) 244 b (nI m)) b (8 * m)) 241 0 0) J) := by
  have g : gb_u I 241 18 (-1) 241 19 = -1 := by rw [gb_u_nk _ _ (by decide)]; exact h
  have n9 : gb_u I 241 18 (-1) 241 9 = nI m := by rw [gb_u_nk _ _ (by decide)]; exact h9
  simp only [fbX11_bench_78, gb_lt_d, gb_gd_t, gb_rd_s, gb_bd_s, gb_I_mk, gb_L_mk, gb_sI_mk, gb_sL_mk, gk241, gr241_2, gr241_3, gr241_4, gr241_5, gr241_7, gr241_8, gr241_11, gr241_12, gr241_13, gr241_20, gr241_21, gr241_22, gr241_26, gr241_27, gr241_28, gr241_29, gr241_31, gr241_32, gr241_33, gr241_38, gr241_39, gr241_40, gr241_41, gr241_42, gr241_43, gr241_44, gr241_45, h, m_goodG g]
  rw [if_neg gb_n10]
  simp (disch := omega) only [gb_lt_d, gb_gd_t, gb_rd_s, gb_bd_s, gb_I_mk, gb_L_mk, gb_sI_mk, gb_sL_mk, gk241, gk242, gk243, gk244, gk245, gk246, gk247, gk248, gk249, gk250, gk251, gk252, gk253, gk254, gk255, gk256, gk257, gk258, gk259, gk260, gk261, gk262, gk263, gk264, gk265, gk266, gk267, gk268, gr241_2, gr241_3, gr241_4, gr241_5, gr241_7, gr241_8, gr241_11, gr241_12, gr241_13, gr241_20, gr241_21, gr241_22, gr241_26, gr241_27, gr241_28, gr241_29, gr241_31, gr241_32, gr241_33, gr241_38, gr241_39, gr241_40, gr241_41, gr241_42, gr241_43, gr241_44, gr241_45, nI_clamp, n9, show gb_in (gb_mk (gb_u I 241 18 (-1)) J) 244 (nI b) = true from gi244 hb]
  have k9 : ∀ i, gm_cb (gb_u (gb_u I 241 18 (-1)) 244 b (nI m)) b i 241 9 = nI m := fun i => by rw [gm_cb_ne (by decide), gb_u_row _ _ (by decide)]; exact n9
  have k6 : ∀ i j, gm_cb (gb_u (gb_u I 241 18 (-1)) 244 b (nI m)) b i 246 j = gb_u (gb_u I 241 18 (-1)) 244 b (nI m) 246 j := fun i j => by rw [gm_cb_ne (by decide)]
  generalize gb_u (gb_u I 241 18 (-1)) 244 b (nI m) = K at *
  have e8 : (8 : Int32) * nI m = nI (8 * m) := gb_nI_mul 8 m
  have e128 : (128 : Int32) * nI b = nI (128 * b) := gb_nI_mul 128 b
  simp only [lpX11_bench_112]
  refine gb_forF (fun i => (241, nI b, nI i, gb_mk (gm_cb K b i) J)) (8 * m) (by omega) ?_ ?_
  · intro j hj kk
    simp only [fbX11_bench_112, gb_lt_d, gb_gd_t, gb_rd_s, gb_bd_s, gb_I_mk, gb_L_mk, gb_sI_mk, gb_sL_mk, gk241, gr241_2, gr241_3, gr241_4, gr241_5, gr241_7, gr241_8, gr241_11, gr241_12, gr241_13, gr241_20, gr241_21, gr241_22, gr241_26, gr241_27, gr241_28, gr241_29, gr241_31, gr241_32, gr241_33, gr241_38, gr241_39, gr241_40, gr241_41, gr241_42, gr241_43, gr241_44, gr241_45, k9 j, e8]
    rw [if_neg (show ¬ nI (8 * m) ≤ nI j from nI_ge hj (by omega))]
    simp (disch := omega) only [gb_lt_d, gb_gd_t, gb_rd_s, gb_bd_s, gb_I_mk, gb_L_mk, gb_sI_mk, gb_sL_mk, gk241, gk242, gk243, gk244, gk245, gk246, gk247, gk248, gk249, gk250, gk251, gk252, gk253, gk254, gk255, gk256, gk257, gk258, gk259, gk260, gk261, gk262, gk263, gk264, gk265, gk266, gk267, gk268, gr241_2, gr241_3, gr241_4, gr241_5, gr241_7, gr241_8, gr241_11, gr241_12, gr241_13, gr241_20, gr241_21, gr241_22, gr241_26, gr241_27, gr241_28, gr241_29, gr241_31, gr241_32, gr241_33, gr241_38, gr241_39, gr241_40, gr241_41, gr241_42, gr241_43, gr241_44, gr241_45, gi246, gi243, nI_clamp, e128, nI_add, gb_lit 1, k6 j j]
    rfl
  · intro kk
    show fbX11_bench_112 _ 241 (nI b) (nI (8 * m)) (gb_mk (gm_cb K b (8 * m)) J) = _
    simp only [fbX11_bench_112, gb_lt_d, gb_gd_t, gb_rd_s, gb_bd_s, gb_I_mk, gb_L_mk, gb_sI_mk, gb_sL_mk, gk241, gr241_2, gr241_3, gr241_4, gr241_5, gr241_7, gr241_8, gr241_11, gr241_12, gr241_13, gr241_20, gr241_21, gr241_22, gr241_26, gr241_27, gr241_28, gr241_29, gr241_31, gr241_32, gr241_33, gr241_38, gr241_39, gr241_40, gr241_41, gr241_42, gr241_43, gr241_44, gr241_45, k9 (8 * m), e8, m_ends]
    rw [if_pos (show nI (8 * m) ≤ nI (8 * m) from nI_le (Nat.le_refl _) (by omega)), if_pos (nI_pos' (by omega))]
end MBENCH2
