section LEX3
variable {I I' : gb_FI} {J J' : gb_FJ} {c : Nat → Nat} {n s : Nat}
theorem x_adv54 (h : xTp I c n) {s : Nat} (hs : s ≤ n) (h2 : I 3 2 = nI s) : fbX7_advance_54 3 (nI n) (gb_mk I J) = some ((), gb_mk (gb_tk I s (gt_e c n s) (gt_v c n s)) J) := by
  have hn := h.1
  have e0 : gb_u (gb_u I 3 3 (I 3 2)) 3 4 (-1) = gb_tk I s s (-1) := by
    unfold gb_tk
    rw [h2]
    congr 2
    funext a b
    rw [gb_u1]
    split
    · rename_i q; rw [q.1, q.2, h2]
    · rfl
  have e2 : ∀ e v, gb_tk I s e v 3 2 = nI s := fun e v => gb_tk_2
  unfold gt_v gt_e
  simp only [fbX7_advance_54]
  simp (disch := omega) only [gb_lt_d, gb_gd_t, gb_rd_s, gb_bd_s, gb_I_mk, gb_L_mk, gb_sI_mk, gb_sL_mk, gk3, gr3_0, gr3_1, gk1, gr1_0, gk2, e0, e2]
  by_cases q : s < n
  · rw [if_pos (show nI s < nI n from nI_lt q (by omega)), if_pos q]
    obtain ⟨b1, b2⟩ := h.2.2 s q
    have e3 : ∀ e v, gb_tk I s e v 2 s = nI (c s) := fun e v => by rw [gb_tk_r (by decide)]; exact b2
    by_cases d : gt_dg c s = true
    · have d' : 48 ≤ c s ∧ c s ≤ 57 := by simpa [gt_dg] using d
      simp (disch := omega) only [gb_lt_d, gb_gd_t, gb_rd_s, gb_bd_s, gb_I_mk, gb_L_mk, gb_sI_mk, gb_sL_mk, gk3, gr3_0, gr3_1, gk1, gr1_0, gk2, e2, e3, gi2, nI_clamp, x_isDigit b1, if_pos d', gb_tk_u4, x_adv99 h hs]
      rw [if_neg gb_n10, if_pos d, if_pos ⟨q, d⟩]
    · have d' : ¬ (48 ≤ c s ∧ c s ≤ 57) := by simpa [gt_dg] using d
      rw [if_neg d, if_neg (show ¬ (s < n ∧ gt_dg c s = true) from fun w => d w.2)]
      by_cases l : gt_lt c s = true
      · have l' : 97 ≤ c s ∧ c s ≤ 122 := by simpa [gt_lt] using l
        simp (disch := omega) only [gb_lt_d, gb_gd_t, gb_rd_s, gb_bd_s, gb_I_mk, gb_L_mk, gb_sI_mk, gb_sL_mk, gk3, gr3_0, gr3_1, gk1, gr1_0, gk2, e2, e3, gi2, nI_clamp, x_isDigit b1, x_isLetter b1, if_neg d', if_pos l', if_true, gb_tk_3, gb_lit 1, nI_add, gb_tk_u3, x_adv200 h (show s + 1 ≤ n from q)]
        rw [if_neg (show ¬ nI 1 = 0 by decide), if_pos l, gt_w_1 q l]
      · have l' : ¬ (97 ≤ c s ∧ c s ≤ 122) := by simpa [gt_lt] using l
        simp (disch := omega) only [gb_lt_d, gb_gd_t, gb_rd_s, gb_bd_s, gb_I_mk, gb_L_mk, gb_sI_mk, gb_sL_mk, gk3, gr3_0, gr3_1, gk1, gr1_0, gk2, e2, e3, gi2, nI_clamp, x_isDigit b1, x_isLetter b1, if_neg d', if_neg l', if_true, gb_tk_3, gb_lit 1, nI_add, gb_tk_u3, fbX7_advance_239]
        rw [if_neg l]
  · rw [if_neg (show ¬ nI s < nI n from nI_nlt (by omega) (by omega)), if_neg q, if_neg (fun w => q w.1)]
theorem x_advance (h : xTp I c n) {e : Nat} (he : e ≤ n) (h3 : I 3 3 = nI e) : fnX7_advance 3 (gb_mk I J) = some ((), gb_mk (gb_tk I (gt_s c n e) (gt_e c n (gt_s c n e)) (gt_v c n (gt_s c n e))) J) := by
  have hn := h.1
  obtain ⟨a1, a2, a3, a4⟩ := gt_w_s (Q := gt_sp c) he
  have fin : ∀ p, p ≤ n → fbX7_advance_54 3 (nI n) (gb_mk (gb_u I 3 2 (nI p)) J) = some ((), gb_mk (gb_tk I p (gt_e c n p) (gt_v c n p)) J) := fun p hp => by
    rw [x_adv54 h.u2 hp (gb_u_s _ _ _ _)]
    unfold gb_tk
    rw [gb_uu]
  simp only [fnX7_advance]
  simp (disch := omega) only [gb_lt_d, gb_gd_t, gb_rd_s, gb_bd_s, gb_I_mk, gb_L_mk, gb_sI_mk, gb_sL_mk, gk3, gr3_0, gr3_1, gk1, gr1_0, gk2, h.2.1, h3]
  simp only [lpX7_advance_16]
  refine gb_whl (fun p => (3, nI n, gb_mk (gb_u I 3 2 (nI p)) J)) (gt_sp c) n e he (by omega) ?_ ?_
  · intro p k h1 h2 hq
    obtain ⟨b1, b2⟩ := h.2.2 p h2
    have hd : c p = 32 := by simpa [gt_sp] using hq
    have e2 : gb_u I 3 2 (nI p) 2 p = nI (c p) := by rw [gb_u_row _ _ (by decide)]; exact b2
    simp only [fbX7_advance_16]
    simp (disch := omega) only [gb_lt_d, gb_gd_t, gb_rd_s, gb_bd_s, gb_I_mk, gb_L_mk, gb_sI_mk, gb_sL_mk, gk3, gr3_0, gr3_1, gk1, gr1_0, gk2, gb_u_s]
    rw [if_neg (show ¬ nI n ≤ nI p from nI_ge h2 (by omega))]
    simp (disch := omega) only [gb_lt_d, gb_gd_t, gb_rd_s, gb_bd_s, gb_I_mk, gb_L_mk, gb_sI_mk, gb_sL_mk, gk3, gr3_0, gr3_1, gk1, gr1_0, gk2, gb_u_s, gi2, nI_clamp, e2, hd, gb_uu, gb_lit 1, nI_add]
    rw [if_pos (show nI 32 = 32 from rfl)]
  · intro k
    rw [show gt_s c n e = gt_w (gt_sp c) n e from rfl]
    generalize gt_w (gt_sp c) n e = p at *
    show fbX7_advance_16 _ 3 (nI n) (gb_mk (gb_u I 3 2 (nI p)) J) = _
    simp only [fbX7_advance_16]
    simp (disch := omega) only [gb_lt_d, gb_gd_t, gb_rd_s, gb_bd_s, gb_I_mk, gb_L_mk, gb_sI_mk, gb_sL_mk, gk3, gr3_0, gr3_1, gk1, gr1_0, gk2, gb_u_s]
    by_cases q : p < n
    · rw [if_neg (show ¬ nI n ≤ nI p from nI_ge q (by omega))]
      obtain ⟨b1, b2⟩ := h.2.2 p q
      have hd : ¬ c p = 32 := by simpa [gt_sp] using a4 q
      have e2 : gb_u I 3 2 (nI p) 2 p = nI (c p) := by rw [gb_u_row _ _ (by decide)]; exact b2
      simp (disch := omega) only [gb_lt_d, gb_gd_t, gb_rd_s, gb_bd_s, gb_I_mk, gb_L_mk, gb_sI_mk, gb_sL_mk, gk3, gr3_0, gr3_1, gk1, gr1_0, gk2, gb_u_s, gi2, nI_clamp, e2]
      rw [if_neg (show ¬ nI (c p) = 32 from fun w => hd ((nI_eq (b := 32) (by omega) (by omega)).mp w))]
      exact fin p a2
    · rw [if_pos (show nI n ≤ nI p from nI_le (by omega) (by omega))]
      exact fin p a2
/-- to the next token -/
theorem x_adv (h : xRd I c n s) : ∃ I', fnX7_advance 3 (gb_mk I J) = some ((), gb_mk I' J) ∧ xRd I' c n (gt_n c n s) ∧ (∀ m, m ≠ 3 → I' m = I m) ∧ ∀ k, (k < 2 ∨ 4 < k) → I' 3 k = I 3 k := by
  obtain ⟨t, hs, h2, h3, h4⟩ := h
  have es := gt_e_s (c := c) hs
  exact ⟨_, x_advance t es.2.1 h3, ⟨t.tk, (gt_w_s es.2.1).2.1, gb_tk_2, gb_tk_3, gb_tk_4⟩, fun m hm => gb_tk_r hm, fun k hk => gb_tk_o hk⟩
theorem x_atEnd (h : xRd I c n s) : fnX7_atEnd 3 (gb_mk I J) = some (if s < n then 0 else 1, gb_mk I J) := by
  obtain ⟨t, hs, h2, h3, h4⟩ := h
  have hn := t.1
  simp only [fnX7_atEnd, fbX7_atEnd_19]
  simp (disch := omega) only [gb_lt_d, gb_gd_t, gb_rd_s, gb_bd_s, gb_I_mk, gb_L_mk, gb_sI_mk, gb_sL_mk, gk3, gr3_0, gr3_1, gk1, gr1_0, gk2, h2, t.2.1]
  by_cases q : s < n
  · rw [if_pos (show nI s < nI n from nI_lt q (by omega)), if_pos q]; rfl
  · rw [if_neg (show ¬ nI s < nI n from nI_nlt (by omega) (by omega)), if_neg q]; rfl
end LEX3
