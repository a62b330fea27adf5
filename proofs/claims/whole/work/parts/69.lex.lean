section LEX2
variable {I I' : gb_FI} {J J' : gb_FJ} {c : Nat → Nat} {n : Nat}
theorem gb_nI_sub {a b : Nat} (h : b ≤ a) : nI a - nI b = nI (a - b) := by
  have e : nI a = nI (a - b) + nI b := by rw [nI_add, show a - b + b = a by omega]
  rw [e]
  grind
theorem gb_nI_mul (a b : Nat) : nI a * nI b = nI (a * b) := (Int32.ofNat_mul a b).symm
def gb_tk (I : gb_FI) (s e : Nat) (v : Int32) : gb_FI := gb_u (gb_u (gb_u I 3 2 (nI s)) 3 3 (nI e)) 3 4 v
theorem gb_tk_2 {s e : Nat} {v : Int32} : gb_tk I s e v 3 2 = nI s := by
  unfold gb_tk; rw [gb_u_nk _ _ (by decide), gb_u_nk _ _ (by decide), gb_u_s]
theorem gb_tk_3 {s e : Nat} {v : Int32} : gb_tk I s e v 3 3 = nI e := by
  unfold gb_tk; rw [gb_u_nk _ _ (by decide), gb_u_s]
theorem gb_tk_4 {s e : Nat} {v : Int32} : gb_tk I s e v 3 4 = v := by
  unfold gb_tk; rw [gb_u_s]
theorem gb_tk_r {s e m : Nat} {v : Int32} (h : m ≠ 3) : gb_tk I s e v m = I m := by
  unfold gb_tk; rw [gb_u_row _ _ h, gb_u_row _ _ h, gb_u_row _ _ h]
theorem gb_tk_o {s e k : Nat} {v : Int32} (h : k < 2 ∨ 4 < k) : gb_tk I s e v 3 k = I 3 k := by
  unfold gb_tk; rw [gb_u_nk _ _ (by omega), gb_u_nk _ _ (by omega), gb_u_nk _ _ (by omega)]
theorem gb_tk_u4 {s e : Nat} {v v' : Int32} : gb_u (gb_tk I s e v) 3 4 v' = gb_tk I s e v' := by
  unfold gb_tk; rw [gb_uu]
theorem gb_u_comm (f : gb_FI) {m k j : Nat} (x y : Int32) (h : k ≠ j) : gb_u (gb_u f m k x) m j y = gb_u (gb_u f m j y) m k x := by
  funext a b
  rw [gb_u1, gb_u1, gb_u1, gb_u1]
  by_cases p : a = m ∧ b = j
  · rw [if_pos p, if_neg (fun q => h (q.2.symm.trans p.2)), if_pos p]
  · rw [if_neg p, if_neg p]
theorem gb_tk_u3 {s e e' : Nat} {v : Int32} : gb_u (gb_tk I s e v) 3 3 (nI e') = gb_tk I s e' v := by
  unfold gb_tk
  rw [gb_u_comm _ _ _ (by decide), gb_uu]
theorem xTp.tk (h : xTp I c n) {s e : Nat} {v : Int32} : xTp (gb_tk I s e v) c n := by
  obtain ⟨a, b, d⟩ := h
  exact ⟨a, by rw [gb_tk_r (by decide)]; exact b, fun i hi => by rw [gb_tk_r (by decide)]; exact d i hi⟩
theorem xTp.u2 (h : xTp I c n) {k : Nat} {v : Int32} : xTp (gb_u I 3 k v) c n := by
  obtain ⟨a, b, d⟩ := h
  exact ⟨a, by rw [gb_u_row _ _ (by decide)]; exact b, fun i hi => by rw [gb_u_row _ _ (by decide)]; exact d i hi⟩
/-- the digits' loop -/
theorem x_adv99 (h : xTp I c n) {s : Nat} (hs : s ≤ n) : lpX7_advance_99 gb_FU 3 (nI n) (gb_mk (gb_tk I s s 0) J) = some ((), gb_mk (gb_tk I s (gt_w (gt_dg c) n s) (nI (gt_d c s (gt_w (gt_dg c) n s - s)))) J) := by
  have hn := h.1
  have e0 : gb_tk I s s 0 = gb_tk I s s (nI (gt_d c s (s - s))) := by rw [Nat.sub_self]; rfl
  rw [e0]
  simp only [lpX7_advance_99]
  refine gb_whl (fun p => (3, nI n, gb_mk (gb_tk I s p (nI (gt_d c s (p - s)))) J)) (gt_dg c) n s hs (by omega) ?_ ?_
  · intro p k h1 h2 hq
    obtain ⟨b1, b2⟩ := h.2.2 p h2
    have hd : 48 ≤ c p ∧ c p ≤ 57 := by simpa [gt_dg] using hq
    have le := gt_d_le c s (p - s)
    have e2 : ∀ v, gb_tk I s p v 2 p = nI (c p) := fun v => by rw [gb_tk_r (by decide)]; exact b2
    have e3 : nI (gt_d c s (p - s)) * 10 + nI (c p) - 48 = nI (gt_d c s (p - s) * 10 + (c p - 48)) := by
      rw [gb_lit 10, gb_lit 48, gb_nI_mul, nI_add, gb_nI_sub (by omega)]
      congr 1
      omega
    have e4 : (if (1000 : Int32) < nI (gt_d c s (p - s) * 10 + (c p - 48)) then (1000 : Int32) else nI (gt_d c s (p - s) * 10 + (c p - 48))) = nI (gt_d c s (p + 1 - s)) := by
      rw [show p + 1 - s = (p - s) + 1 by omega, gt_d, show s + (p - s) = p by omega]
      by_cases q : 1000 < gt_d c s (p - s) * 10 + (c p - 48)
      · rw [if_pos (show (1000 : Int32) < _ from nI_lt (a := 1000) q (by omega)), Nat.min_eq_right (by omega)]
        rfl
      · rw [if_neg (show ¬ (1000 : Int32) < _ from nI_nlt (a := 1000) (by omega) (by omega)), Nat.min_eq_left (by omega)]
    simp only [fbX7_advance_99]
    simp (disch := omega) only [gb_lt_d, gb_gd_t, gb_rd_s, gb_bd_s, gb_I_mk, gb_L_mk, gb_sI_mk, gb_sL_mk, gk3, gr3_0, gr3_1, gk1, gr1_0, gk2, gb_tk_3, gb_tk_4]
    rw [if_neg (show ¬ nI n ≤ nI p from nI_ge h2 (by omega))]
    simp (disch := omega) only [gb_lt_d, gb_gd_t, gb_rd_s, gb_bd_s, gb_I_mk, gb_L_mk, gb_sI_mk, gb_sL_mk, gk3, gr3_0, gr3_1, gk1, gr1_0, gk2, gb_tk_3, gb_tk_4, gi2, nI_clamp, e2, x_isDigit b1, if_pos hd, e3, e4, gb_tk_u4, gb_lit 1, nI_add, gb_tk_u3]
    rw [if_neg (show ¬ nI 1 = 0 by decide)]
  · intro k
    obtain ⟨a1, a2, a3, a4⟩ := gt_w_s (Q := gt_dg c) hs
    generalize gt_w (gt_dg c) n s = p at *
    show fbX7_advance_99 _ 3 (nI n) (gb_mk (gb_tk I s p (nI (gt_d c s (p - s)))) J) = _
    simp only [fbX7_advance_99, fbX7_advance_171]
    simp (disch := omega) only [gb_lt_d, gb_gd_t, gb_rd_s, gb_bd_s, gb_I_mk, gb_L_mk, gb_sI_mk, gb_sL_mk, gk3, gr3_0, gr3_1, gk1, gr1_0, gk2, gb_tk_3, gb_tk_4]
    by_cases q : p < n
    · rw [if_neg (show ¬ nI n ≤ nI p from nI_ge q (by omega))]
      obtain ⟨b1, b2⟩ := h.2.2 p q
      have hd : ¬ (48 ≤ c p ∧ c p ≤ 57) := by simpa [gt_dg] using a4 q
      have e2 : ∀ v, gb_tk I s p v 2 p = nI (c p) := fun v => by rw [gb_tk_r (by decide)]; exact b2
      simp (disch := omega) only [gb_lt_d, gb_gd_t, gb_rd_s, gb_bd_s, gb_I_mk, gb_L_mk, gb_sI_mk, gb_sL_mk, gk3, gr3_0, gr3_1, gk1, gr1_0, gk2, gb_tk_3, gb_tk_4, gi2, nI_clamp, e2, x_isDigit b1, if_neg hd, if_true]
    · rw [if_pos (show nI n ≤ nI p from nI_le (by omega) (by omega))]
/-- the letters' loop -/
theorem x_adv200 (h : xTp I c n) {s s0 : Nat} {v : Int32} (hs : s ≤ n) : lpX7_advance_200 gb_FU 3 (nI n) (gb_mk (gb_tk I s0 s v) J) = some ((), gb_mk (gb_tk I s0 (gt_w (gt_lt c) n s) v) J) := by
  have hn := h.1
  simp only [lpX7_advance_200]
  refine gb_whl (fun p => (3, nI n, gb_mk (gb_tk I s0 p v) J)) (gt_lt c) n s hs (by omega) ?_ ?_
  · intro p k h1 h2 hq
    obtain ⟨b1, b2⟩ := h.2.2 p h2
    have hd : 97 ≤ c p ∧ c p ≤ 122 := by simpa [gt_lt] using hq
    have e2 : ∀ v, gb_tk I s0 p v 2 p = nI (c p) := fun v => by rw [gb_tk_r (by decide)]; exact b2
    simp only [fbX7_advance_200]
    simp (disch := omega) only [gb_lt_d, gb_gd_t, gb_rd_s, gb_bd_s, gb_I_mk, gb_L_mk, gb_sI_mk, gb_sL_mk, gk3, gr3_0, gr3_1, gk1, gr1_0, gk2, gb_tk_3, gb_tk_4]
    rw [if_neg (show ¬ nI n ≤ nI p from nI_ge h2 (by omega))]
    simp (disch := omega) only [gb_lt_d, gb_gd_t, gb_rd_s, gb_bd_s, gb_I_mk, gb_L_mk, gb_sI_mk, gb_sL_mk, gk3, gr3_0, gr3_1, gk1, gr1_0, gk2, gb_tk_3, gb_tk_4, gi2, nI_clamp, e2, x_isLetter b1, if_pos hd, gb_lit 1, nI_add, gb_tk_u3]
    rw [if_neg (show ¬ nI 1 = 0 by decide)]
  · intro k
    obtain ⟨a1, a2, a3, a4⟩ := gt_w_s (Q := gt_lt c) hs
    generalize gt_w (gt_lt c) n s = p at *
    show fbX7_advance_200 _ 3 (nI n) (gb_mk (gb_tk I s0 p v) J) = _
    simp only [fbX7_advance_200, fbX7_advance_239]
    simp (disch := omega) only [gb_lt_d, gb_gd_t, gb_rd_s, gb_bd_s, gb_I_mk, gb_L_mk, gb_sI_mk, gb_sL_mk, gk3, gr3_0, gr3_1, gk1, gr1_0, gk2, gb_tk_3, gb_tk_4]
    by_cases q : p < n
    · rw [if_neg (show ¬ nI n ≤ nI p from nI_ge q (by omega))]
      obtain ⟨b1, b2⟩ := h.2.2 p q
      have hd : ¬ (97 ≤ c p ∧ c p ≤ 122) := by simpa [gt_lt] using a4 q
      have e2 : ∀ v, gb_tk I s0 p v 2 p = nI (c p) := fun v => by rw [gb_tk_r (by decide)]; exact b2
      simp (disch := omega) only [gb_lt_d, gb_gd_t, gb_rd_s, gb_bd_s, gb_I_mk, gb_L_mk, gb_sI_mk, gb_sL_mk, gk3, gr3_0, gr3_1, gk1, gr1_0, gk2, gb_tk_3, gb_tk_4, gi2, nI_clamp, e2, x_isLetter b1, if_neg hd, if_true]
    · rw [if_pos (show nI n ≤ nI p from nI_le (by omega) (by omega))]
end LEX2
