section MLEX
variable {I I' I1 I2 : gb_FI} {J J' : gb_FJ} {c : Nat → Nat} {n s cs : Nat}
theorem sb_97 : ∀ v, v < 256 → (sb_b v < 97 ↔ (v < 97 ∨ 128 ≤ v)) := by decide +kernel
theorem sb_122 : ∀ v, v < 256 → ((122 : Int32) < sb_b v ↔ (122 < v ∧ v < 128)) := by decide +kernel
theorem sb_48 : ∀ v, v < 256 → (sb_b v < 48 ↔ (v < 48 ∨ 128 ≤ v)) := by decide +kernel
theorem sb_57 : ∀ v, v < 256 → ((57 : Int32) < sb_b v ↔ (57 < v ∧ v < 128)) := by decide +kernel
theorem sb_32 : ∀ v, v < 256 → (sb_b v = 32 ↔ v = 32) := by decide +kernel
theorem sb_61 : ∀ v, v < 256 → (sb_b v = 61 ↔ v = 61) := by decide +kernel
theorem sb_59 : ∀ v, v < 256 → (sb_b v = 59 ↔ v = 59) := by decide +kernel
theorem sb_low : ∀ v, v < 128 → sb_b v = nI v := by decide +kernel
theorem sb_L : ∀ v, v < 256 → 128 ≤ v → (sb_b v).toInt64 < 0 := by decide +kernel
theorem sb_LN {v w : Nat} (hv : v < 256) (hw : w < 128) : (sb_b v).toInt64 = lN w ↔ v = w := by
  by_cases h : v < 128
  · rw [sb_low v h, nI_l (by omega)]
    exact lN_eq (by omega) (by omega)
  · refine ⟨fun e => ?_, fun e => absurd e (by omega)⟩
    have a := sb_L v hv (by omega)
    rw [e, show (0 : Int64) = lN 0 from rfl, lN_lt (by omega) (by omega)] at a
    omega
/-- the tape as the reference reads it -/
def mTp (I : gb_FI) (c : Nat → Nat) (n : Nat) : Prop := n ≤ 400 ∧ I 241 15 = nI n ∧ ∀ i, i < n → c i < 256 ∧ I 249 i = sb_b (c i)
def mRd (I : gb_FI) (c : Nat → Nat) (n s : Nat) : Prop := mTp I c n ∧ s ≤ n ∧ I 241 16 = nI s ∧ I 241 17 = nI (gt_e c n s)
theorem m_isLt (t : mTp I c n) {p : Nat} (hp : p ≤ n) : fnX11_isIn 241 (nI p) 97 122 (gb_mk I J) = some (if p < n ∧ gt_lt c p = true then 1 else 0, gb_mk I J) := by
  obtain ⟨t1, t2, t3⟩ := t
  simp only [fnX11_isIn, fbX11_isIn_32, fbX11_isIn_33, gb_lt_d, gb_gd_t, gb_rd_s, gb_bd_s, gb_I_mk, gb_L_mk, gb_sI_mk, gb_sL_mk, gk241, gk242, gk243, gk244, gk245, gk246, gk247, gk248, gk249, gk250, gk251, gk252, gk253, gk254, gk255, gk256, gk257, gk258, gk259, gk260, gk261, gk262, gk263, gk264, gk265, gk266, gk267, gk268, gr241_2, gr241_3, gr241_4, gr241_5, gr241_7, gr241_8, gr241_11, gr241_12, gr241_13, gr241_20, gr241_21, gr241_22, gr241_26, gr241_27, gr241_28, gr241_29, gr241_31, gr241_32, gr241_33, gr241_38, gr241_39, gr241_40, gr241_41, gr241_42, gr241_43, gr241_44, gr241_45, t2]
  by_cases q : p < n
  · rw [if_neg (show ¬ nI n ≤ nI p from nI_ge q (by omega))]
    obtain ⟨b1, b2⟩ := t3 p q
    simp (disch := omega) only [gb_lt_d, gb_gd_t, gb_rd_s, gb_bd_s, gb_I_mk, gb_L_mk, gb_sI_mk, gb_sL_mk, gk241, gk242, gk243, gk244, gk245, gk246, gk247, gk248, gk249, gk250, gk251, gk252, gk253, gk254, gk255, gk256, gk257, gk258, gk259, gk260, gk261, gk262, gk263, gk264, gk265, gk266, gk267, gk268, gr241_2, gr241_3, gr241_4, gr241_5, gr241_7, gr241_8, gr241_11, gr241_12, gr241_13, gr241_20, gr241_21, gr241_22, gr241_26, gr241_27, gr241_28, gr241_29, gr241_31, gr241_32, gr241_33, gr241_38, gr241_39, gr241_40, gr241_41, gr241_42, gr241_43, gr241_44, gr241_45, gi249, nI_clamp, b2]
    by_cases a : sb_b (c p) < 97
    · rw [if_pos a, if_neg (fun w => by
        have := (sb_97 _ b1).mp a
        have := w.2
        simp [gt_lt] at this
        omega)]
      rfl
    · rw [if_neg a]
      by_cases b : (122 : Int32) < sb_b (c p)
      · rw [if_pos b, if_neg (fun w => by
          have := (sb_122 _ b1).mp b
          have := w.2
          simp [gt_lt] at this
          omega)]
        rfl
      · rw [if_neg b, if_pos ⟨q, by
          have h1 : ¬ (c p < 97 ∨ 128 ≤ c p) := fun w => a ((sb_97 _ b1).mpr w)
          have h2 : ¬ (122 < c p ∧ c p < 128) := fun w => b ((sb_122 _ b1).mpr w)
          simp [gt_lt]
          omega⟩]
        rfl
  · rw [if_pos (show nI n ≤ nI p from nI_le (by omega) (by omega)), if_neg (fun w => q w.1)]
    rfl
theorem m_isDg (t : mTp I c n) {p : Nat} (hp : p ≤ n) : fnX11_isIn 241 (nI p) 48 57 (gb_mk I J) = some (if p < n ∧ gt_dg c p = true then 1 else 0, gb_mk I J) := by
  obtain ⟨t1, t2, t3⟩ := t
  simp only [fnX11_isIn, fbX11_isIn_32, fbX11_isIn_33, gb_lt_d, gb_gd_t, gb_rd_s, gb_bd_s, gb_I_mk, gb_L_mk, gb_sI_mk, gb_sL_mk, gk241, gk242, gk243, gk244, gk245, gk246, gk247, gk248, gk249, gk250, gk251, gk252, gk253, gk254, gk255, gk256, gk257, gk258, gk259, gk260, gk261, gk262, gk263, gk264, gk265, gk266, gk267, gk268, gr241_2, gr241_3, gr241_4, gr241_5, gr241_7, gr241_8, gr241_11, gr241_12, gr241_13, gr241_20, gr241_21, gr241_22, gr241_26, gr241_27, gr241_28, gr241_29, gr241_31, gr241_32, gr241_33, gr241_38, gr241_39, gr241_40, gr241_41, gr241_42, gr241_43, gr241_44, gr241_45, t2]
  by_cases q : p < n
  · rw [if_neg (show ¬ nI n ≤ nI p from nI_ge q (by omega))]
    obtain ⟨b1, b2⟩ := t3 p q
    simp (disch := omega) only [gb_lt_d, gb_gd_t, gb_rd_s, gb_bd_s, gb_I_mk, gb_L_mk, gb_sI_mk, gb_sL_mk, gk241, gk242, gk243, gk244, gk245, gk246, gk247, gk248, gk249, gk250, gk251, gk252, gk253, gk254, gk255, gk256, gk257, gk258, gk259, gk260, gk261, gk262, gk263, gk264, gk265, gk266, gk267, gk268, gr241_2, gr241_3, gr241_4, gr241_5, gr241_7, gr241_8, gr241_11, gr241_12, gr241_13, gr241_20, gr241_21, gr241_22, gr241_26, gr241_27, gr241_28, gr241_29, gr241_31, gr241_32, gr241_33, gr241_38, gr241_39, gr241_40, gr241_41, gr241_42, gr241_43, gr241_44, gr241_45, gi249, nI_clamp, b2]
    by_cases a : sb_b (c p) < 48
    · rw [if_pos a, if_neg (fun w => by
        have := (sb_48 _ b1).mp a
        have := w.2
        simp [gt_dg] at this
        omega)]
      rfl
    · rw [if_neg a]
      by_cases b : (57 : Int32) < sb_b (c p)
      · rw [if_pos b, if_neg (fun w => by
          have := (sb_57 _ b1).mp b
          have := w.2
          simp [gt_dg] at this
          omega)]
        rfl
      · rw [if_neg b, if_pos ⟨q, by
          have h1 : ¬ (c p < 48 ∨ 128 ≤ c p) := fun w => a ((sb_48 _ b1).mpr w)
          have h2 : ¬ (57 < c p ∧ c p < 128) := fun w => b ((sb_57 _ b1).mpr w)
          simp [gt_dg]
          omega⟩]
        rfl
  · rw [if_pos (show nI n ≤ nI p from nI_le (by omega) (by omega)), if_neg (fun w => q w.1)]
    rfl
def gm_tk (I : gb_FI) (s e : Nat) : gb_FI := gb_u (gb_u I 241 16 (nI s)) 241 17 (nI e)
theorem gm_tk_16 {s e : Nat} : gm_tk I s e 241 16 = nI s := by unfold gm_tk; rw [gb_u_nk _ _ (by decide), gb_u_s]
theorem gm_tk_17 {s e : Nat} : gm_tk I s e 241 17 = nI e := gb_u_s _ _ _ _
theorem gm_tk_r {s e m : Nat} (h : m ≠ 241) : gm_tk I s e m = I m := by unfold gm_tk; rw [gb_u_row _ _ h, gb_u_row _ _ h]
theorem gm_tk_o {s e k : Nat} (h : k ≠ 16) (h' : k ≠ 17) : gm_tk I s e 241 k = I 241 k := by unfold gm_tk; rw [gb_u_nk _ _ h', gb_u_nk _ _ h]
theorem gm_tk_u {s e e' : Nat} : gb_u (gm_tk I s e) 241 17 (nI e') = gm_tk I s e' := by unfold gm_tk; rw [gb_uu]
theorem mTp.tk (h : mTp I c n) {s e : Nat} : mTp (gm_tk I s e) c n := by
  obtain ⟨a, b, d⟩ := h
  exact ⟨a, by rw [gm_tk_o (by decide) (by decide)]; exact b, fun i hi => by rw [gm_tk_r (by decide)]; exact d i hi⟩
theorem mTp.u (h : mTp I c n) {k : Nat} {v : Int32} (hk : k ≠ 15) : mTp (gb_u I 241 k v) c n := by
  obtain ⟨a, b, d⟩ := h
  exact ⟨a, by rw [gb_u_nk _ _ (by omega)]; exact b, fun i hi => by rw [gb_u_row _ _ (by decide)]; exact d i hi⟩
theorem m_next81 (t : mTp I c n) {s s0 : Nat} (hs : s ≤ n) : lpX11_next_81 gb_FU 241 (gb_mk (gm_tk I s0 s) J) = some ((), gb_mk (gm_tk I s0 (gt_w (gt_lt c) n s)) J) := by
  have hn := t.1
  simp only [lpX11_next_81]
  refine gb_whl (fun p => (241, gb_mk (gm_tk I s0 p) J)) (gt_lt c) n s hs (by omega) ?_ ?_
  · intro p k h1 h2 hq
    simp only [fbX11_next_81, gb_lt_d, gb_gd_t, gb_rd_s, gb_bd_s, gb_I_mk, gb_L_mk, gb_sI_mk, gb_sL_mk, gk241, gr241_2, gr241_3, gr241_4, gr241_5, gr241_7, gr241_8, gr241_11, gr241_12, gr241_13, gr241_20, gr241_21, gr241_22, gr241_26, gr241_27, gr241_28, gr241_29, gr241_31, gr241_32, gr241_33, gr241_38, gr241_39, gr241_40, gr241_41, gr241_42, gr241_43, gr241_44, gr241_45, gm_tk_17, m_isLt t.tk (show p ≤ n by omega), if_pos (show p < n ∧ gt_lt c p = true from ⟨h2, hq⟩)]
    rw [if_neg gb_n10, gb_lit 1, nI_add, gm_tk_u]
  · intro k
    obtain ⟨a1, a2, a3, a4⟩ := gt_w_s (Q := gt_lt c) hs
    generalize gt_w (gt_lt c) n s = p at *
    simp only [fbX11_next_81, fbX11_next_162, gb_lt_d, gb_gd_t, gb_rd_s, gb_bd_s, gb_I_mk, gb_L_mk, gb_sI_mk, gb_sL_mk, gk241, gr241_2, gr241_3, gr241_4, gr241_5, gr241_7, gr241_8, gr241_11, gr241_12, gr241_13, gr241_20, gr241_21, gr241_22, gr241_26, gr241_27, gr241_28, gr241_29, gr241_31, gr241_32, gr241_33, gr241_38, gr241_39, gr241_40, gr241_41, gr241_42, gr241_43, gr241_44, gr241_45, gm_tk_17, m_isLt t.tk (show p ≤ n by omega)]
    rw [if_neg (show ¬ (p < n ∧ gt_lt c p = true) from fun w => by rw [a4 w.1] at w; exact absurd w.2 (by decide)), if_pos (show (0 : Int32) = 0 from rfl)]
theorem m_next124 (t : mTp I c n) {s s0 : Nat} (hs : s ≤ n) : lpX11_next_124 gb_FU 241 (gb_mk (gm_tk I s0 s) J) = some ((), gb_mk (gm_tk I s0 (gt_w (gt_dg c) n s)) J) := by
  have hn := t.1
  simp only [lpX11_next_124]
  refine gb_whl (fun p => (241, gb_mk (gm_tk I s0 p) J)) (gt_dg c) n s hs (by omega) ?_ ?_
  · intro p k h1 h2 hq
    simp only [fbX11_next_124, gb_lt_d, gb_gd_t, gb_rd_s, gb_bd_s, gb_I_mk, gb_L_mk, gb_sI_mk, gb_sL_mk, gk241, gr241_2, gr241_3, gr241_4, gr241_5, gr241_7, gr241_8, gr241_11, gr241_12, gr241_13, gr241_20, gr241_21, gr241_22, gr241_26, gr241_27, gr241_28, gr241_29, gr241_31, gr241_32, gr241_33, gr241_38, gr241_39, gr241_40, gr241_41, gr241_42, gr241_43, gr241_44, gr241_45, gm_tk_17, m_isDg t.tk (show p ≤ n by omega), if_pos (show p < n ∧ gt_dg c p = true from ⟨h2, hq⟩)]
    rw [if_neg gb_n10, gb_lit 1, nI_add, gm_tk_u]
  · intro k
    obtain ⟨a1, a2, a3, a4⟩ := gt_w_s (Q := gt_dg c) hs
    generalize gt_w (gt_dg c) n s = p at *
    simp only [fbX11_next_124, fbX11_next_162, gb_lt_d, gb_gd_t, gb_rd_s, gb_bd_s, gb_I_mk, gb_L_mk, gb_sI_mk, gb_sL_mk, gk241, gr241_2, gr241_3, gr241_4, gr241_5, gr241_7, gr241_8, gr241_11, gr241_12, gr241_13, gr241_20, gr241_21, gr241_22, gr241_26, gr241_27, gr241_28, gr241_29, gr241_31, gr241_32, gr241_33, gr241_38, gr241_39, gr241_40, gr241_41, gr241_42, gr241_43, gr241_44, gr241_45, gm_tk_17, m_isDg t.tk (show p ≤ n by omega)]
    rw [if_neg (show ¬ (p < n ∧ gt_dg c p = true) from fun w => by rw [a4 w.1] at w; exact absurd w.2 (by decide)), if_pos (show (0 : Int32) = 0 from rfl)]
theorem m_next46 (t : mTp I c n) {s : Nat} (hs : s ≤ n) (h : I 241 16 = nI s) : fbX11_next_46 241 (gb_mk I J) = some ((), gb_mk (gm_tk I s (gt_e c n s)) J) := by
  have hn := t.1
  have e0 : gb_u I 241 17 (I 241 16) = gm_tk I s s := by
    unfold gm_tk
    rw [h]
    congr 1
    funext a b
    rw [gb_u1]
    split
    · rename_i q; rw [q.1, q.2, h]
    · rfl
  have e15 : ∀ e, gm_tk I s e 241 15 = nI n := fun e => by rw [gm_tk_o (by decide) (by decide)]; exact t.2.1
  simp only [fbX11_next_46, gb_lt_d, gb_gd_t, gb_rd_s, gb_bd_s, gb_I_mk, gb_L_mk, gb_sI_mk, gb_sL_mk, gk241, gr241_2, gr241_3, gr241_4, gr241_5, gr241_7, gr241_8, gr241_11, gr241_12, gr241_13, gr241_20, gr241_21, gr241_22, gr241_26, gr241_27, gr241_28, gr241_29, gr241_31, gr241_32, gr241_33, gr241_38, gr241_39, gr241_40, gr241_41, gr241_42, gr241_43, gr241_44, gr241_45, e0, gm_tk_16, e15]
  unfold gt_e
  by_cases q : s < n
  · rw [if_neg (show ¬ nI s = nI n from fun w => by have := (nI_eq (by omega) (by omega)).mp w; omega), if_pos q]
    by_cases l : gt_lt c s = true
    · have d : ¬ gt_dg c s = true := fun w => by simp [gt_lt, gt_dg] at *; omega
      simp only [gb_lt_d, gb_gd_t, gb_rd_s, gb_bd_s, gb_I_mk, gb_L_mk, gb_sI_mk, gb_sL_mk, gk241, gr241_2, gr241_3, gr241_4, gr241_5, gr241_7, gr241_8, gr241_11, gr241_12, gr241_13, gr241_20, gr241_21, gr241_22, gr241_26, gr241_27, gr241_28, gr241_29, gr241_31, gr241_32, gr241_33, gr241_38, gr241_39, gr241_40, gr241_41, gr241_42, gr241_43, gr241_44, gr241_45, m_isLt t.tk (show s ≤ n by omega), if_pos (show s < n ∧ gt_lt c s = true from ⟨q, l⟩), m_next81 t hs]
      rw [if_neg gb_n10, if_neg d, if_pos l]
    · simp only [gb_lt_d, gb_gd_t, gb_rd_s, gb_bd_s, gb_I_mk, gb_L_mk, gb_sI_mk, gb_sL_mk, gk241, gr241_2, gr241_3, gr241_4, gr241_5, gr241_7, gr241_8, gr241_11, gr241_12, gr241_13, gr241_20, gr241_21, gr241_22, gr241_26, gr241_27, gr241_28, gr241_29, gr241_31, gr241_32, gr241_33, gr241_38, gr241_39, gr241_40, gr241_41, gr241_42, gr241_43, gr241_44, gr241_45, m_isLt t.tk (show s ≤ n by omega), if_neg (show ¬ (s < n ∧ gt_lt c s = true) from fun w => l w.2), if_true, gm_tk_16]
      by_cases d : gt_dg c s = true
      · simp only [gb_lt_d, gb_gd_t, gb_rd_s, gb_bd_s, gb_I_mk, gb_L_mk, gb_sI_mk, gb_sL_mk, gk241, gr241_2, gr241_3, gr241_4, gr241_5, gr241_7, gr241_8, gr241_11, gr241_12, gr241_13, gr241_20, gr241_21, gr241_22, gr241_26, gr241_27, gr241_28, gr241_29, gr241_31, gr241_32, gr241_33, gr241_38, gr241_39, gr241_40, gr241_41, gr241_42, gr241_43, gr241_44, gr241_45, m_isDg t.tk (show s ≤ n by omega), if_pos (show s < n ∧ gt_dg c s = true from ⟨q, d⟩), m_next124 t hs]
        rw [if_neg gb_n10, if_pos d]
      · simp only [gb_lt_d, gb_gd_t, gb_rd_s, gb_bd_s, gb_I_mk, gb_L_mk, gb_sI_mk, gb_sL_mk, gk241, gr241_2, gr241_3, gr241_4, gr241_5, gr241_7, gr241_8, gr241_11, gr241_12, gr241_13, gr241_20, gr241_21, gr241_22, gr241_26, gr241_27, gr241_28, gr241_29, gr241_31, gr241_32, gr241_33, gr241_38, gr241_39, gr241_40, gr241_41, gr241_42, gr241_43, gr241_44, gr241_45, m_isDg t.tk (show s ≤ n by omega), if_neg (show ¬ (s < n ∧ gt_dg c s = true) from fun w => d w.2), if_true, gm_tk_17, fbX11_next_162]
        rw [if_neg d, if_neg l, gb_lit 1, nI_add, gm_tk_u]
  · rw [if_pos (show nI s = nI n by rw [show s = n by omega]), if_neg q]
theorem m_next (t : mTp I c n) {e : Nat} (he : e ≤ n) (h : I 241 17 = nI e) : fnX11_next 241 (gb_mk I J) = some ((), gb_mk (gm_tk I (gt_s c n e) (gt_e c n (gt_s c n e))) J) := by
  have hn := t.1
  obtain ⟨a1, a2, a3, a4⟩ := gt_w_s (Q := gt_sp c) he
  have fin : ∀ p, p ≤ n → fbX11_next_46 241 (gb_mk (gb_u I 241 16 (nI p)) J) = some ((), gb_mk (gm_tk I p (gt_e c n p)) J) := fun p hp => by
    rw [m_next46 (t.u (by decide)) hp (gb_u_s _ _ _ _)]
    unfold gm_tk
    rw [gb_uu]
  have e15 : ∀ v, gb_u I 241 16 v 241 15 = nI n := fun v => by rw [gb_u_nk _ _ (by decide)]; exact t.2.1
  simp only [fnX11_next, gb_lt_d, gb_gd_t, gb_rd_s, gb_bd_s, gb_I_mk, gb_L_mk, gb_sI_mk, gb_sL_mk, gk241, gr241_2, gr241_3, gr241_4, gr241_5, gr241_7, gr241_8, gr241_11, gr241_12, gr241_13, gr241_20, gr241_21, gr241_22, gr241_26, gr241_27, gr241_28, gr241_29, gr241_31, gr241_32, gr241_33, gr241_38, gr241_39, gr241_40, gr241_41, gr241_42, gr241_43, gr241_44, gr241_45, h]
  simp only [lpX11_next_8]
  refine gb_whl (fun p => (241, gb_mk (gb_u I 241 16 (nI p)) J)) (gt_sp c) n e he (by omega) ?_ ?_
  · intro p k h1 h2 hq
    obtain ⟨b1, b2⟩ := t.2.2 p h2
    have hd : c p = 32 := by simpa [gt_sp] using hq
    have e2 : gb_u I 241 16 (nI p) 249 p = sb_b (c p) := by rw [gb_u_row _ _ (by decide)]; exact b2
    simp only [fbX11_next_8, gb_lt_d, gb_gd_t, gb_rd_s, gb_bd_s, gb_I_mk, gb_L_mk, gb_sI_mk, gb_sL_mk, gk241, gr241_2, gr241_3, gr241_4, gr241_5, gr241_7, gr241_8, gr241_11, gr241_12, gr241_13, gr241_20, gr241_21, gr241_22, gr241_26, gr241_27, gr241_28, gr241_29, gr241_31, gr241_32, gr241_33, gr241_38, gr241_39, gr241_40, gr241_41, gr241_42, gr241_43, gr241_44, gr241_45, gb_u_s, e15]
    rw [if_neg (show ¬ nI n ≤ nI p from nI_ge h2 (by omega))]
    simp (disch := omega) only [gb_lt_d, gb_gd_t, gb_rd_s, gb_bd_s, gb_I_mk, gb_L_mk, gb_sI_mk, gb_sL_mk, gk241, gk242, gk243, gk244, gk245, gk246, gk247, gk248, gk249, gk250, gk251, gk252, gk253, gk254, gk255, gk256, gk257, gk258, gk259, gk260, gk261, gk262, gk263, gk264, gk265, gk266, gk267, gk268, gr241_2, gr241_3, gr241_4, gr241_5, gr241_7, gr241_8, gr241_11, gr241_12, gr241_13, gr241_20, gr241_21, gr241_22, gr241_26, gr241_27, gr241_28, gr241_29, gr241_31, gr241_32, gr241_33, gr241_38, gr241_39, gr241_40, gr241_41, gr241_42, gr241_43, gr241_44, gr241_45, gb_u_s, gi249, nI_clamp, e2, gb_uu, gb_lit 1, nI_add]
    rw [if_pos ((sb_32 _ b1).mpr hd)]
  · intro k
    rw [show gt_s c n e = gt_w (gt_sp c) n e from rfl]
    generalize gt_w (gt_sp c) n e = p at *
    show fbX11_next_8 _ 241 (gb_mk (gb_u I 241 16 (nI p)) J) = _
    simp only [fbX11_next_8, gb_lt_d, gb_gd_t, gb_rd_s, gb_bd_s, gb_I_mk, gb_L_mk, gb_sI_mk, gb_sL_mk, gk241, gr241_2, gr241_3, gr241_4, gr241_5, gr241_7, gr241_8, gr241_11, gr241_12, gr241_13, gr241_20, gr241_21, gr241_22, gr241_26, gr241_27, gr241_28, gr241_29, gr241_31, gr241_32, gr241_33, gr241_38, gr241_39, gr241_40, gr241_41, gr241_42, gr241_43, gr241_44, gr241_45, gb_u_s, e15]
    by_cases q : p < n
    · rw [if_neg (show ¬ nI n ≤ nI p from nI_ge q (by omega))]
      obtain ⟨b1, b2⟩ := t.2.2 p q
      have hd : ¬ c p = 32 := by simpa [gt_sp] using a4 q
      have e2 : gb_u I 241 16 (nI p) 249 p = sb_b (c p) := by rw [gb_u_row _ _ (by decide)]; exact b2
      simp (disch := omega) only [gb_lt_d, gb_gd_t, gb_rd_s, gb_bd_s, gb_I_mk, gb_L_mk, gb_sI_mk, gb_sL_mk, gk241, gk242, gk243, gk244, gk245, gk246, gk247, gk248, gk249, gk250, gk251, gk252, gk253, gk254, gk255, gk256, gk257, gk258, gk259, gk260, gk261, gk262, gk263, gk264, gk265, gk266, gk267, gk268, gr241_2, gr241_3, gr241_4, gr241_5, gr241_7, gr241_8, gr241_11, gr241_12, gr241_13, gr241_20, gr241_21, gr241_22, gr241_26, gr241_27, gr241_28, gr241_29, gr241_31, gr241_32, gr241_33, gr241_38, gr241_39, gr241_40, gr241_41, gr241_42, gr241_43, gr241_44, gr241_45, gb_u_s, gi249, nI_clamp, e2]
      rw [if_neg (fun w => hd ((sb_32 _ b1).mp w))]
      exact fin p a2
    · rw [if_pos (show nI n ≤ nI p from nI_le (by omega) (by omega))]
      exact fin p a2
/-- only the token has moved -/
def gm_ad (I I' : gb_FI) : Prop := (∀ m, m ≠ 241 → I' m = I m) ∧ ∀ k, k ≠ 16 → k ≠ 17 → I' 241 k = I 241 k
theorem m_adv (h : mRd I c n s) : ∃ I', fnX11_next 241 (gb_mk I J) = some ((), gb_mk I' J) ∧ mRd I' c n (gt_n c n s) ∧ gm_ad I I' := by
  obtain ⟨t, hs, h2, h3⟩ := h
  have es := gt_e_s (c := c) hs
  exact ⟨_, m_next t es.2.1 h3, ⟨t.tk, (gt_w_s es.2.1).2.1, gm_tk_16, gm_tk_17⟩, fun m hm => gm_tk_r hm, fun k h1 h2 => gm_tk_o h1 h2⟩
end MLEX
