section MDEED
variable {I I' I1 I2 : gb_FI} {J J' : gb_FJ} {c : Nat → Nat} {n s cs a : Nat}
theorem gt_isS {i ch : Nat} (hi : gt_wd i = [ch]) (hd : ¬ (48 ≤ ch ∧ ch ≤ 57)) (hl : ¬ (97 ≤ ch ∧ ch ≤ 122)) (hs : s ≤ n) : gt_is c n s i = true ↔ s < n ∧ c s = ch := by
  have es := gt_e_s (c := c) hs
  have is : gt_is c n s i = true ↔ gt_e c n s - s = 1 ∧ ∀ j, j < 1 → c (s + j) = [ch].getD j 0 := by simp [gt_is, hi]
  rw [is]
  constructor
  · intro w
    refine ⟨?_, ?_⟩
    · by_cases q : s < n
      · exact q
      · exfalso
        have : gt_e c n s = s := by unfold gt_e; rw [if_neg q]
        omega
    · have := w.2 0 (by decide)
      simpa using this
  · intro w
    refine ⟨?_, fun j hj => ?_⟩
    · unfold gt_e
      rw [if_pos w.1, if_neg (by simp [gt_dg, w.2]; omega), if_neg (by simp [gt_lt, w.2]; omega)]
      omega
    · rw [show j = 0 by omega]
      simpa using w.2
theorem m_sign {i : Nat} {ch : Nat} {cI : Int32} (hi : gt_wd i = [ch]) (hd : ¬ (48 ≤ ch ∧ ch ≤ 57)) (hl : ¬ (97 ≤ ch ∧ ch ≤ 122)) (he : ∀ v, v < 256 → (sb_b v = cI ↔ v = ch)) (h : mRd I c n s) (g : I 241 19 = -1) : if gt_is c n s i = true
    then ∃ I', fnX11_takesSign 241 cI (gb_mk I J) = some (1, gb_mk I' J) ∧ mRd I' c n (gt_n c n s) ∧ I' 241 19 = -1 ∧ gm_ad I I'
    else fnX11_takesSign 241 cI (gb_mk I J) = some (0, gb_mk I J) := by
  have is := gt_isS (c := c) hi hd hl h.2.1
  obtain ⟨I1, e1, e2, e3⟩ := m_adv (J := J) h
  obtain ⟨t, hs, h2, h3⟩ := h
  have hn := t.1
  simp only [fnX11_takesSign, fbX11_takesSign_35, fbX11_takesSign_36, fbX11_takesSign_45, gb_lt_d, gb_gd_t, gb_rd_s, gb_bd_s, gb_I_mk, gb_L_mk, gb_sI_mk, gb_sL_mk, gk241, gr241_2, gr241_3, gr241_4, gr241_5, gr241_7, gr241_8, gr241_11, gr241_12, gr241_13, gr241_20, gr241_21, gr241_22, gr241_26, gr241_27, gr241_28, gr241_29, gr241_31, gr241_32, gr241_33, gr241_38, gr241_39, gr241_40, gr241_41, gr241_42, gr241_43, gr241_44, gr241_45, m_goodG g, h2, t.2.1, e1]
  rw [if_neg gb_n10]
  by_cases q : s < n
  · rw [if_neg (show ¬ nI n ≤ nI s from nI_ge q (by omega))]
    obtain ⟨b1, b2⟩ := t.2.2 s q
    simp (disch := omega) only [gb_lt_d, gb_gd_t, gb_rd_s, gb_bd_s, gb_I_mk, gb_L_mk, gb_sI_mk, gb_sL_mk, gk241, gk242, gk243, gk244, gk245, gk246, gk247, gk248, gk249, gk250, gk251, gk252, gk253, gk254, gk255, gk256, gk257, gk258, gk259, gk260, gk261, gk262, gk263, gk264, gk265, gk266, gk267, gk268, gr241_2, gr241_3, gr241_4, gr241_5, gr241_7, gr241_8, gr241_11, gr241_12, gr241_13, gr241_20, gr241_21, gr241_22, gr241_26, gr241_27, gr241_28, gr241_29, gr241_31, gr241_32, gr241_33, gr241_38, gr241_39, gr241_40, gr241_41, gr241_42, gr241_43, gr241_44, gr241_45, gi249, nI_clamp, b2]
    by_cases r : c s = ch
    · rw [if_pos (is.mpr ⟨q, r⟩), if_pos ((he _ b1).mpr r)]
      refine ⟨I1, ?_, e2, by rw [e3.2 19 (by decide) (by decide)]; exact g, e3⟩
      rw [if_neg gb_n10]
      rfl
    · rw [if_neg (fun w => r (is.mp w).2), if_neg (fun w => r ((he _ b1).mp w))]
      rfl
  · rw [if_neg (fun w => q (is.mp w).1), if_pos (show nI n ≤ nI s from nI_le (by omega) (by omega))]
    rfl
theorem m_sign61 (h : mRd I c n s) (g : I 241 19 = -1) : if gt_is c n s 1 = true
    then ∃ I', fnX11_takesSign 241 61 (gb_mk I J) = some (1, gb_mk I' J) ∧ mRd I' c n (gt_n c n s) ∧ I' 241 19 = -1 ∧ gm_ad I I'
    else fnX11_takesSign 241 61 (gb_mk I J) = some (0, gb_mk I J) := m_sign (ch := 61) rfl (by decide) (by decide) sb_61 h g
theorem m_sign59 (h : mRd I c n s) (g : I 241 19 = -1) : if gt_is c n s 13 = true
    then ∃ I', fnX11_takesSign 241 59 (gb_mk I J) = some (1, gb_mk I' J) ∧ mRd I' c n (gt_n c n s) ∧ I' 241 19 = -1 ∧ gm_ad I I'
    else fnX11_takesSign 241 59 (gb_mk I J) = some (0, gb_mk I J) := m_sign (ch := 59) rfl (by decide) (by decide) sb_59 h g
def gm_fh (I : gb_FI) (a : Nat) : Nat → gb_FI
  | 0 => I
  | i + 1 => gb_u (gm_fh I a i) 246 (a + i) (if i < 3 then 0 else -1)
theorem gm_fh_ne {m : Nat} (h : m ≠ 246) : ∀ i, gm_fh I a i m = I m
  | 0 => rfl
  | i + 1 => by
    show gb_u (gm_fh I a i) 246 (a + i) _ m = I m
    rw [gb_u_row _ _ h, gm_fh_ne h i]
theorem gm_fh_o {k : Nat} : ∀ i, (k < a ∨ a + i ≤ k) → gm_fh I a i 246 k = I 246 k
  | 0, _ => rfl
  | i + 1, h => by
    show gb_u (gm_fh I a i) 246 (a + i) _ 246 k = I 246 k
    rw [gb_u_nk _ _ (by omega), gm_fh_o i (by omega)]
theorem gm_fh_i {j : Nat} : ∀ i, j < i → gm_fh I a i 246 (a + j) = if j < 3 then 0 else -1
  | 0, h => absurd h (by omega)
  | i + 1, h => by
    show gb_u (gm_fh I a i) 246 (a + i) _ 246 (a + j) = _
    by_cases e : j = i
    · subst e; rw [gb_u_s]
    · rw [gb_u_nk _ _ (by omega), gm_fh_i i (by omega)]
theorem m_fresh {m : Nat} (hm : m < 16) (h9 : I 241 9 = nI m) : fnX11_fresh 241 (gb_mk I J) = some (nI (8 * m), gb_mk (gm_fh I (8 * m) 8) J) := by
  simp only [fnX11_fresh, gb_lt_d, gb_gd_t, gb_rd_s, gb_bd_s, gb_I_mk, gb_L_mk, gb_sI_mk, gb_sL_mk, gk241, gr241_2, gr241_3, gr241_4, gr241_5, gr241_7, gr241_8, gr241_11, gr241_12, gr241_13, gr241_20, gr241_21, gr241_22, gr241_26, gr241_27, gr241_28, gr241_29, gr241_31, gr241_32, gr241_33, gr241_38, gr241_39, gr241_40, gr241_41, gr241_42, gr241_43, gr241_44, gr241_45, h9]
  rw [gb_lit 8, gb_nI_mul]
  simp only [lpX11_fresh_10]
  refine gb_forF (fun i => (241, nI (8 * m), nI i, gb_mk (gm_fh I (8 * m) i) J)) 8 (by decide) ?_ ?_
  · intro j hj k
    simp only [fbX11_fresh_10, fbX11_fresh_33]
    rw [if_neg (show ¬ (8 : Int32) ≤ nI j from nI_ge (a := j) (b := 8) hj (by omega))]
    simp (disch := omega) only [gb_lt_d, gb_gd_t, gb_rd_s, gb_bd_s, gb_I_mk, gb_L_mk, gb_sI_mk, gb_sL_mk, gk241, gk242, gk243, gk244, gk245, gk246, gk247, gk248, gk249, gk250, gk251, gk252, gk253, gk254, gk255, gk256, gk257, gk258, gk259, gk260, gk261, gk262, gk263, gk264, gk265, gk266, gk267, gk268, gr241_2, gr241_3, gr241_4, gr241_5, gr241_7, gr241_8, gr241_11, gr241_12, gr241_13, gr241_20, gr241_21, gr241_22, gr241_26, gr241_27, gr241_28, gr241_29, gr241_31, gr241_32, gr241_33, gr241_38, gr241_39, gr241_40, gr241_41, gr241_42, gr241_43, gr241_44, gr241_45, nI_add, gi246, nI_clamp, gb_lit 1]
    show _ = k (241, nI (8 * m), nI (j + 1), gb_mk (gb_u (gm_fh I (8 * m) j) 246 (8 * m + j) (if j < 3 then 0 else -1)) J)
    by_cases q : j < 3
    · rw [if_neg (show ¬ (3 : Int32) ≤ nI j from nI_ge (a := j) (b := 3) q (by omega)), if_pos q]
    · rw [if_pos (show (3 : Int32) ≤ nI j from nI_le (a := 3) (by omega) (by omega)), if_neg q]
      rfl
  · intro k
    simp only [fbX11_fresh_10]
    rw [if_pos (show (8 : Int32) ≤ nI 8 by decide)]
/-- only the token, the fault and eight places of the part read have moved -/
def gm_fr (a : Nat) (I I' : gb_FI) : Prop := (∀ m, m ≠ 241 → m ≠ 246 → I' m = I m) ∧ (∀ k, k ≠ 16 → k ≠ 17 → k ≠ 19 → I' 241 k = I 241 k) ∧ ∀ k, k < a ∨ a + 8 ≤ k → I' 246 k = I 246 k
theorem gm_fr.t (x : gm_fr a I I1) (y : gm_fr a I1 I2) : gm_fr a I I2 := ⟨fun m h1 h2 => (y.1 m h1 h2).trans (x.1 m h1 h2), fun k h1 h2 h3 => (y.2.1 k h1 h2 h3).trans (x.2.1 k h1 h2 h3), fun k h => (y.2.2 k h).trans (x.2.2 k h)⟩
theorem gm_f1.fr (x : gm_f1 I I1) : gm_fr a I I1 := ⟨fun m h1 _ => x.1 m h1, x.2, fun k _ => by rw [x.1 246 (by decide)]⟩
theorem gm_ad.fr (x : gm_ad I I1) : gm_fr a I I1 := x.f1.fr
theorem gm_fr.u {k : Nat} {v : Int32} (h : k < 8) : gm_fr a I (gb_u I 246 (a + k) v) := ⟨fun m _ h2 => gb_u_row _ _ h2, fun k _ _ _ => by rw [gb_u_row _ _ (by decide)], fun j hj => gb_u_nk _ _ (by omega)⟩
theorem gm_fr.r : gm_fr a I I := ⟨fun _ _ _ => rfl, fun _ _ _ _ => rfl, fun _ _ => rfl⟩
theorem mRd.u (h : mRd I c n s) {k : Nat} {v : Int32} : mRd (gb_u I 246 k v) c n s := by
  obtain ⟨⟨t1, t2, t3⟩, hs, h2, h3⟩ := h
  exact ⟨⟨t1, by rw [gb_u_row _ _ (by decide)]; exact t2, fun i hi => by rw [gb_u_row _ _ (by decide)]; exact t3 i hi⟩, hs, by rw [gb_u_row _ _ (by decide)]; exact h2, by rw [gb_u_row _ _ (by decide)]; exact h3⟩
theorem gb_19u {k : Nat} {v w : Int32} (h : I 241 19 = w) : gb_u I 246 k v 241 19 = w := by rw [gb_u_row _ _ (by decide)]; exact h
theorem mBd.of {e : Nat} (h : I 241 19 = nI e) (he : e < 1000) : mBd I := by unfold mBd; rw [h]; exact gb_nmi e he
theorem mCs.fr (h : mCs I cs) (x : gm_fr a I I') : mCs I' cs := h.k (x.1 247 (by decide) (by decide))
/-- a field of the part read has been read -/
def gm_sf (a k : Nat) (v : Int32) (I I' : gb_FI) : Prop := gm_fr a I I' ∧ I' 246 (a + k) = v ∧ ∀ j, j ≠ a + k → I' 246 j = I 246 j
theorem gm_ad.sf (x : gm_ad I I') {k : Nat} (hk : k < 8) {v : Int32} : gm_sf a k v I (gb_u I' 246 (a + k) v) :=
  ⟨x.fr.t (gm_fr.u hk), gb_u_s _ _ _ _, fun j hj => by rw [gb_u_nk _ _ hj, x.1 246 (by decide)]⟩
end MDEED
