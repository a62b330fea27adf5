section MDEED2
variable {I I' I1 I2 : gb_FI} {J J' : gb_FJ} {c : Nat → Nat} {n s cs a : Nat}
theorem m_pathF (h : mRd I c n s) (g : I 241 19 = -1) (hc : mCs I cs) : match g_path c n cs 0 5 s with
    | none => ∃ I' v, fnX11_path 241 0 (-1) (gb_mk I J) = some (v, gb_mk I' J) ∧ I' 241 19 = nI s ∧ gm_f1 I I'
    | some v => ∃ I', fnX11_path 241 0 (-1) (gb_mk I J) = some (nI v, gb_mk I' J) ∧ mRd I' c n (gt_n c n s) ∧ I' 241 19 = -1 ∧ gm_ad I I' := by
  have t := m_path (J := J) h g hc (w := 0) (u := 5) (by decide) (by decide)
  rw [show nI 0 = 0 from rfl, show gb_m1 5 5 = -1 from rfl] at t
  exact t
theorem m_pathW (h : mRd I c n s) (g : I 241 19 = -1) (hc : mCs I cs) : match g_path c n cs 1 5 s with
    | none => ∃ I' v, fnX11_path 241 1 (-1) (gb_mk I J) = some (v, gb_mk I' J) ∧ I' 241 19 = nI s ∧ gm_f1 I I'
    | some v => ∃ I', fnX11_path 241 1 (-1) (gb_mk I J) = some (nI v, gb_mk I' J) ∧ mRd I' c n (gt_n c n s) ∧ I' 241 19 = -1 ∧ gm_ad I I' := by
  have t := m_path (J := J) h g hc (w := 1) (u := 5) (by decide) (by decide)
  rw [show nI 1 = 1 from rfl, show gb_m1 5 5 = -1 from rfl] at t
  exact t
theorem m_pathS (h : mRd I c n s) (g : I 241 19 = -1) (hc : mCs I cs) {u : Nat} (hu : u < 5) : match g_path c n cs 0 u s with
    | none => ∃ I' v, fnX11_path 241 0 (nI u) (gb_mk I J) = some (v, gb_mk I' J) ∧ I' 241 19 = nI s ∧ gm_f1 I I'
    | some v => ∃ I', fnX11_path 241 0 (nI u) (gb_mk I J) = some (nI v, gb_mk I' J) ∧ mRd I' c n (gt_n c n s) ∧ I' 241 19 = -1 ∧ gm_ad I I' := by
  have t := m_path (J := J) h g hc (w := 0) (u := u) (by decide) (by omega)
  rw [show nI 0 = 0 from rfl, show gb_m1 5 u = nI u from if_neg (by omega)] at t
  exact t
/-- a word taken and the act written -/
theorem m_takeA (h : mRd I c n s) (g : I 241 19 = -1) {i : Nat} (hi : i < 13) (hi1 : i ≠ 1) (e : gt_is c n s i = true) (v : Int32) : ∃ I', fnX11_takesWord 241 (lN (gt_cd i)) (gb_mk I J) = some (1, gb_mk I' J) ∧ mRd (gb_u I' 246 a v) c n (gt_n c n s) ∧ gb_u I' 246 a v 241 19 = -1 ∧ gm_sf a 0 v I (gb_u I' 246 a v) := by
  obtain ⟨I1, e1, e2, e3, e4⟩ := m_take1 (J := J) h g hi hi1 e
  exact ⟨I1, e1, e2.u, gb_19u e3, gm_ad.sf (k := 0) e4 (by decide)⟩
/-- what stands in a fresh part, with its wait -/
def gm_rq (a wp wc : Nat) (I : gb_FI) : Prop := I 246 (a + 2) = 0 ∧ I 246 (a + 3) = -1 ∧ I 246 (a + 4) = -1 ∧ I 246 (a + 6) = gb_m1 5 wp ∧ (wp ≠ 5 → I 246 (a + 7) = nI wc)
theorem m_deed (h : mRd I c n s) (g : I 241 19 = -1) (hc : mCs I cs) (ha : a + 8 ≤ 128) {wp wc : Nat} (r : gm_rq a wp wc I) : match g_deed c n cs wp wc s with
    | .error e => ∃ I', fnX11_deed 241 (nI a) (gb_mk I J) = some ((), gb_mk I' J) ∧ I' 241 19 = nI e ∧ gm_fr a I I'
    | .ok r => ∃ I', fnX11_deed 241 (nI a) (gb_mk I J) = some ((), gb_mk I' J) ∧ mRd I' c n r.2 ∧ I' 241 19 = -1 ∧ gm_fr a I I' ∧ mP (I' 246) a r.1 := by
  obtain ⟨r2, r3, r4, r6, r7⟩ := r
  have hn := h.1.1
  have hs := h.2.1
  have n1 := gt_n_s (c := c) hs
  have n2 := gt_n_s (c := c) n1
  have n3 := gt_n_s (c := c) n2
  have n4 := gt_n_s (c := c) n3
  have p1 : nI a + 1 = nI (a + 1) := nI_1 a
  have p2 : nI a + 2 = nI (a + 2) := nI_add a 2
  have p3 : nI a + 3 = nI (a + 3) := nI_add a 3
  have p4 : nI a + 4 = nI (a + 4) := nI_add a 4
  have p5 : nI a + 5 = nI (a + 5) := nI_add a 5
  simp only [fnX11_deed, fbX11_deed_167, fbX11_deed_242, gb_lt_d, gb_gd_t, gb_rd_s, gb_bd_s, gb_I_mk, gb_L_mk, gb_sI_mk, gb_sL_mk, gk241, gr241_2, gr241_3, gr241_4, gr241_5, gr241_7, gr241_8, gr241_11, gr241_12, gr241_13, gr241_20, gr241_21, gr241_22, gr241_26, gr241_27, gr241_28, gr241_29, gr241_31, gr241_32, gr241_33, gr241_38, gr241_39, gr241_40, gr241_41, gr241_42, gr241_43, gr241_44, gr241_45, show (21279251 : Int64) = lN (gt_cd 3) from rfl, show (477876 : Int64) = lN (gt_cd 7) from rfl, show (21177619 : Int64) = lN (gt_cd 8) from rfl, show (526067 : Int64) = lN (gt_cd 10) from rfl, show (378925 : Int64) = lN (gt_cd 9) from rfl]
  unfold g_deed
  by_cases a3 : gt_is c n s 3 = true
  · rw [if_pos a3]
    obtain ⟨I1, e1, e2, e3, e4⟩ := m_takeA (J := J) (a := a) h g (by decide) (by decide) a3 0
    rw [e1, gb_bd_s, if_neg gb_n10]
    simp (disch := omega) only [gb_lt_d, gb_gd_t, gb_rd_s, gb_bd_s, gb_I_mk, gb_L_mk, gb_sI_mk, gb_sL_mk, gk241, gk242, gk243, gk244, gk245, gk246, gk247, gk248, gk249, gk250, gk251, gk252, gk253, gk254, gk255, gk256, gk257, gk258, gk259, gk260, gk261, gk262, gk263, gk264, gk265, gk266, gk267, gk268, gr241_2, gr241_3, gr241_4, gr241_5, gr241_7, gr241_8, gr241_11, gr241_12, gr241_13, gr241_20, gr241_21, gr241_22, gr241_26, gr241_27, gr241_28, gr241_29, gr241_31, gr241_32, gr241_33, gr241_38, gr241_39, gr241_40, gr241_41, gr241_42, gr241_43, gr241_44, gr241_45, p1, p2, p3, p4, p5, gi246, nI_clamp]
    have t := m_pathF (J := J) e2 e3 (hc.fr e4.1)
    revert t
    cases g1 : g_path c n cs 0 5 (gt_n c n s) with
    | none =>
      rintro ⟨I2, v, b1, b2, b3⟩
      have bd : mBd I2 := mBd.of b2 (by omega)
      refine ⟨gb_u (gb_u (gb_u I2 246 (a + 1) v) 246 (a + 2) 0) 246 (a + 3) 0, ?_, gb_19u (gb_19u (gb_19u b2)), (((e4.1.t b3.fr).t (gm_fr.u (by decide))).t (gm_fr.u (by decide))).t (gm_fr.u (by decide))⟩
      simp (disch := omega) only [b1, gb_lt_d, gb_gd_t, gb_rd_s, gb_bd_s, gb_I_mk, gb_L_mk, gb_sI_mk, gb_sL_mk, gk241, gk242, gk243, gk244, gk245, gk246, gk247, gk248, gk249, gk250, gk251, gk252, gk253, gk254, gk255, gk256, gk257, gk258, gk259, gk260, gk261, gk262, gk263, gk264, gk265, gk266, gk267, gk268, gr241_2, gr241_3, gr241_4, gr241_5, gr241_7, gr241_8, gr241_11, gr241_12, gr241_13, gr241_20, gr241_21, gr241_22, gr241_26, gr241_27, gr241_28, gr241_29, gr241_31, gr241_32, gr241_33, gr241_38, gr241_39, gr241_40, gr241_41, gr241_42, gr241_43, gr241_44, gr241_45, p1, p2, p3, p4, p5, gi246, nI_clamp, m_pathB bd.u, m_kindB bd.u.u]
    | some f =>
      rintro ⟨I2, b1, b2, b3, b4⟩
      have hf := (g_path_lt g1).1
      have s1 : gm_sf a 1 (nI f) (gb_u I1 246 a 0) (gb_u I2 246 (a + 1) (nI f)) := b4.sf (by decide)
      simp (disch := omega) only [b1, gb_lt_d, gb_gd_t, gb_rd_s, gb_bd_s, gb_I_mk, gb_L_mk, gb_sI_mk, gb_sL_mk, gk241, gk242, gk243, gk244, gk245, gk246, gk247, gk248, gk249, gk250, gk251, gk252, gk253, gk254, gk255, gk256, gk257, gk258, gk259, gk260, gk261, gk262, gk263, gk264, gk265, gk266, gk267, gk268, gr241_2, gr241_3, gr241_4, gr241_5, gr241_7, gr241_8, gr241_11, gr241_12, gr241_13, gr241_20, gr241_21, gr241_22, gr241_26, gr241_27, gr241_28, gr241_29, gr241_31, gr241_32, gr241_33, gr241_38, gr241_39, gr241_40, gr241_41, gr241_42, gr241_43, gr241_44, gr241_45, p1, p2, p3, p4, p5, gi246, nI_clamp, gb_u_s]
      have t := m_pathS (J := J) (b2.u (k := a + 1) (v := nI f)) (gb_19u b3) ((hc.fr e4.1).fr s1.1) hf
      revert t
      cases g2 : g_path c n cs 0 f (gt_n c n (gt_n c n s)) with
      | none =>
        rintro ⟨I3, v, d1, d2, d3⟩
        have bd : mBd I3 := mBd.of d2 (by omega)
        refine ⟨gb_u (gb_u I3 246 (a + 2) v) 246 (a + 3) 0, ?_, gb_19u (gb_19u d2), (((e4.1.t s1.1).t d3.fr).t (gm_fr.u (by decide))).t (gm_fr.u (by decide))⟩
        simp (disch := omega) only [d1, gb_lt_d, gb_gd_t, gb_rd_s, gb_bd_s, gb_I_mk, gb_L_mk, gb_sI_mk, gb_sL_mk, gk241, gk242, gk243, gk244, gk245, gk246, gk247, gk248, gk249, gk250, gk251, gk252, gk253, gk254, gk255, gk256, gk257, gk258, gk259, gk260, gk261, gk262, gk263, gk264, gk265, gk266, gk267, gk268, gr241_2, gr241_3, gr241_4, gr241_5, gr241_7, gr241_8, gr241_11, gr241_12, gr241_13, gr241_20, gr241_21, gr241_22, gr241_26, gr241_27, gr241_28, gr241_29, gr241_31, gr241_32, gr241_33, gr241_38, gr241_39, gr241_40, gr241_41, gr241_42, gr241_43, gr241_44, gr241_45, p1, p2, p3, p4, p5, gi246, nI_clamp, m_kindB bd.u]
      | some t =>
        rintro ⟨I3, d1, d2, d3, d4⟩
        have s2 : gm_sf a 2 (nI t) (gb_u I2 246 (a + 1) (nI f)) (gb_u I3 246 (a + 2) (nI t)) := d4.sf (by decide)
        simp (disch := omega) only [d1, gb_lt_d, gb_gd_t, gb_rd_s, gb_bd_s, gb_I_mk, gb_L_mk, gb_sI_mk, gb_sL_mk, gk241, gk242, gk243, gk244, gk245, gk246, gk247, gk248, gk249, gk250, gk251, gk252, gk253, gk254, gk255, gk256, gk257, gk258, gk259, gk260, gk261, gk262, gk263, gk264, gk265, gk266, gk267, gk268, gr241_2, gr241_3, gr241_4, gr241_5, gr241_7, gr241_8, gr241_11, gr241_12, gr241_13, gr241_20, gr241_21, gr241_22, gr241_26, gr241_27, gr241_28, gr241_29, gr241_31, gr241_32, gr241_33, gr241_38, gr241_39, gr241_40, gr241_41, gr241_42, gr241_43, gr241_44, gr241_45, p1, p2, p3, p4, p5, gi246, nI_clamp]
        have t' := m_kind (J := J) (d2.u (k := a + 2) (v := nI t)) (gb_19u d3)
        revert t'
        cases g3 : g_kind c n (gt_n c n (gt_n c n (gt_n c n s))) with
        | none =>
          rintro ⟨I4, f1, f2, f3⟩
          refine ⟨gb_u I4 246 (a + 3) 0, ?_, gb_19u f2, (((e4.1.t s1.1).t s2.1).t f3.fr).t (gm_fr.u (by decide))⟩
          simp (disch := omega) only [f1, gb_lt_d, gb_gd_t, gb_rd_s, gb_bd_s, gb_I_mk, gb_L_mk, gb_sI_mk, gb_sL_mk, gk241, gk242, gk243, gk244, gk245, gk246, gk247, gk248, gk249, gk250, gk251, gk252, gk253, gk254, gk255, gk256, gk257, gk258, gk259, gk260, gk261, gk262, gk263, gk264, gk265, gk266, gk267, gk268, gr241_2, gr241_3, gr241_4, gr241_5, gr241_7, gr241_8, gr241_11, gr241_12, gr241_13, gr241_20, gr241_21, gr241_22, gr241_26, gr241_27, gr241_28, gr241_29, gr241_31, gr241_32, gr241_33, gr241_38, gr241_39, gr241_40, gr241_41, gr241_42, gr241_43, gr241_44, gr241_45, p1, p2, p3, p4, p5, gi246, nI_clamp]
        | some k =>
          rintro ⟨I4, f1, f2, f3, f4⟩
          have hk := g_kind_b g3
          have s3 : gm_sf a 3 (nI (k - 1)) (gb_u I3 246 (a + 2) (nI t)) (gb_u I4 246 (a + 3) (nI (k - 1))) := f4.sf (by decide)
          refine ⟨gb_u I4 246 (a + 3) (nI (k - 1)), ?_, f2.u, gb_19u f3, ((e4.1.t s1.1).t s2.1).t s3.1, ?_⟩
          · simp (disch := omega) only [f1, gb_lt_d, gb_gd_t, gb_rd_s, gb_bd_s, gb_I_mk, gb_L_mk, gb_sI_mk, gb_sL_mk, gk241, gk242, gk243, gk244, gk245, gk246, gk247, gk248, gk249, gk250, gk251, gk252, gk253, gk254, gk255, gk256, gk257, gk258, gk259, gk260, gk261, gk262, gk263, gk264, gk265, gk266, gk267, gk268, gr241_2, gr241_3, gr241_4, gr241_5, gr241_7, gr241_8, gr241_11, gr241_12, gr241_13, gr241_20, gr241_21, gr241_22, gr241_26, gr241_27, gr241_28, gr241_29, gr241_31, gr241_32, gr241_33, gr241_38, gr241_39, gr241_40, gr241_41, gr241_42, gr241_43, gr241_44, gr241_45, p1, p2, p3, p4, p5, gi246, nI_clamp]
          · refine ⟨?_, ?_, ?_, ?_, fun w => absurd w (by show ¬ 0 = 2; decide), ?_, fun w => ?_⟩
            · rw [s3.2.2 a (by omega), s2.2.2 a (by omega), s1.2.2 a (by omega)]; exact e4.2.1
            · rw [s3.2.2 (a + 1) (by omega), s2.2.2 (a + 1) (by omega), s1.2.1]
            · rw [s3.2.2 (a + 2) (by omega), s2.2.1]; rfl
            · rw [s3.2.1]; exact (if_neg (by show ¬ k = 0; omega)).symm
            · rw [s3.2.2 (a + 6) (by omega), s2.2.2 (a + 6) (by omega), s1.2.2 (a + 6) (by omega), e4.2.2 (a + 6) (by omega)]; exact r6
            · rw [s3.2.2 (a + 7) (by omega), s2.2.2 (a + 7) (by omega), s1.2.2 (a + 7) (by omega), e4.2.2 (a + 7) (by omega)]; exact r7 w
  · rw [if_neg a3]
    simp only [m_take0 (J := J) h g (show 3 < 13 by decide) (by decide) a3, gb_lt_d, gb_gd_t, gb_rd_s, gb_bd_s, gb_I_mk, gb_L_mk, gb_sI_mk, gb_sL_mk, gk241, gr241_2, gr241_3, gr241_4, gr241_5, gr241_7, gr241_8, gr241_11, gr241_12, gr241_13, gr241_20, gr241_21, gr241_22, gr241_26, gr241_27, gr241_28, gr241_29, gr241_31, gr241_32, gr241_33, gr241_38, gr241_39, gr241_40, gr241_41, gr241_42, gr241_43, gr241_44, gr241_45, if_true]
    by_cases a7 : gt_is c n s 7 = true
    · rw [if_pos a7]
      obtain ⟨I1, e1, e2, e3, e4⟩ := m_takeA (J := J) (a := a) h g (by decide) (by decide) a7 1
      rw [e1, gb_bd_s, if_neg gb_n10]
      simp (disch := omega) only [gb_lt_d, gb_gd_t, gb_rd_s, gb_bd_s, gb_I_mk, gb_L_mk, gb_sI_mk, gb_sL_mk, gk241, gk242, gk243, gk244, gk245, gk246, gk247, gk248, gk249, gk250, gk251, gk252, gk253, gk254, gk255, gk256, gk257, gk258, gk259, gk260, gk261, gk262, gk263, gk264, gk265, gk266, gk267, gk268, gr241_2, gr241_3, gr241_4, gr241_5, gr241_7, gr241_8, gr241_11, gr241_12, gr241_13, gr241_20, gr241_21, gr241_22, gr241_26, gr241_27, gr241_28, gr241_29, gr241_31, gr241_32, gr241_33, gr241_38, gr241_39, gr241_40, gr241_41, gr241_42, gr241_43, gr241_44, gr241_45, p1, p2, p3, p4, p5, gi246, nI_clamp]
      have t := m_pathF (J := J) e2 e3 (hc.fr e4.1)
      revert t
      cases g1 : g_path c n cs 0 5 (gt_n c n s) with
      | none =>
        rintro ⟨I2, v, b1, b2, b3⟩
        have bd : mBd I2 := mBd.of b2 (by omega)
        refine ⟨gb_u (gb_u I2 246 (a + 1) v) 246 (a + 3) 0, ?_, gb_19u (gb_19u b2), ((e4.1.t b3.fr).t (gm_fr.u (by decide))).t (gm_fr.u (by decide))⟩
        simp (disch := omega) only [b1, gb_lt_d, gb_gd_t, gb_rd_s, gb_bd_s, gb_I_mk, gb_L_mk, gb_sI_mk, gb_sL_mk, gk241, gk242, gk243, gk244, gk245, gk246, gk247, gk248, gk249, gk250, gk251, gk252, gk253, gk254, gk255, gk256, gk257, gk258, gk259, gk260, gk261, gk262, gk263, gk264, gk265, gk266, gk267, gk268, gr241_2, gr241_3, gr241_4, gr241_5, gr241_7, gr241_8, gr241_11, gr241_12, gr241_13, gr241_20, gr241_21, gr241_22, gr241_26, gr241_27, gr241_28, gr241_29, gr241_31, gr241_32, gr241_33, gr241_38, gr241_39, gr241_40, gr241_41, gr241_42, gr241_43, gr241_44, gr241_45, p1, p2, p3, p4, p5, gi246, nI_clamp, m_kindB bd.u]
      | some f =>
        rintro ⟨I2, b1, b2, b3, b4⟩
        have s1 : gm_sf a 1 (nI f) (gb_u I1 246 a 1) (gb_u I2 246 (a + 1) (nI f)) := b4.sf (by decide)
        simp (disch := omega) only [b1, gb_lt_d, gb_gd_t, gb_rd_s, gb_bd_s, gb_I_mk, gb_L_mk, gb_sI_mk, gb_sL_mk, gk241, gk242, gk243, gk244, gk245, gk246, gk247, gk248, gk249, gk250, gk251, gk252, gk253, gk254, gk255, gk256, gk257, gk258, gk259, gk260, gk261, gk262, gk263, gk264, gk265, gk266, gk267, gk268, gr241_2, gr241_3, gr241_4, gr241_5, gr241_7, gr241_8, gr241_11, gr241_12, gr241_13, gr241_20, gr241_21, gr241_22, gr241_26, gr241_27, gr241_28, gr241_29, gr241_31, gr241_32, gr241_33, gr241_38, gr241_39, gr241_40, gr241_41, gr241_42, gr241_43, gr241_44, gr241_45, p1, p2, p3, p4, p5, gi246, nI_clamp]
        have t' := m_kind (J := J) (b2.u (k := a + 1) (v := nI f)) (gb_19u b3)
        revert t'
        cases g3 : g_kind c n (gt_n c n (gt_n c n s)) with
        | none =>
          rintro ⟨I4, f1, f2, f3⟩
          refine ⟨gb_u I4 246 (a + 3) 0, ?_, gb_19u f2, ((e4.1.t s1.1).t f3.fr).t (gm_fr.u (by decide))⟩
          simp (disch := omega) only [f1, gb_lt_d, gb_gd_t, gb_rd_s, gb_bd_s, gb_I_mk, gb_L_mk, gb_sI_mk, gb_sL_mk, gk241, gk242, gk243, gk244, gk245, gk246, gk247, gk248, gk249, gk250, gk251, gk252, gk253, gk254, gk255, gk256, gk257, gk258, gk259, gk260, gk261, gk262, gk263, gk264, gk265, gk266, gk267, gk268, gr241_2, gr241_3, gr241_4, gr241_5, gr241_7, gr241_8, gr241_11, gr241_12, gr241_13, gr241_20, gr241_21, gr241_22, gr241_26, gr241_27, gr241_28, gr241_29, gr241_31, gr241_32, gr241_33, gr241_38, gr241_39, gr241_40, gr241_41, gr241_42, gr241_43, gr241_44, gr241_45, p1, p2, p3, p4, p5, gi246, nI_clamp]
        | some k =>
          rintro ⟨I4, f1, f2, f3, f4⟩
          have hk := g_kind_b g3
          have s3 : gm_sf a 3 (nI (k - 1)) (gb_u I2 246 (a + 1) (nI f)) (gb_u I4 246 (a + 3) (nI (k - 1))) := f4.sf (by decide)
          refine ⟨gb_u I4 246 (a + 3) (nI (k - 1)), ?_, f2.u, gb_19u f3, (e4.1.t s1.1).t s3.1, ?_⟩
          · simp (disch := omega) only [f1, gb_lt_d, gb_gd_t, gb_rd_s, gb_bd_s, gb_I_mk, gb_L_mk, gb_sI_mk, gb_sL_mk, gk241, gk242, gk243, gk244, gk245, gk246, gk247, gk248, gk249, gk250, gk251, gk252, gk253, gk254, gk255, gk256, gk257, gk258, gk259, gk260, gk261, gk262, gk263, gk264, gk265, gk266, gk267, gk268, gr241_2, gr241_3, gr241_4, gr241_5, gr241_7, gr241_8, gr241_11, gr241_12, gr241_13, gr241_20, gr241_21, gr241_22, gr241_26, gr241_27, gr241_28, gr241_29, gr241_31, gr241_32, gr241_33, gr241_38, gr241_39, gr241_40, gr241_41, gr241_42, gr241_43, gr241_44, gr241_45, p1, p2, p3, p4, p5, gi246, nI_clamp]
          · refine ⟨?_, ?_, ?_, ?_, fun w => absurd w (by show ¬ 1 = 2; decide), ?_, fun w => ?_⟩
            · rw [s3.2.2 a (by omega), s1.2.2 a (by omega)]; exact e4.2.1
            · rw [s3.2.2 (a + 1) (by omega), s1.2.1]
            · rw [s3.2.2 (a + 2) (by omega), s1.2.2 (a + 2) (by omega), e4.2.2 (a + 2) (by omega), r2]; rfl
            · rw [s3.2.1]; exact (if_neg (by show ¬ k = 0; omega)).symm
            · rw [s3.2.2 (a + 6) (by omega), s1.2.2 (a + 6) (by omega), e4.2.2 (a + 6) (by omega)]; exact r6
            · rw [s3.2.2 (a + 7) (by omega), s1.2.2 (a + 7) (by omega), e4.2.2 (a + 7) (by omega)]; exact r7 w
    · rw [if_neg a7]
      simp only [m_take0 (J := J) h g (show 7 < 13 by decide) (by decide) a7, gb_lt_d, gb_gd_t, gb_rd_s, gb_bd_s, gb_I_mk, gb_L_mk, gb_sI_mk, gb_sL_mk, gk241, gr241_2, gr241_3, gr241_4, gr241_5, gr241_7, gr241_8, gr241_11, gr241_12, gr241_13, gr241_20, gr241_21, gr241_22, gr241_26, gr241_27, gr241_28, gr241_29, gr241_31, gr241_32, gr241_33, gr241_38, gr241_39, gr241_40, gr241_41, gr241_42, gr241_43, gr241_44, gr241_45, if_true]
      by_cases a8 : gt_is c n s 8 = true
      · rw [if_pos a8]
        obtain ⟨I1, e1, e2, e3, e4⟩ := m_takeA (J := J) (a := a) h g (by decide) (by decide) a8 2
        rw [e1, gb_bd_s, if_neg gb_n10]
        simp (disch := omega) only [gb_lt_d, gb_gd_t, gb_rd_s, gb_bd_s, gb_I_mk, gb_L_mk, gb_sI_mk, gb_sL_mk, gk241, gk242, gk243, gk244, gk245, gk246, gk247, gk248, gk249, gk250, gk251, gk252, gk253, gk254, gk255, gk256, gk257, gk258, gk259, gk260, gk261, gk262, gk263, gk264, gk265, gk266, gk267, gk268, gr241_2, gr241_3, gr241_4, gr241_5, gr241_7, gr241_8, gr241_11, gr241_12, gr241_13, gr241_20, gr241_21, gr241_22, gr241_26, gr241_27, gr241_28, gr241_29, gr241_31, gr241_32, gr241_33, gr241_38, gr241_39, gr241_40, gr241_41, gr241_42, gr241_43, gr241_44, gr241_45, p1, p2, p3, p4, p5, gi246, nI_clamp]
        have t := m_pathF (J := J) e2 e3 (hc.fr e4.1)
        revert t
        cases g1 : g_path c n cs 0 5 (gt_n c n s) with
        | none =>
          rintro ⟨I2, v, b1, b2, b3⟩
          have bd : mBd I2 := mBd.of b2 (by omega)
          refine ⟨gb_u (gb_u I2 246 (a + 1) v) 246 (a + 5) 0, ?_, gb_19u (gb_19u b2), ((e4.1.t b3.fr).t (gm_fr.u (by decide))).t (gm_fr.u (by decide))⟩
          simp (disch := omega) only [b1, gb_lt_d, gb_gd_t, gb_rd_s, gb_bd_s, gb_I_mk, gb_L_mk, gb_sI_mk, gb_sL_mk, gk241, gk242, gk243, gk244, gk245, gk246, gk247, gk248, gk249, gk250, gk251, gk252, gk253, gk254, gk255, gk256, gk257, gk258, gk259, gk260, gk261, gk262, gk263, gk264, gk265, gk266, gk267, gk268, gr241_2, gr241_3, gr241_4, gr241_5, gr241_7, gr241_8, gr241_11, gr241_12, gr241_13, gr241_20, gr241_21, gr241_22, gr241_26, gr241_27, gr241_28, gr241_29, gr241_31, gr241_32, gr241_33, gr241_38, gr241_39, gr241_40, gr241_41, gr241_42, gr241_43, gr241_44, gr241_45, p1, p2, p3, p4, p5, gi246, nI_clamp, m_takeB bd.u, m_numB bd.u, if_true]
        | some f =>
          rintro ⟨I2, b1, b2, b3, b4⟩
          have s1 : gm_sf a 1 (nI f) (gb_u I1 246 a 2) (gb_u I2 246 (a + 1) (nI f)) := b4.sf (by decide)
          simp (disch := omega) only [b1, gb_lt_d, gb_gd_t, gb_rd_s, gb_bd_s, gb_I_mk, gb_L_mk, gb_sI_mk, gb_sL_mk, gk241, gk242, gk243, gk244, gk245, gk246, gk247, gk248, gk249, gk250, gk251, gk252, gk253, gk254, gk255, gk256, gk257, gk258, gk259, gk260, gk261, gk262, gk263, gk264, gk265, gk266, gk267, gk268, gr241_2, gr241_3, gr241_4, gr241_5, gr241_7, gr241_8, gr241_11, gr241_12, gr241_13, gr241_20, gr241_21, gr241_22, gr241_26, gr241_27, gr241_28, gr241_29, gr241_31, gr241_32, gr241_33, gr241_38, gr241_39, gr241_40, gr241_41, gr241_42, gr241_43, gr241_44, gr241_45, p1, p2, p3, p4, p5, gi246, nI_clamp]
          have k2 : mRd (gb_u I2 246 (a + 1) (nI f)) c n (gt_n c n (gt_n c n s)) := b2.u
          have k3 : gb_u I2 246 (a + 1) (nI f) 241 19 = -1 := gb_19u b3
          generalize gb_u I2 246 (a + 1) (nI f) = K at *
          unfold g_shift
          by_cases a9 : gt_is c n (gt_n c n (gt_n c n s)) 9 = true
          · rw [if_pos a9]
            obtain ⟨I3, d1, d2, d3, d4⟩ := m_take1 (J := J) k2 k3 (by decide) (by decide) a9
            rw [d1, gb_bd_s, if_neg gb_n10]
            simp (disch := omega) only [gb_lt_d, gb_gd_t, gb_rd_s, gb_bd_s, gb_I_mk, gb_L_mk, gb_sI_mk, gb_sL_mk, gk241, gk242, gk243, gk244, gk245, gk246, gk247, gk248, gk249, gk250, gk251, gk252, gk253, gk254, gk255, gk256, gk257, gk258, gk259, gk260, gk261, gk262, gk263, gk264, gk265, gk266, gk267, gk268, gr241_2, gr241_3, gr241_4, gr241_5, gr241_7, gr241_8, gr241_11, gr241_12, gr241_13, gr241_20, gr241_21, gr241_22, gr241_26, gr241_27, gr241_28, gr241_29, gr241_31, gr241_32, gr241_33, gr241_38, gr241_39, gr241_40, gr241_41, gr241_42, gr241_43, gr241_44, gr241_45, p1, p2, p3, p4, p5, gi246, nI_clamp]
            have t := m_num (J := J) d2 d3 (most := 1) (by decide)
            rw [show nI 1 = 1 from rfl] at t
            have n5 := gt_n_s (c := c) n4
            revert t
            cases g3 : g_num c n 1 (gt_n c n (gt_n c n (gt_n c n s))) with
            | none =>
              rintro ⟨I4, f1, f2, f3⟩
              have bd : mBd I4 := mBd.of f2 (by omega)
              refine ⟨gb_u (gb_u I4 246 (a + 4) 0) 246 (a + 5) 0, ?_, gb_19u (gb_19u f2), ((((e4.1.t s1.1).t d4.fr).t f3.fr).t (gm_fr.u (by decide))).t (gm_fr.u (by decide))⟩
              simp (disch := omega) only [f1, gb_lt_d, gb_gd_t, gb_rd_s, gb_bd_s, gb_I_mk, gb_L_mk, gb_sI_mk, gb_sL_mk, gk241, gk242, gk243, gk244, gk245, gk246, gk247, gk248, gk249, gk250, gk251, gk252, gk253, gk254, gk255, gk256, gk257, gk258, gk259, gk260, gk261, gk262, gk263, gk264, gk265, gk266, gk267, gk268, gr241_2, gr241_3, gr241_4, gr241_5, gr241_7, gr241_8, gr241_11, gr241_12, gr241_13, gr241_20, gr241_21, gr241_22, gr241_26, gr241_27, gr241_28, gr241_29, gr241_31, gr241_32, gr241_33, gr241_38, gr241_39, gr241_40, gr241_41, gr241_42, gr241_43, gr241_44, gr241_45, p1, p2, p3, p4, p5, gi246, nI_clamp, m_numB bd.u]
            | some m =>
              rintro ⟨I4, f1, f2, f3, f4⟩
              have hm := g_num_le g3
              have s2 : gm_sf a 4 (nI m) I3 (gb_u I4 246 (a + 4) (nI m)) := f4.sf (by decide)
              simp (disch := omega) only [f1, gb_lt_d, gb_gd_t, gb_rd_s, gb_bd_s, gb_I_mk, gb_L_mk, gb_sI_mk, gb_sL_mk, gk241, gk242, gk243, gk244, gk245, gk246, gk247, gk248, gk249, gk250, gk251, gk252, gk253, gk254, gk255, gk256, gk257, gk258, gk259, gk260, gk261, gk262, gk263, gk264, gk265, gk266, gk267, gk268, gr241_2, gr241_3, gr241_4, gr241_5, gr241_7, gr241_8, gr241_11, gr241_12, gr241_13, gr241_20, gr241_21, gr241_22, gr241_26, gr241_27, gr241_28, gr241_29, gr241_31, gr241_32, gr241_33, gr241_38, gr241_39, gr241_40, gr241_41, gr241_42, gr241_43, gr241_44, gr241_45, p1, p2, p3, p4, p5, gi246, nI_clamp]
              have t := m_num (J := J) (f2.u (k := a + 4) (v := nI m)) (gb_19u f3) (most := 3) (by decide)
              rw [show nI 3 = 3 from rfl] at t
              revert t
              cases g4 : g_num c n 3 (gt_n c n (gt_n c n (gt_n c n (gt_n c n s)))) with
              | none =>
                rintro ⟨I5, o1, o2, o3⟩
                refine ⟨gb_u I5 246 (a + 5) 0, ?_, gb_19u o2, ((((e4.1.t s1.1).t d4.fr).t s2.1).t o3.fr).t (gm_fr.u (by decide))⟩
                simp (disch := omega) only [o1, gb_lt_d, gb_gd_t, gb_rd_s, gb_bd_s, gb_I_mk, gb_L_mk, gb_sI_mk, gb_sL_mk, gk241, gk242, gk243, gk244, gk245, gk246, gk247, gk248, gk249, gk250, gk251, gk252, gk253, gk254, gk255, gk256, gk257, gk258, gk259, gk260, gk261, gk262, gk263, gk264, gk265, gk266, gk267, gk268, gr241_2, gr241_3, gr241_4, gr241_5, gr241_7, gr241_8, gr241_11, gr241_12, gr241_13, gr241_20, gr241_21, gr241_22, gr241_26, gr241_27, gr241_28, gr241_29, gr241_31, gr241_32, gr241_33, gr241_38, gr241_39, gr241_40, gr241_41, gr241_42, gr241_43, gr241_44, gr241_45, p1, p2, p3, p4, p5, gi246, nI_clamp]
              | some t =>
                rintro ⟨I5, o1, o2, o3, o4⟩
                have s3 : gm_sf a 5 (nI t) (gb_u I4 246 (a + 4) (nI m)) (gb_u I5 246 (a + 5) (nI t)) := o4.sf (by decide)
                have kd : ∀ j, I3 246 j = K 246 j := fun j => by rw [d4.1 246 (by decide)]
                refine ⟨gb_u I5 246 (a + 5) (nI t), ?_, o2.u, gb_19u o3, (((e4.1.t s1.1).t d4.fr).t s2.1).t s3.1, ?_⟩
                · simp (disch := omega) only [o1, gb_lt_d, gb_gd_t, gb_rd_s, gb_bd_s, gb_I_mk, gb_L_mk, gb_sI_mk, gb_sL_mk, gk241, gk242, gk243, gk244, gk245, gk246, gk247, gk248, gk249, gk250, gk251, gk252, gk253, gk254, gk255, gk256, gk257, gk258, gk259, gk260, gk261, gk262, gk263, gk264, gk265, gk266, gk267, gk268, gr241_2, gr241_3, gr241_4, gr241_5, gr241_7, gr241_8, gr241_11, gr241_12, gr241_13, gr241_20, gr241_21, gr241_22, gr241_26, gr241_27, gr241_28, gr241_29, gr241_31, gr241_32, gr241_33, gr241_38, gr241_39, gr241_40, gr241_41, gr241_42, gr241_43, gr241_44, gr241_45, p1, p2, p3, p4, p5, gi246, nI_clamp]
                · refine ⟨?_, ?_, ?_, ?_, fun _ => ⟨?_, ?_⟩, ?_, fun w => ?_⟩
                  · rw [s3.2.2 a (by omega), s2.2.2 a (by omega), kd, s1.2.2 a (by omega)]; exact e4.2.1
                  · rw [s3.2.2 (a + 1) (by omega), s2.2.2 (a + 1) (by omega), kd, s1.2.1]
                  · rw [s3.2.2 (a + 2) (by omega), s2.2.2 (a + 2) (by omega), kd, s1.2.2 (a + 2) (by omega), e4.2.2 (a + 2) (by omega), r2]; rfl
                  · rw [s3.2.2 (a + 3) (by omega), s2.2.2 (a + 3) (by omega), kd, s1.2.2 (a + 3) (by omega), e4.2.2 (a + 3) (by omega), r3]; rfl
                  · rw [s3.2.2 (a + 4) (by omega), s2.2.1]; exact (if_neg (by show ¬ m = 2; omega)).symm
                  · rw [s3.2.1]
                  · rw [s3.2.2 (a + 6) (by omega), s2.2.2 (a + 6) (by omega), kd, s1.2.2 (a + 6) (by omega), e4.2.2 (a + 6) (by omega)]; exact r6
                  · rw [s3.2.2 (a + 7) (by omega), s2.2.2 (a + 7) (by omega), kd, s1.2.2 (a + 7) (by omega), e4.2.2 (a + 7) (by omega)]; exact r7 w
          · rw [if_neg a9]
            simp (disch := omega) only [m_take0 (J := J) k2 k3 (show 9 < 13 by decide) (by decide) a9, gb_lt_d, gb_gd_t, gb_rd_s, gb_bd_s, gb_I_mk, gb_L_mk, gb_sI_mk, gb_sL_mk, gk241, gk242, gk243, gk244, gk245, gk246, gk247, gk248, gk249, gk250, gk251, gk252, gk253, gk254, gk255, gk256, gk257, gk258, gk259, gk260, gk261, gk262, gk263, gk264, gk265, gk266, gk267, gk268, gr241_2, gr241_3, gr241_4, gr241_5, gr241_7, gr241_8, gr241_11, gr241_12, gr241_13, gr241_20, gr241_21, gr241_22, gr241_26, gr241_27, gr241_28, gr241_29, gr241_31, gr241_32, gr241_33, gr241_38, gr241_39, gr241_40, gr241_41, gr241_42, gr241_43, gr241_44, gr241_45, p1, p2, p3, p4, p5, gi246, nI_clamp, if_true]
            have t := m_num (J := J) k2 k3 (most := 3) (by decide)
            rw [show nI 3 = 3 from rfl] at t
            revert t
            cases g4 : g_num c n 3 (gt_n c n (gt_n c n s)) with
            | none =>
              rintro ⟨I5, o1, o2, o3⟩
              refine ⟨gb_u I5 246 (a + 5) 0, ?_, gb_19u o2, ((e4.1.t s1.1).t o3.fr).t (gm_fr.u (by decide))⟩
              simp (disch := omega) only [o1, gb_lt_d, gb_gd_t, gb_rd_s, gb_bd_s, gb_I_mk, gb_L_mk, gb_sI_mk, gb_sL_mk, gk241, gk242, gk243, gk244, gk245, gk246, gk247, gk248, gk249, gk250, gk251, gk252, gk253, gk254, gk255, gk256, gk257, gk258, gk259, gk260, gk261, gk262, gk263, gk264, gk265, gk266, gk267, gk268, gr241_2, gr241_3, gr241_4, gr241_5, gr241_7, gr241_8, gr241_11, gr241_12, gr241_13, gr241_20, gr241_21, gr241_22, gr241_26, gr241_27, gr241_28, gr241_29, gr241_31, gr241_32, gr241_33, gr241_38, gr241_39, gr241_40, gr241_41, gr241_42, gr241_43, gr241_44, gr241_45, p1, p2, p3, p4, p5, gi246, nI_clamp]
            | some t =>
              rintro ⟨I5, o1, o2, o3, o4⟩
              have s3 : gm_sf a 5 (nI t) K (gb_u I5 246 (a + 5) (nI t)) := o4.sf (by decide)
              refine ⟨gb_u I5 246 (a + 5) (nI t), ?_, o2.u, gb_19u o3, (e4.1.t s1.1).t s3.1, ?_⟩
              · simp (disch := omega) only [o1, gb_lt_d, gb_gd_t, gb_rd_s, gb_bd_s, gb_I_mk, gb_L_mk, gb_sI_mk, gb_sL_mk, gk241, gk242, gk243, gk244, gk245, gk246, gk247, gk248, gk249, gk250, gk251, gk252, gk253, gk254, gk255, gk256, gk257, gk258, gk259, gk260, gk261, gk262, gk263, gk264, gk265, gk266, gk267, gk268, gr241_2, gr241_3, gr241_4, gr241_5, gr241_7, gr241_8, gr241_11, gr241_12, gr241_13, gr241_20, gr241_21, gr241_22, gr241_26, gr241_27, gr241_28, gr241_29, gr241_31, gr241_32, gr241_33, gr241_38, gr241_39, gr241_40, gr241_41, gr241_42, gr241_43, gr241_44, gr241_45, p1, p2, p3, p4, p5, gi246, nI_clamp]
              · refine ⟨?_, ?_, ?_, ?_, fun _ => ⟨?_, ?_⟩, ?_, fun w => ?_⟩
                · rw [s3.2.2 a (by omega), s1.2.2 a (by omega)]; exact e4.2.1
                · rw [s3.2.2 (a + 1) (by omega), s1.2.1]
                · rw [s3.2.2 (a + 2) (by omega), s1.2.2 (a + 2) (by omega), e4.2.2 (a + 2) (by omega), r2]; rfl
                · rw [s3.2.2 (a + 3) (by omega), s1.2.2 (a + 3) (by omega), e4.2.2 (a + 3) (by omega), r3]; rfl
                · rw [s3.2.2 (a + 4) (by omega), s1.2.2 (a + 4) (by omega), e4.2.2 (a + 4) (by omega), r4]; rfl
                · rw [s3.2.1]
                · rw [s3.2.2 (a + 6) (by omega), s1.2.2 (a + 6) (by omega), e4.2.2 (a + 6) (by omega)]; exact r6
                · rw [s3.2.2 (a + 7) (by omega), s1.2.2 (a + 7) (by omega), e4.2.2 (a + 7) (by omega)]; exact r7 w
      · rw [if_neg a8]
        simp only [m_take0 (J := J) h g (show 8 < 13 by decide) (by decide) a8, gb_lt_d, gb_gd_t, gb_rd_s, gb_bd_s, gb_I_mk, gb_L_mk, gb_sI_mk, gb_sL_mk, gk241, gr241_2, gr241_3, gr241_4, gr241_5, gr241_7, gr241_8, gr241_11, gr241_12, gr241_13, gr241_20, gr241_21, gr241_22, gr241_26, gr241_27, gr241_28, gr241_29, gr241_31, gr241_32, gr241_33, gr241_38, gr241_39, gr241_40, gr241_41, gr241_42, gr241_43, gr241_44, gr241_45, if_true]
        by_cases a10 : gt_is c n s 10 = true
        · rw [if_pos a10]
          obtain ⟨I1, e1, e2, e3, e4⟩ := m_takeA (J := J) (a := a) h g (by decide) (by decide) a10 3
          rw [e1, gb_bd_s, if_neg gb_n10]
          simp (disch := omega) only [gb_lt_d, gb_gd_t, gb_rd_s, gb_bd_s, gb_I_mk, gb_L_mk, gb_sI_mk, gb_sL_mk, gk241, gk242, gk243, gk244, gk245, gk246, gk247, gk248, gk249, gk250, gk251, gk252, gk253, gk254, gk255, gk256, gk257, gk258, gk259, gk260, gk261, gk262, gk263, gk264, gk265, gk266, gk267, gk268, gr241_2, gr241_3, gr241_4, gr241_5, gr241_7, gr241_8, gr241_11, gr241_12, gr241_13, gr241_20, gr241_21, gr241_22, gr241_26, gr241_27, gr241_28, gr241_29, gr241_31, gr241_32, gr241_33, gr241_38, gr241_39, gr241_40, gr241_41, gr241_42, gr241_43, gr241_44, gr241_45, p1, p2, p3, p4, p5, gi246, nI_clamp]
          have t := m_pathF (J := J) e2 e3 (hc.fr e4.1)
          revert t
          cases g1 : g_path c n cs 0 5 (gt_n c n s) with
          | none =>
            rintro ⟨I2, v, b1, b2, b3⟩
            have bd : mBd I2 := mBd.of b2 (by omega)
            refine ⟨gb_u (gb_u I2 246 (a + 1) v) 246 (a + 2) 0, ?_, gb_19u (gb_19u b2), ((e4.1.t b3.fr).t (gm_fr.u (by decide))).t (gm_fr.u (by decide))⟩
            simp (disch := omega) only [b1, gb_lt_d, gb_gd_t, gb_rd_s, gb_bd_s, gb_I_mk, gb_L_mk, gb_sI_mk, gb_sL_mk, gk241, gk242, gk243, gk244, gk245, gk246, gk247, gk248, gk249, gk250, gk251, gk252, gk253, gk254, gk255, gk256, gk257, gk258, gk259, gk260, gk261, gk262, gk263, gk264, gk265, gk266, gk267, gk268, gr241_2, gr241_3, gr241_4, gr241_5, gr241_7, gr241_8, gr241_11, gr241_12, gr241_13, gr241_20, gr241_21, gr241_22, gr241_26, gr241_27, gr241_28, gr241_29, gr241_31, gr241_32, gr241_33, gr241_38, gr241_39, gr241_40, gr241_41, gr241_42, gr241_43, gr241_44, gr241_45, p1, p2, p3, p4, p5, gi246, nI_clamp, m_pathB bd.u]
          | some f =>
            rintro ⟨I2, b1, b2, b3, b4⟩
            have hf := (g_path_lt g1).1
            have s1 : gm_sf a 1 (nI f) (gb_u I1 246 a 3) (gb_u I2 246 (a + 1) (nI f)) := b4.sf (by decide)
            simp (disch := omega) only [b1, gb_lt_d, gb_gd_t, gb_rd_s, gb_bd_s, gb_I_mk, gb_L_mk, gb_sI_mk, gb_sL_mk, gk241, gk242, gk243, gk244, gk245, gk246, gk247, gk248, gk249, gk250, gk251, gk252, gk253, gk254, gk255, gk256, gk257, gk258, gk259, gk260, gk261, gk262, gk263, gk264, gk265, gk266, gk267, gk268, gr241_2, gr241_3, gr241_4, gr241_5, gr241_7, gr241_8, gr241_11, gr241_12, gr241_13, gr241_20, gr241_21, gr241_22, gr241_26, gr241_27, gr241_28, gr241_29, gr241_31, gr241_32, gr241_33, gr241_38, gr241_39, gr241_40, gr241_41, gr241_42, gr241_43, gr241_44, gr241_45, p1, p2, p3, p4, p5, gi246, nI_clamp, gb_u_s]
            have t := m_pathS (J := J) (b2.u (k := a + 1) (v := nI f)) (gb_19u b3) ((hc.fr e4.1).fr s1.1) hf
            revert t
            cases g2 : g_path c n cs 0 f (gt_n c n (gt_n c n s)) with
            | none =>
              rintro ⟨I3, v, d1, d2, d3⟩
              refine ⟨gb_u I3 246 (a + 2) v, ?_, gb_19u d2, ((e4.1.t s1.1).t d3.fr).t (gm_fr.u (by decide))⟩
              simp (disch := omega) only [d1, gb_lt_d, gb_gd_t, gb_rd_s, gb_bd_s, gb_I_mk, gb_L_mk, gb_sI_mk, gb_sL_mk, gk241, gk242, gk243, gk244, gk245, gk246, gk247, gk248, gk249, gk250, gk251, gk252, gk253, gk254, gk255, gk256, gk257, gk258, gk259, gk260, gk261, gk262, gk263, gk264, gk265, gk266, gk267, gk268, gr241_2, gr241_3, gr241_4, gr241_5, gr241_7, gr241_8, gr241_11, gr241_12, gr241_13, gr241_20, gr241_21, gr241_22, gr241_26, gr241_27, gr241_28, gr241_29, gr241_31, gr241_32, gr241_33, gr241_38, gr241_39, gr241_40, gr241_41, gr241_42, gr241_43, gr241_44, gr241_45, p1, p2, p3, p4, p5, gi246, nI_clamp]
            | some t =>
              rintro ⟨I3, d1, d2, d3, d4⟩
              have s2 : gm_sf a 2 (nI t) (gb_u I2 246 (a + 1) (nI f)) (gb_u I3 246 (a + 2) (nI t)) := d4.sf (by decide)
              refine ⟨gb_u I3 246 (a + 2) (nI t), ?_, d2.u, gb_19u d3, (e4.1.t s1.1).t s2.1, ?_⟩
              · simp (disch := omega) only [d1, gb_lt_d, gb_gd_t, gb_rd_s, gb_bd_s, gb_I_mk, gb_L_mk, gb_sI_mk, gb_sL_mk, gk241, gk242, gk243, gk244, gk245, gk246, gk247, gk248, gk249, gk250, gk251, gk252, gk253, gk254, gk255, gk256, gk257, gk258, gk259, gk260, gk261, gk262, gk263, gk264, gk265, gk266, gk267, gk268, gr241_2, gr241_3, gr241_4, gr241_5, gr241_7, gr241_8, gr241_11, gr241_12, gr241_13, gr241_20, gr241_21, gr241_22, gr241_26, gr241_27, gr241_28, gr241_29, gr241_31, gr241_32, gr241_33, gr241_38, gr241_39, gr241_40, gr241_41, gr241_42, gr241_43, gr241_44, gr241_45, p1, p2, p3, p4, p5, gi246, nI_clamp]
              · refine ⟨?_, ?_, ?_, ?_, fun w => absurd w (by show ¬ 3 = 2; decide), ?_, fun w => ?_⟩
                · rw [s2.2.2 a (by omega), s1.2.2 a (by omega)]; exact e4.2.1
                · rw [s2.2.2 (a + 1) (by omega), s1.2.1]
                · rw [s2.2.1]; rfl
                · rw [s2.2.2 (a + 3) (by omega), s1.2.2 (a + 3) (by omega), e4.2.2 (a + 3) (by omega), r3]; rfl
                · rw [s2.2.2 (a + 6) (by omega), s1.2.2 (a + 6) (by omega), e4.2.2 (a + 6) (by omega)]; exact r6
                · rw [s2.2.2 (a + 7) (by omega), s1.2.2 (a + 7) (by omega), e4.2.2 (a + 7) (by omega)]; exact r7 w
        · rw [if_neg a10]
          have fl : fnX11_faults 241 (gb_mk I J) = some ((), gb_mk (gb_u I 241 19 (nI s)) J) := m_faultsG g h.2.2.1
          refine ⟨_, ?_, gb_u_s _ _ _ _, gm_f1.fa.fr⟩
          simp only [m_take0 (J := J) h g (show 10 < 13 by decide) (by decide) a10, gb_lt_d, gb_gd_t, gb_rd_s, gb_bd_s, gb_I_mk, gb_L_mk, gb_sI_mk, gb_sL_mk, gk241, gr241_2, gr241_3, gr241_4, gr241_5, gr241_7, gr241_8, gr241_11, gr241_12, gr241_13, gr241_20, gr241_21, gr241_22, gr241_26, gr241_27, gr241_28, gr241_29, gr241_31, gr241_32, gr241_33, gr241_38, gr241_39, gr241_40, gr241_41, gr241_42, gr241_43, gr241_44, gr241_45, if_true, fl]
end MDEED2
