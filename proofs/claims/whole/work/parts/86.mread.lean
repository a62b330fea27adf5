section MREAD2
variable {I I' I1 I2 : gb_FI} {J J' : gb_FJ} {c : Nat → Nat} {n s cs : Nat}
def gm_v (most : Nat) (c : Nat → Nat) (s : Nat) : Nat → Nat
  | 0 => 0
  | j + 1 => if gm_v most c s j ≤ most then 10 * gm_v most c s j + (c (s + j) - 48) else gm_v most c s j
theorem gm_v_s {most : Nat} (hm : most ≤ 4) {c : Nat → Nat} {s : Nat} : ∀ j, (∀ i, i < j → c (s + i) ≤ 57) → (gt_d c s j ≤ most → gm_v most c s j = gt_d c s j) ∧ (most < gt_d c s j → most < gm_v most c s j) ∧ gm_v most c s j ≤ 49
  | 0, _ => ⟨fun _ => rfl, fun h => h, Nat.zero_le _⟩
  | j + 1, h => by
    obtain ⟨a, b, d⟩ := gm_v_s hm j (fun i hi => h i (by omega))
    have hj := h j (by omega)
    have le := gt_d_le c s j
    rw [gm_v, gt_d]
    by_cases q : gt_d c s j ≤ most
    · have e := a q
      rw [e, if_pos q]
      omega
    · have e := b (by omega)
      rw [if_neg (by omega)]
      omega
def gm_f1 (I I' : gb_FI) : Prop := (∀ m, m ≠ 241 → I' m = I m) ∧ ∀ k, k ≠ 16 → k ≠ 17 → k ≠ 19 → I' 241 k = I 241 k
theorem gm_ad.f1 (h : gm_ad I I') : gm_f1 I I' := ⟨h.1, fun k a b _ => h.2 k a b⟩
theorem gm_f1.fa {v : Int32} : gm_f1 I (gb_u I 241 19 v) := ⟨fun m h => gb_u_row _ _ h, fun k _ _ h => gb_u_nk _ _ h⟩
theorem gm_f1.t (a : gm_f1 I I1) (b : gm_f1 I1 I2) : gm_f1 I I2 := ⟨fun m h => (b.1 m h).trans (a.1 m h), fun k h1 h2 h3 => (b.2 k h1 h2 h3).trans (a.2 k h1 h2 h3)⟩
theorem m_num (h : mRd I c n s) (g : I 241 19 = -1) {most : Nat} (hm : most ≤ 4) : match g_num c n most s with
    | none => ∃ I', fnX11_number 241 (nI most) (gb_mk I J) = some (0, gb_mk I' J) ∧ I' 241 19 = nI s ∧ gm_f1 I I'
    | some v => ∃ I', fnX11_number 241 (nI most) (gb_mk I J) = some (nI v, gb_mk I' J) ∧ mRd I' c n (gt_n c n s) ∧ I' 241 19 = -1 ∧ gm_ad I I' := by
  have h0 := h
  obtain ⟨t, hs, h2, h3⟩ := h
  have hn := t.1
  have es := gt_e_s (c := c) hs
  have fl : fnX11_faults 241 (gb_mk I J) = some ((), gb_mk (gb_u I 241 19 (nI s)) J) := m_faultsG g h2
  simp only [fnX11_number, gb_lt_d, gb_gd_t, gb_rd_s, gb_bd_s, gb_I_mk, gb_L_mk, gb_sI_mk, gb_sL_mk, gk241, gr241_2, gr241_3, gr241_4, gr241_5, gr241_7, gr241_8, gr241_11, gr241_12, gr241_13, gr241_20, gr241_21, gr241_22, gr241_26, gr241_27, gr241_28, gr241_29, gr241_31, gr241_32, gr241_33, gr241_38, gr241_39, gr241_40, gr241_41, gr241_42, gr241_43, gr241_44, gr241_45, m_goodG g, h2, m_isDg t hs]
  rw [if_neg gb_n10]
  by_cases q : s < n ∧ gt_dg c s = true
  · rw [if_pos q, if_neg gb_n10]
    have ee : gt_e c n s = gt_w (gt_dg c) n s := by unfold gt_e; rw [if_pos q.1, if_pos q.2]
    have dg : ∀ p, s ≤ p → p < gt_e c n s → 48 ≤ c p ∧ c p ≤ 57 := fun p a b => by
      have := (gt_w_s (Q := gt_dg c) hs).2.2.1 p a (by rw [← ee]; exact b)
      simpa [gt_dg] using this
    obtain ⟨v1, v2, v3⟩ := gm_v_s (most := most) hm (c := c) (s := s) (gt_e c n s - s) (fun i hi => (dg (s + i) (by omega) (by omega)).2)
    have lp : ∀ out, (∀ k, fbX11_number_37 k 241 (nI most) (nI (gm_v most c s (gt_e c n s - s))) (nI (gt_e c n s)) (gb_mk I J) = out) → lpX11_number_37 gb_FU 241 (nI most) 0 (nI s) (gb_mk I J) = out := by
      intro out hout
      simp only [lpX11_number_37]
      refine gb_forF (fun i => (241, nI most, nI (gm_v most c s i), nI (s + i), gb_mk I J)) (gt_e c n s - s) (by omega) ?_ ?_
      · intro j hj k
        obtain ⟨w1, w2, w3⟩ := gm_v_s (most := most) hm (c := c) (s := s) j (fun i hi => (dg (s + i) (by omega) (by omega)).2)
        obtain ⟨d1, d2⟩ := dg (s + j) (by omega) (by omega)
        obtain ⟨b1, b2⟩ := t.2.2 (s + j) (by omega)
        rw [sb_low _ (by omega)] at b2
        simp only [fbX11_number_37, fbX11_number_68, gb_lt_d, gb_gd_t, gb_rd_s, gb_bd_s, gb_I_mk, gb_L_mk, gb_sI_mk, gb_sL_mk, gk241, gr241_2, gr241_3, gr241_4, gr241_5, gr241_7, gr241_8, gr241_11, gr241_12, gr241_13, gr241_20, gr241_21, gr241_22, gr241_26, gr241_27, gr241_28, gr241_29, gr241_31, gr241_32, gr241_33, gr241_38, gr241_39, gr241_40, gr241_41, gr241_42, gr241_43, gr241_44, gr241_45, h3]
        rw [if_neg (show ¬ nI (gt_e c n s) ≤ nI (s + j) from nI_ge (by omega) (by omega)), gm_v]
        have ea : (10 : Int32) * nI (gm_v most c s j) + nI (c (s + j)) - 48 = nI (10 * gm_v most c s j + (c (s + j) - 48)) := by
          rw [gb_lit 10, gb_lit 48, gb_nI_mul, nI_add, gb_nI_sub (by omega)]
          congr 1
          omega
        by_cases le : gm_v most c s j ≤ most
        · rw [if_pos (show nI (gm_v most c s j) ≤ nI most from nI_le le (by omega)), if_pos le]
          simp (disch := omega) only [gb_lt_d, gb_gd_t, gb_rd_s, gb_bd_s, gb_I_mk, gb_L_mk, gb_sI_mk, gb_sL_mk, gk241, gk242, gk243, gk244, gk245, gk246, gk247, gk248, gk249, gk250, gk251, gk252, gk253, gk254, gk255, gk256, gk257, gk258, gk259, gk260, gk261, gk262, gk263, gk264, gk265, gk266, gk267, gk268, gr241_2, gr241_3, gr241_4, gr241_5, gr241_7, gr241_8, gr241_11, gr241_12, gr241_13, gr241_20, gr241_21, gr241_22, gr241_26, gr241_27, gr241_28, gr241_29, gr241_31, gr241_32, gr241_33, gr241_38, gr241_39, gr241_40, gr241_41, gr241_42, gr241_43, gr241_44, gr241_45, gi249, nI_clamp, b2, ea, gb_lit 1, nI_add]
          rfl
        · rw [if_neg (show ¬ nI (gm_v most c s j) ≤ nI most from nI_ge (by omega) (by omega)), if_neg le, gb_lit 1, nI_add]
          rfl
      · intro k
        have := hout (fun v0 v1 v2 v3 h => k (v0, v1, v2, v3, h))
        rw [show gt_e c n s = s + (gt_e c n s - s) by omega] at this
        rw [show s + (gt_e c n s - s) - s = gt_e c n s - s by omega] at this
        exact this
    by_cases r : gt_d c s (gt_e c n s - s) ≤ most
    · rw [show g_num c n most s = some (gt_d c s (gt_e c n s - s)) from if_pos ⟨q.1, q.2, r⟩]
      obtain ⟨I', e1, e2, e3⟩ := m_adv (J := J) h0
      refine ⟨I', ?_, e2, by rw [e3.2 19 (by decide) (by decide)]; exact g, e3⟩
      refine lp _ (fun k => ?_)
      simp only [fbX11_number_37, gb_lt_d, gb_gd_t, gb_rd_s, gb_bd_s, gb_I_mk, gb_L_mk, gb_sI_mk, gb_sL_mk, gk241, gr241_2, gr241_3, gr241_4, gr241_5, gr241_7, gr241_8, gr241_11, gr241_12, gr241_13, gr241_20, gr241_21, gr241_22, gr241_26, gr241_27, gr241_28, gr241_29, gr241_31, gr241_32, gr241_33, gr241_38, gr241_39, gr241_40, gr241_41, gr241_42, gr241_43, gr241_44, gr241_45, h3, v1 r, e1]
      rw [if_pos (show nI (gt_e c n s) ≤ nI (gt_e c n s) from nI_le (Nat.le_refl _) (by omega)), if_pos (show nI (gt_d c s (gt_e c n s - s)) ≤ nI most from nI_le r (by omega))]
    · rw [show g_num c n most s = none from if_neg (fun w => r w.2.2)]
      refine ⟨_, ?_, gb_u_s _ _ _ _, gm_f1.fa⟩
      refine lp _ (fun k => ?_)
      have := v2 (by omega)
      simp only [fbX11_number_37, gb_lt_d, gb_gd_t, gb_rd_s, gb_bd_s, gb_I_mk, gb_L_mk, gb_sI_mk, gb_sL_mk, gk241, gr241_2, gr241_3, gr241_4, gr241_5, gr241_7, gr241_8, gr241_11, gr241_12, gr241_13, gr241_20, gr241_21, gr241_22, gr241_26, gr241_27, gr241_28, gr241_29, gr241_31, gr241_32, gr241_33, gr241_38, gr241_39, gr241_40, gr241_41, gr241_42, gr241_43, gr241_44, gr241_45, h3, fl]
      rw [if_pos (show nI (gt_e c n s) ≤ nI (gt_e c n s) from nI_le (Nat.le_refl _) (by omega)), if_neg (show ¬ nI (gm_v most c s (gt_e c n s - s)) ≤ nI most from nI_ge this (by omega))]
  · rw [if_neg q, if_pos (show (0 : Int32) = 0 from rfl), show g_num c n most s = none from if_neg (fun w => q ⟨w.1, w.2.1⟩)]
    exact ⟨_, by rw [fl, gb_bd_s], gb_u_s _ _ _ _, gm_f1.fa⟩
/-- the paths counted so far -/
def mCs (I : gb_FI) (cs : Nat) : Prop := cs < 32 ∧ ∀ p, p < 5 → I 247 p = nI (cs / 2 ^ p % 2)
theorem mCs.k (h : mCs I cs) (k : I' 247 = I 247) : mCs I' cs := ⟨h.1, fun p hp => by rw [k]; exact h.2 p hp⟩
theorem m_path (h : mRd I c n s) (g : I 241 19 = -1) (hc : mCs I cs) {w u : Nat} (hw : w < 2) (hu : u ≤ 5) : match g_path c n cs w u s with
    | none => ∃ I' v, fnX11_path 241 (nI w) (gb_m1 5 u) (gb_mk I J) = some (v, gb_mk I' J) ∧ I' 241 19 = nI s ∧ gm_f1 I I'
    | some v => ∃ I', fnX11_path 241 (nI w) (gb_m1 5 u) (gb_mk I J) = some (nI v, gb_mk I' J) ∧ mRd I' c n (gt_n c n s) ∧ I' 241 19 = -1 ∧ gm_ad I I' := by
  have t := m_num (J := J) h g (show 4 ≤ 4 by decide)
  have hn := h.1.1
  have hs := h.2.1
  rw [show nI 4 = 4 from rfl] at t
  simp only [fnX11_path, fbX11_path_45, fbX11_path_50, gb_lt_d, gb_gd_t, gb_rd_s, gb_bd_s, gb_I_mk, gb_L_mk, gb_sI_mk, gb_sL_mk, gk241, gr241_2, gr241_3, gr241_4, gr241_5, gr241_7, gr241_8, gr241_11, gr241_12, gr241_13, gr241_20, gr241_21, gr241_22, gr241_26, gr241_27, gr241_28, gr241_29, gr241_31, gr241_32, gr241_33, gr241_38, gr241_39, gr241_40, gr241_41, gr241_42, gr241_43, gr241_44, gr241_45, m_goodG g, h.2.2.1]
  rw [if_neg gb_n10]
  unfold g_path
  revert t
  cases e : g_num c n 4 s with
  | none =>
    rintro ⟨I1, b1, b2, b3⟩
    refine ⟨I1, 0, ?_, b2, b3⟩
    have bd : mBd I1 := by unfold mBd; rw [b2]; exact gb_nmi s (by omega)
    simp only [b1, gb_lt_d, gb_gd_t, gb_rd_s, gb_bd_s, gb_I_mk, gb_L_mk, gb_sI_mk, gb_sL_mk, gk241, gr241_2, gr241_3, gr241_4, gr241_5, gr241_7, gr241_8, gr241_11, gr241_12, gr241_13, gr241_20, gr241_21, gr241_22, gr241_26, gr241_27, gr241_28, gr241_29, gr241_31, gr241_32, gr241_33, gr241_38, gr241_39, gr241_40, gr241_41, gr241_42, gr241_43, gr241_44, gr241_45, m_goodB bd, if_true]
  | some v =>
    rintro ⟨I1, b1, b2, b3, b4⟩
    have hv := g_num_le e
    have c1 : I1 247 v = nI (cs / 2 ^ v % 2) := by rw [b4.1 247 (by decide)]; exact hc.2 v (by omega)
    simp (disch := omega) only [b1, gb_lt_d, gb_gd_t, gb_rd_s, gb_bd_s, gb_I_mk, gb_L_mk, gb_sI_mk, gb_sL_mk, gk241, gk242, gk243, gk244, gk245, gk246, gk247, gk248, gk249, gk250, gk251, gk252, gk253, gk254, gk255, gk256, gk257, gk258, gk259, gk260, gk261, gk262, gk263, gk264, gk265, gk266, gk267, gk268, gr241_2, gr241_3, gr241_4, gr241_5, gr241_7, gr241_8, gr241_11, gr241_12, gr241_13, gr241_20, gr241_21, gr241_22, gr241_26, gr241_27, gr241_28, gr241_29, gr241_31, gr241_32, gr241_33, gr241_38, gr241_39, gr241_40, gr241_41, gr241_42, gr241_43, gr241_44, gr241_45, m_goodG b3, gi247, nI_clamp, c1]
    rw [if_neg gb_n10]
    show match (if v ≠ u ∧ cs / 2 ^ v % 2 = w then some v else none) with
      | none => _
      | some v => _
    have m1 := gb_m1_eq (u := u) (v := v) hu (by omega)
    have m2 : nI (cs / 2 ^ v % 2) = nI w ↔ cs / 2 ^ v % 2 = w := nI_eq (by omega) (by omega)
    by_cases q1 : cs / 2 ^ v % 2 = w
    · rw [if_pos (m2.mpr q1)]
      by_cases q2 : v = u
      · rw [if_neg (fun x => x.1 q2), if_pos (m1.mpr q2)]
        exact ⟨_, _, rfl, gb_u_s _ _ _ _, b4.f1.t gm_f1.fa⟩
      · rw [if_pos ⟨q2, q1⟩, if_neg (fun x => q2 (m1.mp x))]
        exact ⟨I1, rfl, b2, b3, b4⟩
    · rw [if_neg (fun x => q1 (m2.mp x)), if_neg (fun x => q1 x.2)]
      exact ⟨_, _, rfl, gb_u_s _ _ _ _, b4.f1.t gm_f1.fa⟩
theorem m_kind (h : mRd I c n s) (g : I 241 19 = -1) : match g_kind c n s with
    | none => ∃ I', fnX11_kind 241 (gb_mk I J) = some (0, gb_mk I' J) ∧ I' 241 19 = nI s ∧ gm_f1 I I'
    | some v => ∃ I', fnX11_kind 241 (gb_mk I J) = some (nI (v - 1), gb_mk I' J) ∧ mRd I' c n (gt_n c n s) ∧ I' 241 19 = -1 ∧ gm_ad I I' := by
  have fl : fnX11_faults 241 (gb_mk I J) = some ((), gb_mk (gb_u I 241 19 (nI s)) J) := m_faultsG g h.2.2.1
  rw [show fnX11_kind = fnX11_kind from rfl]
  unfold g_kind
  simp only [fnX11_kind, gb_lt_d, gb_gd_t, gb_rd_s, gb_bd_s, gb_I_mk, gb_L_mk, gb_sI_mk, gb_sL_mk, gk241, gr241_2, gr241_3, gr241_4, gr241_5, gr241_7, gr241_8, gr241_11, gr241_12, gr241_13, gr241_20, gr241_21, gr241_22, gr241_26, gr241_27, gr241_28, gr241_29, gr241_31, gr241_32, gr241_33, gr241_38, gr241_39, gr241_40, gr241_41, gr241_42, gr241_43, gr241_44, gr241_45, show (5425428 : Int64) = lN (gt_cd 4) from rfl, show (611814 : Int64) = lN (gt_cd 5) from rfl, show (208936 : Int64) = lN (gt_cd 6) from rfl]
  by_cases a4 : gt_is c n s 4 = true
  · rw [if_pos a4]
    obtain ⟨I1, e1, e2, e3, e4⟩ := m_take1 (J := J) h g (by decide) (by decide) a4
    refine ⟨I1, ?_, e2, e3, e4⟩
    simp only [e1, gb_lt_d, gb_gd_t, gb_rd_s, gb_bd_s, gb_I_mk, gb_L_mk, gb_sI_mk, gb_sL_mk]
    rw [if_neg gb_n10]
    rfl
  · rw [if_neg a4]
    simp only [m_take0 (J := J) h g (show 4 < 13 by decide) (by decide) a4, gb_lt_d, gb_gd_t, gb_rd_s, gb_bd_s, gb_I_mk, gb_L_mk, gb_sI_mk, gb_sL_mk, gk241, gr241_2, gr241_3, gr241_4, gr241_5, gr241_7, gr241_8, gr241_11, gr241_12, gr241_13, gr241_20, gr241_21, gr241_22, gr241_26, gr241_27, gr241_28, gr241_29, gr241_31, gr241_32, gr241_33, gr241_38, gr241_39, gr241_40, gr241_41, gr241_42, gr241_43, gr241_44, gr241_45, if_true]
    by_cases a5 : gt_is c n s 5 = true
    · rw [if_pos a5]
      obtain ⟨I1, e1, e2, e3, e4⟩ := m_take1 (J := J) h g (by decide) (by decide) a5
      refine ⟨I1, ?_, e2, e3, e4⟩
      simp only [e1, gb_lt_d, gb_gd_t, gb_rd_s, gb_bd_s, gb_I_mk, gb_L_mk, gb_sI_mk, gb_sL_mk]
      rw [if_neg gb_n10]
      rfl
    · rw [if_neg a5]
      simp only [m_take0 (J := J) h g (show 5 < 13 by decide) (by decide) a5, gb_lt_d, gb_gd_t, gb_rd_s, gb_bd_s, gb_I_mk, gb_L_mk, gb_sI_mk, gb_sL_mk, gk241, gr241_2, gr241_3, gr241_4, gr241_5, gr241_7, gr241_8, gr241_11, gr241_12, gr241_13, gr241_20, gr241_21, gr241_22, gr241_26, gr241_27, gr241_28, gr241_29, gr241_31, gr241_32, gr241_33, gr241_38, gr241_39, gr241_40, gr241_41, gr241_42, gr241_43, gr241_44, gr241_45, if_true]
      by_cases a6 : gt_is c n s 6 = true
      · rw [if_pos a6]
        obtain ⟨I1, e1, e2, e3, e4⟩ := m_take1 (J := J) h g (by decide) (by decide) a6
        refine ⟨I1, ?_, e2, e3, e4⟩
        simp only [e1, gb_lt_d, gb_gd_t, gb_rd_s, gb_bd_s, gb_I_mk, gb_L_mk, gb_sI_mk, gb_sL_mk]
        rw [if_neg gb_n10]
        rfl
      · rw [if_neg a6]
        refine ⟨_, ?_, gb_u_s _ _ _ _, gm_f1.fa⟩
        simp only [m_take0 (J := J) h g (show 6 < 13 by decide) (by decide) a6, gb_lt_d, gb_gd_t, gb_rd_s, gb_bd_s, gb_I_mk, gb_L_mk, gb_sI_mk, gb_sL_mk, gk241, gr241_2, gr241_3, gr241_4, gr241_5, gr241_7, gr241_8, gr241_11, gr241_12, gr241_13, gr241_20, gr241_21, gr241_22, gr241_26, gr241_27, gr241_28, gr241_29, gr241_31, gr241_32, gr241_33, gr241_38, gr241_39, gr241_40, gr241_41, gr241_42, gr241_43, gr241_44, gr241_45, if_true, fl]
end MREAD2
