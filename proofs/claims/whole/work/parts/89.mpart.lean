section MPART
variable {I I' I1 I2 : gb_FI} {J J' : gb_FJ} {c : Nat → Nat} {n s cs ls a m : Nat}
theorem m_267B (bd : mBd I) : fbX11_part_267 241 (gb_mk I J) = some ((), gb_mk I J) := by
  simp only [fbX11_part_267, fbX11_part_284, gb_lt_d, gb_gd_t, gb_rd_s, gb_bd_s, gb_I_mk, gb_L_mk, gb_sI_mk, gb_sL_mk, gk241, gr241_2, gr241_3, gr241_4, gr241_5, gr241_7, gr241_8, gr241_11, gr241_12, gr241_13, gr241_20, gr241_21, gr241_22, gr241_26, gr241_27, gr241_28, gr241_29, gr241_31, gr241_32, gr241_33, gr241_38, gr241_39, gr241_40, gr241_41, gr241_42, gr241_43, gr241_44, gr241_45, m_goodB bd, if_true]
theorem m_267G (g : I 241 19 = -1) (h9 : I 241 9 = nI m) : fbX11_part_267 241 (gb_mk I J) = some ((), gb_mk (gb_u I 241 9 (nI (m + 1))) J) := by
  simp only [fbX11_part_267, fbX11_part_284, gb_lt_d, gb_gd_t, gb_rd_s, gb_bd_s, gb_I_mk, gb_L_mk, gb_sI_mk, gb_sL_mk, gk241, gr241_2, gr241_3, gr241_4, gr241_5, gr241_7, gr241_8, gr241_11, gr241_12, gr241_13, gr241_20, gr241_21, gr241_22, gr241_26, gr241_27, gr241_28, gr241_29, gr241_31, gr241_32, gr241_33, gr241_38, gr241_39, gr241_40, gr241_41, gr241_42, gr241_43, gr241_44, gr241_45, m_goodG g, h9]
  rw [if_neg gb_n10, nI_1]
theorem m_117B (bd : mBd I) (v : Int32) : fbX11_part_117 241 v (gb_mk I J) = some ((), gb_mk I J) := by
  simp only [fbX11_part_117, gb_lt_d, gb_gd_t, gb_rd_s, gb_bd_s, gb_I_mk, gb_L_mk, gb_sI_mk, gb_sL_mk, gk241, gr241_2, gr241_3, gr241_4, gr241_5, gr241_7, gr241_8, gr241_11, gr241_12, gr241_13, gr241_20, gr241_21, gr241_22, gr241_26, gr241_27, gr241_28, gr241_29, gr241_31, gr241_32, gr241_33, gr241_38, gr241_39, gr241_40, gr241_41, gr241_42, gr241_43, gr241_44, gr241_45, m_goodB bd, if_true, m_267B bd]
theorem m_89B (bd : mBd I) (ha : a + 8 ≤ 128) : fbX11_part_89 241 (nI a) (gb_mk I J) = some ((), gb_mk (gb_u I 246 (a + 7) 0) J) := by
  have p7 : nI a + 7 = nI (a + 7) := nI_add a 7
  simp (disch := omega) only [fbX11_part_89, gb_lt_d, gb_gd_t, gb_rd_s, gb_bd_s, gb_I_mk, gb_L_mk, gb_sI_mk, gb_sL_mk, gk241, gk242, gk243, gk244, gk245, gk246, gk247, gk248, gk249, gk250, gk251, gk252, gk253, gk254, gk255, gk256, gk257, gk258, gk259, gk260, gk261, gk262, gk263, gk264, gk265, gk266, gk267, gk268, gr241_2, gr241_3, gr241_4, gr241_5, gr241_7, gr241_8, gr241_11, gr241_12, gr241_13, gr241_20, gr241_21, gr241_22, gr241_26, gr241_27, gr241_28, gr241_29, gr241_31, gr241_32, gr241_33, gr241_38, gr241_39, gr241_40, gr241_41, gr241_42, gr241_43, gr241_44, gr241_45, p7, gi246, nI_clamp, m_numB bd, m_takeB bd.u, m_faultsB bd.u, m_117B bd.u, if_true]
/-- what may move while a part is read -/
def gm_fp (a : Nat) (I I' : gb_FI) : Prop := (∀ x, x ≠ 241 → x ≠ 246 → x ≠ 247 → I' x = I x) ∧ (∀ k, k ≠ 9 → k ≠ 10 → k ≠ 16 → k ≠ 17 → k ≠ 19 → I' 241 k = I 241 k) ∧ ∀ k, k < a → I' 246 k = I 246 k
theorem gm_fr.fp (x : gm_fr a I I') : gm_fp a I I' := ⟨fun y h1 h2 _ => x.1 y h1 h2, fun k _ _ h1 h2 h3 => x.2.1 k h1 h2 h3, fun k h => x.2.2 k (Or.inl h)⟩
theorem gm_fp.t (x : gm_fp a I I1) (y : gm_fp a I1 I2) : gm_fp a I I2 := ⟨fun z h1 h2 h3 => (y.1 z h1 h2 h3).trans (x.1 z h1 h2 h3), fun k h1 h2 h3 h4 h5 => (y.2.1 k h1 h2 h3 h4 h5).trans (x.2.1 k h1 h2 h3 h4 h5), fun k h => (y.2.2 k h).trans (x.2.2 k h)⟩
theorem gm_fp.u9 {v : Int32} : gm_fp a I (gb_u I 241 9 v) := ⟨fun z h _ _ => gb_u_row _ _ h, fun k h _ _ _ _ => gb_u_nk _ _ h, fun k _ => by rw [gb_u_row _ _ (by decide)]⟩
theorem gm_fp.u10 {v : Int32} : gm_fp a I (gb_u I 241 10 v) := ⟨fun z h _ _ => gb_u_row _ _ h, fun k _ h _ _ _ => gb_u_nk _ _ h, fun k _ => by rw [gb_u_row _ _ (by decide)]⟩
theorem gm_fp.u7 {j : Nat} {v : Int32} : gm_fp a I (gb_u I 247 j v) := ⟨fun z _ _ h => gb_u_row _ _ h, fun k _ _ _ _ _ => by rw [gb_u_row _ _ (by decide)], fun k _ => by rw [gb_u_row _ _ (by decide)]⟩
theorem mRd.k (h : mRd I c n s) (k1 : I' 249 = I 249) (k2 : ∀ k, k = 15 ∨ k = 16 ∨ k = 17 → I' 241 k = I 241 k) : mRd I' c n s := by
  obtain ⟨⟨t1, t2, t3⟩, hs, h2, h3⟩ := h
  exact ⟨⟨t1, by rw [k2 15 (by decide)]; exact t2, fun i hi => by rw [k1]; exact t3 i hi⟩, hs, by rw [k2 16 (by decide)]; exact h2, by rw [k2 17 (by decide)]; exact h3⟩
/-- a good part: the count raised -/
theorem m_pok {r : (gb_P × Nat × Nat) × Nat} (h9 : I 241 9 = nI m) (h : mRd I1 c n r.2) (g : I1 241 19 = -1) (h9' : I1 241 9 = I 241 9) (hc : mCs I1 r.1.2.1) (h10 : I1 241 10 = nI r.1.2.2) (hp : mP (I1 246) a r.1.1) (f : gm_fp a I I1) :
    ∃ I', fbX11_part_267 241 (gb_mk I1 J) = some ((), gb_mk I' J) ∧ mRd I' c n r.2 ∧ I' 241 19 = -1 ∧ mCs I' r.1.2.1 ∧ I' 241 10 = nI r.1.2.2 ∧ I' 241 9 = nI (m + 1) ∧ mP (I' 246) a r.1.1 ∧ gm_fp a I I' := by
  refine ⟨gb_u I1 241 9 (nI (m + 1)), m_267G g (h9'.trans h9), h.k (gb_u_row _ _ (by decide)) (fun k hk => gb_u_nk _ _ (by omega)), by rw [gb_u_nk _ _ (by decide)]; exact g, hc.k (gb_u_row _ _ (by decide)), by rw [gb_u_nk _ _ (by decide)]; exact h10, gb_u_s _ _ _ _, by rw [gb_u_row _ _ (by decide)]; exact hp, f.t gm_fp.u9⟩
theorem m_deedP (h : mRd I c n s) (g : I 241 19 = -1) (hc : mCs I cs) (h10 : I 241 10 = nI ls) (h9 : I 241 9 = nI m) (ha : a + 8 ≤ 128) {wp wc : Nat} (r : gm_rq a wp wc I) : match (match g_deed c n cs wp wc s with
      | .error e => .error e
      | .ok r => .ok ((r.1, cs, ls), r.2) : Except Nat ((gb_P × Nat × Nat) × Nat)) with
    | .error e => ∃ I', (gb_bd (fnX11_deed 241 (nI a) (gb_mk I J)) fun _ h7 => fbX11_part_267 241 h7) = some ((), gb_mk I' J) ∧ I' 241 19 = nI e ∧ gm_fp a I I'
    | .ok r => ∃ I', (gb_bd (fnX11_deed 241 (nI a) (gb_mk I J)) fun _ h7 => fbX11_part_267 241 h7) = some ((), gb_mk I' J) ∧ mRd I' c n r.2 ∧ I' 241 19 = -1 ∧ mCs I' r.1.2.1 ∧ I' 241 10 = nI r.1.2.2 ∧ I' 241 9 = nI (m + 1) ∧ mP (I' 246) a r.1.1 ∧ gm_fp a I I' := by
  have hn := h.1.1
  have t := m_deed (J := J) h g hc ha r
  have we := (g_deed_e (c := c) (cs := cs) (wp := wp) (wc := wc) h.2.1).1
  revert t we
  cases g_deed c n cs wp wc s with
  | error e =>
    rintro ⟨I1, b1, b2, b3⟩ we
    have := we e rfl
    refine ⟨I1, ?_, b2, b3.fp⟩
    rw [b1, gb_bd_s]
    exact m_267B (mBd.of b2 (by omega))
  | ok r =>
    rintro ⟨I1, b1, b2, b3, b4, b5⟩ -
    rw [b1, gb_bd_s]
    exact m_pok (r := ((r.1, cs, ls), r.2)) h9 b2 b3 (b4.2.1 9 (by decide) (by decide) (by decide)) (hc.fr b4) (by rw [b4.2.1 10 (by decide) (by decide) (by decide)]; exact h10) b5 b4.fp
theorem m_part51 (h : mRd I c n s) (g : I 241 19 = -1) (hc : mCs I cs) (h10 : I 241 10 = nI ls) (hl : ls ≤ 3) (hx : gt_is c n s 0 = true ∨ ¬ (gt_is c n s 11 = true ∧ ls = 3)) (h9 : I 241 9 = nI m) (ha : a + 8 ≤ 128) (fh : ∀ j, j < 8 → I 246 (a + j) = if j < 3 then 0 else -1) : match g_part c n cs ls s with
    | .error e => ∃ I', fbX11_part_51 241 (nI a) (gb_mk I J) = some ((), gb_mk I' J) ∧ I' 241 19 = nI e ∧ gm_fp a I I'
    | .ok r => ∃ I', fbX11_part_51 241 (nI a) (gb_mk I J) = some ((), gb_mk I' J) ∧ mRd I' c n r.2 ∧ I' 241 19 = -1 ∧ mCs I' r.1.2.1 ∧ I' 241 10 = nI r.1.2.2 ∧ I' 241 9 = nI (m + 1) ∧ mP (I' 246) a r.1.1 ∧ gm_fp a I I' := by
  have hn := h.1.1
  have hs := h.2.1
  have n1 := gt_n_s (c := c) hs
  have n2 := gt_n_s (c := c) n1
  have n3 := gt_n_s (c := c) n2
  have n4 := gt_n_s (c := c) n3
  have n5 := gt_n_s (c := c) n4
  have p1 : nI a + 1 = nI (a + 1) := nI_1 a
  have p2 : nI a + 2 = nI (a + 2) := nI_add a 2
  have p3 : nI a + 3 = nI (a + 3) := nI_add a 3
  have p6 : nI a + 6 = nI (a + 6) := nI_add a 6
  have p7 : nI a + 7 = nI (a + 7) := nI_add a 7
  have f2 := fh 2 (by decide)
  have f3 := fh 3 (by decide)
  have f4 := fh 4 (by decide)
  have f6 := fh 6 (by decide)
  have rq : gm_rq a 5 0 I := ⟨f2, f3, f4, f6, fun w => absurd rfl w⟩
  simp only [fbX11_part_51, gb_lt_d, gb_gd_t, gb_rd_s, gb_bd_s, gb_I_mk, gb_L_mk, gb_sI_mk, gb_sL_mk, gk241, gr241_2, gr241_3, gr241_4, gr241_5, gr241_7, gr241_8, gr241_11, gr241_12, gr241_13, gr241_20, gr241_21, gr241_22, gr241_26, gr241_27, gr241_28, gr241_29, gr241_31, gr241_32, gr241_33, gr241_38, gr241_39, gr241_40, gr241_41, gr241_42, gr241_43, gr241_44, gr241_45, show (201 : Int64) = lN (gt_cd 0) from rfl, show (183788 : Int64) = lN (gt_cd 11) from rfl, show (21452259 : Int64) = lN (gt_cd 12) from rfl]
  unfold g_part
  by_cases a0 : gt_is c n s 0 = true
  · rw [if_pos a0]
    obtain ⟨I1, e1, e2, e3, e4⟩ := m_take1 (J := J) h g (by decide) (by decide) a0
    rw [e1, gb_bd_s, if_neg gb_n10]
    have t := m_pathW (J := J) e2 e3 (hc.fr (a := a) e4.fr)
    unfold g_wait
    revert t
    cases g1 : g_path c n cs 1 5 (gt_n c n s) with
    | none =>
      rintro ⟨I2, v, b1, b2, b3⟩
      have bd : mBd I2 := mBd.of b2 (by omega)
      refine ⟨gb_u (gb_u I2 246 (a + 6) v) 246 (a + 7) 0, ?_, gb_19u (gb_19u b2), (((e4.fr.t b3.fr).t (gm_fr.u (by decide))).t (gm_fr.u (by decide))).fp⟩
      simp (disch := omega) only [b1, gb_lt_d, gb_gd_t, gb_rd_s, gb_bd_s, gb_I_mk, gb_L_mk, gb_sI_mk, gb_sL_mk, gk241, gk242, gk243, gk244, gk245, gk246, gk247, gk248, gk249, gk250, gk251, gk252, gk253, gk254, gk255, gk256, gk257, gk258, gk259, gk260, gk261, gk262, gk263, gk264, gk265, gk266, gk267, gk268, gr241_2, gr241_3, gr241_4, gr241_5, gr241_7, gr241_8, gr241_11, gr241_12, gr241_13, gr241_20, gr241_21, gr241_22, gr241_26, gr241_27, gr241_28, gr241_29, gr241_31, gr241_32, gr241_33, gr241_38, gr241_39, gr241_40, gr241_41, gr241_42, gr241_43, gr241_44, gr241_45, p6, gi246, nI_clamp, m_signB bd.u, m_faultsB bd.u, m_89B bd.u ha, if_true]
    | some v =>
      rintro ⟨I2, b1, b2, b3, b4⟩
      have hv := (g_path_lt g1).1
      have s1 : gm_sf a 6 (nI v) I1 (gb_u I2 246 (a + 6) (nI v)) := b4.sf (by decide)
      simp (disch := omega) only [b1, gb_lt_d, gb_gd_t, gb_rd_s, gb_bd_s, gb_I_mk, gb_L_mk, gb_sI_mk, gb_sL_mk, gk241, gk242, gk243, gk244, gk245, gk246, gk247, gk248, gk249, gk250, gk251, gk252, gk253, gk254, gk255, gk256, gk257, gk258, gk259, gk260, gk261, gk262, gk263, gk264, gk265, gk266, gk267, gk268, gr241_2, gr241_3, gr241_4, gr241_5, gr241_7, gr241_8, gr241_11, gr241_12, gr241_13, gr241_20, gr241_21, gr241_22, gr241_26, gr241_27, gr241_28, gr241_29, gr241_31, gr241_32, gr241_33, gr241_38, gr241_39, gr241_40, gr241_41, gr241_42, gr241_43, gr241_44, gr241_45, p6, gi246, nI_clamp]
      have k2 : mRd (gb_u I2 246 (a + 6) (nI v)) c n (gt_n c n (gt_n c n s)) := b2.u
      have k3 : gb_u I2 246 (a + 6) (nI v) 241 19 = -1 := gb_19u b3
      generalize gb_u I2 246 (a + 6) (nI v) = K at *
      have t := m_sign61 (J := J) k2 k3
      show match (match (if gt_is c n (gt_n c n (gt_n c n s)) 1 = true then _ else _ : Except Nat ((Nat × Nat) × Nat)) with
          | .error e => _
          | .ok w => _ : Except Nat ((gb_P × Nat × Nat) × Nat)) with
        | .error e => _
        | .ok r => _
      by_cases a1 : gt_is c n (gt_n c n (gt_n c n s)) 1 = true
      · rw [if_pos a1] at t ⊢
        obtain ⟨I3, d1, d2, d3, d4⟩ := t
        rw [d1, gb_bd_s, if_neg gb_n10]
        have t := m_num (J := J) d2 d3 (most := 3) (by decide)
        rw [show nI 3 = 3 from rfl] at t
        simp (disch := omega) only [fbX11_part_89, gb_lt_d, gb_gd_t, gb_rd_s, gb_bd_s, gb_I_mk, gb_L_mk, gb_sI_mk, gb_sL_mk, gk241, gk242, gk243, gk244, gk245, gk246, gk247, gk248, gk249, gk250, gk251, gk252, gk253, gk254, gk255, gk256, gk257, gk258, gk259, gk260, gk261, gk262, gk263, gk264, gk265, gk266, gk267, gk268, gr241_2, gr241_3, gr241_4, gr241_5, gr241_7, gr241_8, gr241_11, gr241_12, gr241_13, gr241_20, gr241_21, gr241_22, gr241_26, gr241_27, gr241_28, gr241_29, gr241_31, gr241_32, gr241_33, gr241_38, gr241_39, gr241_40, gr241_41, gr241_42, gr241_43, gr241_44, gr241_45, p7]
        revert t
        cases g2 : g_num c n 3 (gt_n c n (gt_n c n (gt_n c n s))) with
        | none =>
          rintro ⟨I4, o1, o2, o3⟩
          have bd : mBd I4 := mBd.of o2 (by omega)
          refine ⟨gb_u I4 246 (a + 7) 0, ?_, gb_19u o2, ((((e4.fr.t s1.1).t d4.fr).t o3.fr).t (gm_fr.u (by decide))).fp⟩
          simp (disch := omega) only [o1, gb_lt_d, gb_gd_t, gb_rd_s, gb_bd_s, gb_I_mk, gb_L_mk, gb_sI_mk, gb_sL_mk, gk241, gk242, gk243, gk244, gk245, gk246, gk247, gk248, gk249, gk250, gk251, gk252, gk253, gk254, gk255, gk256, gk257, gk258, gk259, gk260, gk261, gk262, gk263, gk264, gk265, gk266, gk267, gk268, gr241_2, gr241_3, gr241_4, gr241_5, gr241_7, gr241_8, gr241_11, gr241_12, gr241_13, gr241_20, gr241_21, gr241_22, gr241_26, gr241_27, gr241_28, gr241_29, gr241_31, gr241_32, gr241_33, gr241_38, gr241_39, gr241_40, gr241_41, gr241_42, gr241_43, gr241_44, gr241_45, gi246, nI_clamp, m_takeB bd.u, m_faultsB bd.u, m_117B bd.u, if_true]
        | some w =>
          rintro ⟨I4, o1, o2, o3, o4⟩
          have hw := g_num_le g2
          have s2 : gm_sf a 7 (nI w) I3 (gb_u I4 246 (a + 7) (nI w)) := o4.sf (by decide)
          simp (disch := omega) only [o1, gb_lt_d, gb_gd_t, gb_rd_s, gb_bd_s, gb_I_mk, gb_L_mk, gb_sI_mk, gb_sL_mk, gk241, gk242, gk243, gk244, gk245, gk246, gk247, gk248, gk249, gk250, gk251, gk252, gk253, gk254, gk255, gk256, gk257, gk258, gk259, gk260, gk261, gk262, gk263, gk264, gk265, gk266, gk267, gk268, gr241_2, gr241_3, gr241_4, gr241_5, gr241_7, gr241_8, gr241_11, gr241_12, gr241_13, gr241_20, gr241_21, gr241_22, gr241_26, gr241_27, gr241_28, gr241_29, gr241_31, gr241_32, gr241_33, gr241_38, gr241_39, gr241_40, gr241_41, gr241_42, gr241_43, gr241_44, gr241_45, gi246, nI_clamp, show (484 : Int64) = lN (gt_cd 2) from rfl]
          have y2 : mRd (gb_u I4 246 (a + 7) (nI w)) c n (gt_n c n (gt_n c n (gt_n c n (gt_n c n s)))) := o2.u
          have y3 : gb_u I4 246 (a + 7) (nI w) 241 19 = -1 := gb_19u o3
          have fr : gm_fr a I (gb_u I4 246 (a + 7) (nI w)) := ((e4.fr.t s1.1).t d4.fr).t s2.1
          have rw' : gm_rq a v w (gb_u I4 246 (a + 7) (nI w)) := by
            have kd : ∀ j, I3 246 j = K 246 j := fun j => by rw [d4.1 246 (by decide)]
            have ke : ∀ j, I1 246 j = I 246 j := fun j => by rw [e4.1 246 (by decide)]
            refine ⟨?_, ?_, ?_, ?_, fun _ => s2.2.1⟩
            · rw [s2.2.2 (a + 2) (by omega), kd, s1.2.2 (a + 2) (by omega), ke]; exact f2
            · rw [s2.2.2 (a + 3) (by omega), kd, s1.2.2 (a + 3) (by omega), ke]; exact f3
            · rw [s2.2.2 (a + 4) (by omega), kd, s1.2.2 (a + 4) (by omega), ke]; exact f4
            · rw [s2.2.2 (a + 6) (by omega), kd, s1.2.1]; exact (if_neg (by omega)).symm
          generalize gb_u I4 246 (a + 7) (nI w) = K2 at *
          show match (match (if gt_is c n (gt_n c n (gt_n c n (gt_n c n (gt_n c n s)))) 2 = true then _ else _ : Except Nat ((Nat × Nat) × Nat)) with
              | .error e => _
              | .ok w => _ : Except Nat ((gb_P × Nat × Nat) × Nat)) with
            | .error e => _
            | .ok r => _
          by_cases a2 : gt_is c n (gt_n c n (gt_n c n (gt_n c n (gt_n c n s)))) 2 = true
          · rw [if_pos a2]
            obtain ⟨I5, u1, u2, u3, u4⟩ := m_take1 (J := J) y2 y3 (by decide) (by decide) a2
            rw [u1, gb_bd_s, if_neg gb_n10]
            have fr5 : gm_fr a I I5 := fr.t u4.fr
            have t := m_deedP (J := J) (ls := ls) (m := m) u2 u3 (hc.fr fr5) (by rw [fr5.2.1 10 (by decide) (by decide) (by decide)]; exact h10) (by rw [fr5.2.1 9 (by decide) (by decide) (by decide)]; exact h9) ha (by unfold gm_rq at rw' ⊢; rw [u4.1 246 (by decide)]; exact rw' : gm_rq a v w I5)
            simp only [fbX11_part_117, gb_lt_d, gb_gd_t, gb_rd_s, gb_bd_s, gb_I_mk, gb_L_mk, gb_sI_mk, gb_sL_mk, gk241, gr241_2, gr241_3, gr241_4, gr241_5, gr241_7, gr241_8, gr241_11, gr241_12, gr241_13, gr241_20, gr241_21, gr241_22, gr241_26, gr241_27, gr241_28, gr241_29, gr241_31, gr241_32, gr241_33, gr241_38, gr241_39, gr241_40, gr241_41, gr241_42, gr241_43, gr241_44, gr241_45, m_goodG u3]
            rw [if_neg gb_n10]
            revert t
            show _ → match (match g_deed c n cs v w (gt_n c n (gt_n c n (gt_n c n (gt_n c n (gt_n c n s))))) with
                | .error e => .error e
                | .ok r => .ok ((r.1, cs, ls), r.2) : Except Nat ((gb_P × Nat × Nat) × Nat)) with
              | .error e => _
              | .ok r => _
            cases g_deed c n cs v w (gt_n c n (gt_n c n (gt_n c n (gt_n c n (gt_n c n s))))) with
            | error e =>
              rintro ⟨I6, z1, z2, z3⟩
              exact ⟨I6, z1, z2, fr5.fp.t z3⟩
            | ok r =>
              rintro ⟨I6, z1, z2, z3, z4, z5, z6, z7, z8⟩
              exact ⟨I6, z1, z2, z3, z4, z5, z6, z7, fr5.fp.t z8⟩
          · rw [if_neg a2, m_take0 (J := J) y2 y3 (show 2 < 13 by decide) (by decide) a2, gb_bd_s, if_pos (show (0 : Int32) = 0 from rfl)]
            have fl := m_faultsG (J := J) y3 y2.2.2.1
            have bd : mBd (gb_u K2 241 19 (nI (gt_n c n (gt_n c n (gt_n c n (gt_n c n s)))))) := mBd.of (gb_u_s _ _ _ _) (by omega)
            refine ⟨_, ?_, gb_u_s _ _ _ _, (fr.t gm_f1.fa.fr).fp⟩
            simp only [fl, gb_lt_d, gb_gd_t, gb_rd_s, gb_bd_s, gb_I_mk, gb_L_mk, gb_sI_mk, gb_sL_mk, gk241, gr241_2, gr241_3, gr241_4, gr241_5, gr241_7, gr241_8, gr241_11, gr241_12, gr241_13, gr241_20, gr241_21, gr241_22, gr241_26, gr241_27, gr241_28, gr241_29, gr241_31, gr241_32, gr241_33, gr241_38, gr241_39, gr241_40, gr241_41, gr241_42, gr241_43, gr241_44, gr241_45]
            exact m_117B bd _
      · rw [if_neg a1] at t ⊢
        rw [t, gb_bd_s, if_pos (show (0 : Int32) = 0 from rfl)]
        have fl := m_faultsG (J := J) k3 k2.2.2.1
        have bd : mBd (gb_u K 241 19 (nI (gt_n c n (gt_n c n s)))) := mBd.of (gb_u_s _ _ _ _) (by omega)
        refine ⟨gb_u (gb_u K 241 19 (nI (gt_n c n (gt_n c n s)))) 246 (a + 7) 0, ?_, gb_19u (gb_u_s _ _ _ _), (((e4.fr.t s1.1).t gm_f1.fa.fr).t (gm_fr.u (by decide))).fp⟩
        simp only [fl, gb_lt_d, gb_gd_t, gb_rd_s, gb_bd_s, gb_I_mk, gb_L_mk, gb_sI_mk, gb_sL_mk, gk241, gr241_2, gr241_3, gr241_4, gr241_5, gr241_7, gr241_8, gr241_11, gr241_12, gr241_13, gr241_20, gr241_21, gr241_22, gr241_26, gr241_27, gr241_28, gr241_29, gr241_31, gr241_32, gr241_33, gr241_38, gr241_39, gr241_40, gr241_41, gr241_42, gr241_43, gr241_44, gr241_45]
        exact m_89B bd ha
  · rw [if_neg a0, m_take0 (J := J) h g (show 0 < 13 by decide) (by decide) a0, gb_bd_s, if_pos (show (0 : Int32) = 0 from rfl)]
    by_cases a1 : gt_is c n s 11 = true
    · have l3 : ls < 3 := by
        rcases hx with w | w
        · exact absurd w a0
        · have : ¬ ls = 3 := fun e => w ⟨a1, e⟩
          omega
      rw [if_pos a1, if_pos l3]
      obtain ⟨I1, e1, e2, e3, e4⟩ := m_takeA (J := J) (a := a) h g (by decide) (by decide) a1 4
      simp (disch := omega) only [gb_lt_d, gb_gd_t, gb_rd_s, gb_bd_s, gb_I_mk, gb_L_mk, gb_sI_mk, gb_sL_mk, gk241, gr241_2, gr241_3, gr241_4, gr241_5, gr241_7, gr241_8, gr241_11, gr241_12, gr241_13, gr241_20, gr241_21, gr241_22, gr241_26, gr241_27, gr241_28, gr241_29, gr241_31, gr241_32, gr241_33, gr241_38, gr241_39, gr241_40, gr241_41, gr241_42, gr241_43, gr241_44, gr241_45]
      rw [e1, gb_bd_s, if_neg gb_n10]
      simp (disch := omega) only [gb_lt_d, gb_gd_t, gb_rd_s, gb_bd_s, gb_I_mk, gb_L_mk, gb_sI_mk, gb_sL_mk, gk241, gk242, gk243, gk244, gk245, gk246, gk247, gk248, gk249, gk250, gk251, gk252, gk253, gk254, gk255, gk256, gk257, gk258, gk259, gk260, gk261, gk262, gk263, gk264, gk265, gk266, gk267, gk268, gr241_2, gr241_3, gr241_4, gr241_5, gr241_7, gr241_8, gr241_11, gr241_12, gr241_13, gr241_20, gr241_21, gr241_22, gr241_26, gr241_27, gr241_28, gr241_29, gr241_31, gr241_32, gr241_33, gr241_38, gr241_39, gr241_40, gr241_41, gr241_42, gr241_43, gr241_44, gr241_45, p1, p2, p3, gi246, nI_clamp]
      have t := m_pathF (J := J) e2 e3 (hc.fr e4.1)
      revert t
      cases g1 : g_path c n cs 0 5 (gt_n c n s) with
      | none =>
        rintro ⟨I2, v, b1, b2, b3⟩
        have bd : mBd I2 := mBd.of b2 (by omega)
        have k10 : I2 241 10 = nI ls := by rw [b3.2 10 (by decide) (by decide) (by decide), e4.1.2.1 10 (by decide) (by decide) (by decide)]; exact h10
        refine ⟨gb_u (gb_u (gb_u (gb_u I2 246 (a + 1) v) 246 (a + 2) (nI ls)) 246 (a + 3) 0) 241 10 (nI ls + 1), ?_, by rw [gb_u_nk _ _ (by decide)]; exact gb_19u (gb_19u (gb_19u b2)), (((((e4.1.t b3.fr).t (gm_fr.u (by decide))).t (gm_fr.u (by decide))).t (gm_fr.u (by decide))).fp).t gm_fp.u10⟩
        have bd3 : mBd (gb_u (gb_u (gb_u (gb_u I2 246 (a + 1) v) 246 (a + 2) (nI ls)) 246 (a + 3) 0) 241 10 (nI ls + 1)) := by
          unfold mBd
          rw [gb_u_nk _ _ (by decide)]
          exact (bd.u.u).u
        simp (disch := omega) only [b1, gb_lt_d, gb_gd_t, gb_rd_s, gb_bd_s, gb_I_mk, gb_L_mk, gb_sI_mk, gb_sL_mk, gk241, gk242, gk243, gk244, gk245, gk246, gk247, gk248, gk249, gk250, gk251, gk252, gk253, gk254, gk255, gk256, gk257, gk258, gk259, gk260, gk261, gk262, gk263, gk264, gk265, gk266, gk267, gk268, gr241_2, gr241_3, gr241_4, gr241_5, gr241_7, gr241_8, gr241_11, gr241_12, gr241_13, gr241_20, gr241_21, gr241_22, gr241_26, gr241_27, gr241_28, gr241_29, gr241_31, gr241_32, gr241_33, gr241_38, gr241_39, gr241_40, gr241_41, gr241_42, gr241_43, gr241_44, gr241_45, p1, p2, p3, gi246, nI_clamp, gb_u_ne _ _ (show (241 : Nat) ≠ 246 by decide), k10, m_kindB bd.u.u, m_267B bd3]
      | some f =>
        rintro ⟨I2, b1, b2, b3, b4⟩
        have s1 : gm_sf a 1 (nI f) (gb_u I1 246 a 4) (gb_u I2 246 (a + 1) (nI f)) := b4.sf (by decide)
        have k10 : I2 241 10 = nI ls := by rw [b4.2 10 (by decide) (by decide), e4.1.2.1 10 (by decide) (by decide) (by decide)]; exact h10
        have s2 : gm_sf a 2 (nI ls) (gb_u I2 246 (a + 1) (nI f)) (gb_u (gb_u I2 246 (a + 1) (nI f)) 246 (a + 2) (nI ls)) := ⟨gm_fr.u (by decide), gb_u_s _ _ _ _, fun j hj => gb_u_nk _ _ hj⟩
        simp (disch := omega) only [b1, gb_lt_d, gb_gd_t, gb_rd_s, gb_bd_s, gb_I_mk, gb_L_mk, gb_sI_mk, gb_sL_mk, gk241, gk242, gk243, gk244, gk245, gk246, gk247, gk248, gk249, gk250, gk251, gk252, gk253, gk254, gk255, gk256, gk257, gk258, gk259, gk260, gk261, gk262, gk263, gk264, gk265, gk266, gk267, gk268, gr241_2, gr241_3, gr241_4, gr241_5, gr241_7, gr241_8, gr241_11, gr241_12, gr241_13, gr241_20, gr241_21, gr241_22, gr241_26, gr241_27, gr241_28, gr241_29, gr241_31, gr241_32, gr241_33, gr241_38, gr241_39, gr241_40, gr241_41, gr241_42, gr241_43, gr241_44, gr241_45, p1, p2, p3, gi246, nI_clamp, gb_u_ne _ _ (show (241 : Nat) ≠ 246 by decide), k10]
        have t' := m_kind (J := J) ((b2.u (k := a + 1) (v := nI f)).u (k := a + 2) (v := nI ls)) (gb_19u (gb_19u b3))
        have q10 : ∀ I4, gm_f1 (gb_u (gb_u I2 246 (a + 1) (nI f)) 246 (a + 2) (nI ls)) I4 → I4 241 10 = nI ls := fun I4 x => by
          rw [x.2 10 (by decide) (by decide) (by decide), gb_u_row _ _ (by decide), gb_u_row _ _ (by decide)]; exact k10
        revert t'
        cases g3 : g_kind c n (gt_n c n (gt_n c n s)) with
        | none =>
          rintro ⟨I4, o1, o2, o3⟩
          have bd : mBd I4 := mBd.of o2 (by omega)
          have bd3 : mBd (gb_u (gb_u I4 246 (a + 3) 0) 241 10 (nI ls + 1)) := by
            unfold mBd
            rw [gb_u_nk _ _ (by decide)]
            exact bd.u
          refine ⟨gb_u (gb_u I4 246 (a + 3) 0) 241 10 (nI ls + 1), ?_, by rw [gb_u_nk _ _ (by decide)]; exact gb_19u o2, (((((e4.1.t s1.1).t s2.1).t o3.fr).t (gm_fr.u (by decide))).fp).t gm_fp.u10⟩
          simp (disch := omega) only [o1, gb_lt_d, gb_gd_t, gb_rd_s, gb_bd_s, gb_I_mk, gb_L_mk, gb_sI_mk, gb_sL_mk, gk241, gk242, gk243, gk244, gk245, gk246, gk247, gk248, gk249, gk250, gk251, gk252, gk253, gk254, gk255, gk256, gk257, gk258, gk259, gk260, gk261, gk262, gk263, gk264, gk265, gk266, gk267, gk268, gr241_2, gr241_3, gr241_4, gr241_5, gr241_7, gr241_8, gr241_11, gr241_12, gr241_13, gr241_20, gr241_21, gr241_22, gr241_26, gr241_27, gr241_28, gr241_29, gr241_31, gr241_32, gr241_33, gr241_38, gr241_39, gr241_40, gr241_41, gr241_42, gr241_43, gr241_44, gr241_45, p1, p2, p3, gi246, nI_clamp, gb_u_ne _ _ (show (241 : Nat) ≠ 246 by decide), q10 I4 o3, m_267B bd3]
        | some k =>
          rintro ⟨I4, o1, o2, o3, o4⟩
          have hk := g_kind_b g3
          have s3 : gm_sf a 3 (nI (k - 1)) (gb_u (gb_u I2 246 (a + 1) (nI f)) 246 (a + 2) (nI ls)) (gb_u I4 246 (a + 3) (nI (k - 1))) := o4.sf (by decide)
          have fr : gm_fr a I (gb_u I4 246 (a + 3) (nI (k - 1))) := ((e4.1.t s1.1).t s2.1).t s3.1
          simp (disch := omega) only [o1, gb_lt_d, gb_gd_t, gb_rd_s, gb_bd_s, gb_I_mk, gb_L_mk, gb_sI_mk, gb_sL_mk, gk241, gk242, gk243, gk244, gk245, gk246, gk247, gk248, gk249, gk250, gk251, gk252, gk253, gk254, gk255, gk256, gk257, gk258, gk259, gk260, gk261, gk262, gk263, gk264, gk265, gk266, gk267, gk268, gr241_2, gr241_3, gr241_4, gr241_5, gr241_7, gr241_8, gr241_11, gr241_12, gr241_13, gr241_20, gr241_21, gr241_22, gr241_26, gr241_27, gr241_28, gr241_29, gr241_31, gr241_32, gr241_33, gr241_38, gr241_39, gr241_40, gr241_41, gr241_42, gr241_43, gr241_44, gr241_45, p1, p2, p3, gi246, nI_clamp, gb_u_ne _ _ (show (241 : Nat) ≠ 246 by decide), q10 I4 o4.f1]
          rw [nI_1]
          refine m_pok (r := (((4, f, 0, k, 2, 0, 5, 0, ls), cs, ls + 1), gt_n c n (gt_n c n (gt_n c n s)))) h9 ?_ ?_ ?_ ?_ (gb_u_s _ _ _ _) ?_ (fr.fp.t gm_fp.u10)
          · exact (o2.u (k := a + 3) (v := nI (k - 1))).k (gb_u_row _ _ (by decide)) (fun j hj => gb_u_nk _ _ (by omega))
          · rw [gb_u_nk _ _ (by decide)]; exact gb_19u o3
          · rw [gb_u_nk _ _ (by decide)]; exact fr.2.1 9 (by decide) (by decide) (by decide)
          · exact (hc.fr fr).k (gb_u_row _ _ (by decide))
          · rw [gb_u_row _ _ (by decide)]
            refine ⟨?_, ?_, ?_, ?_, fun w => absurd w (by show ¬ 4 = 2; decide), ?_, fun w => absurd rfl w⟩
            · rw [s3.2.2 a (by omega), s2.2.2 a (by omega), s1.2.2 a (by omega)]; exact e4.2.1
            · rw [s3.2.2 (a + 1) (by omega), s2.2.2 (a + 1) (by omega), s1.2.1]
            · rw [s3.2.2 (a + 2) (by omega), s2.2.1]; rfl
            · rw [s3.2.1]; exact (if_neg (by show ¬ k = 0; omega)).symm
            · rw [s3.2.2 (a + 6) (by omega), s2.2.2 (a + 6) (by omega), s1.2.2 (a + 6) (by omega), e4.2.2 (a + 6) (by omega), f6]; rfl
    · rw [if_neg a1]
      simp (disch := omega) only [gb_lt_d, gb_gd_t, gb_rd_s, gb_bd_s, gb_I_mk, gb_L_mk, gb_sI_mk, gb_sL_mk, gk241, gr241_2, gr241_3, gr241_4, gr241_5, gr241_7, gr241_8, gr241_11, gr241_12, gr241_13, gr241_20, gr241_21, gr241_22, gr241_26, gr241_27, gr241_28, gr241_29, gr241_31, gr241_32, gr241_33, gr241_38, gr241_39, gr241_40, gr241_41, gr241_42, gr241_43, gr241_44, gr241_45]
      rw [m_take0 (J := J) h g (show 11 < 13 by decide) (by decide) a1, gb_bd_s, if_pos (show (0 : Int32) = 0 from rfl)]
      by_cases a2 : gt_is c n s 12 = true
      · rw [if_pos a2]
        obtain ⟨I1, e1, e2, e3, e4⟩ := m_takeA (J := J) (a := a) h g (by decide) (by decide) a2 5
        simp (disch := omega) only [gb_lt_d, gb_gd_t, gb_rd_s, gb_bd_s, gb_I_mk, gb_L_mk, gb_sI_mk, gb_sL_mk, gk241, gr241_2, gr241_3, gr241_4, gr241_5, gr241_7, gr241_8, gr241_11, gr241_12, gr241_13, gr241_20, gr241_21, gr241_22, gr241_26, gr241_27, gr241_28, gr241_29, gr241_31, gr241_32, gr241_33, gr241_38, gr241_39, gr241_40, gr241_41, gr241_42, gr241_43, gr241_44, gr241_45]
        rw [e1, gb_bd_s, if_neg gb_n10]
        simp (disch := omega) only [gb_lt_d, gb_gd_t, gb_rd_s, gb_bd_s, gb_I_mk, gb_L_mk, gb_sI_mk, gb_sL_mk, gk241, gk242, gk243, gk244, gk245, gk246, gk247, gk248, gk249, gk250, gk251, gk252, gk253, gk254, gk255, gk256, gk257, gk258, gk259, gk260, gk261, gk262, gk263, gk264, gk265, gk266, gk267, gk268, gr241_2, gr241_3, gr241_4, gr241_5, gr241_7, gr241_8, gr241_11, gr241_12, gr241_13, gr241_20, gr241_21, gr241_22, gr241_26, gr241_27, gr241_28, gr241_29, gr241_31, gr241_32, gr241_33, gr241_38, gr241_39, gr241_40, gr241_41, gr241_42, gr241_43, gr241_44, gr241_45, p1, p2, p3, gi246, nI_clamp]
        have t := m_pathF (J := J) e2 e3 (hc.fr e4.1)
        revert t
        cases g1 : g_path c n cs 0 5 (gt_n c n s) with
        | none =>
          rintro ⟨I2, v, b1, b2, b3⟩
          have bd : mBd I2 := mBd.of b2 (by omega)
          refine ⟨gb_u I2 246 (a + 1) v, ?_, gb_19u b2, ((e4.1.t b3.fr).t (gm_fr.u (by decide))).fp⟩
          simp (disch := omega) only [b1, gb_lt_d, gb_gd_t, gb_rd_s, gb_bd_s, gb_I_mk, gb_L_mk, gb_sI_mk, gb_sL_mk, gk241, gk242, gk243, gk244, gk245, gk246, gk247, gk248, gk249, gk250, gk251, gk252, gk253, gk254, gk255, gk256, gk257, gk258, gk259, gk260, gk261, gk262, gk263, gk264, gk265, gk266, gk267, gk268, gr241_2, gr241_3, gr241_4, gr241_5, gr241_7, gr241_8, gr241_11, gr241_12, gr241_13, gr241_20, gr241_21, gr241_22, gr241_26, gr241_27, gr241_28, gr241_29, gr241_31, gr241_32, gr241_33, gr241_38, gr241_39, gr241_40, gr241_41, gr241_42, gr241_43, gr241_44, gr241_45, p1, gi246, nI_clamp, m_goodB bd.u, if_true, m_267B bd.u]
        | some f =>
          rintro ⟨I2, b1, b2, b3, b4⟩
          obtain ⟨hf1, hf2, hf3⟩ := g_path_lt g1
          have s1 : gm_sf a 1 (nI f) (gb_u I1 246 a 5) (gb_u I2 246 (a + 1) (nI f)) := b4.sf (by decide)
          have fr : gm_fr a I (gb_u I2 246 (a + 1) (nI f)) := e4.1.t s1.1
          have cs' := hc.fr fr
          have or5 := gb_or5 cs hc.1 f hf1 hf3
          have bits : ∀ cs, cs < 32 → ∀ f, f < 5 → cs / 2 ^ f % 2 = 0 → ∀ p, p < 5 → (cs + 2 ^ f) / 2 ^ p % 2 = if p = f then 1 else cs / 2 ^ p % 2 := by decide
          simp (disch := omega) only [b1, gb_lt_d, gb_gd_t, gb_rd_s, gb_bd_s, gb_I_mk, gb_L_mk, gb_sI_mk, gb_sL_mk, gk241, gk242, gk243, gk244, gk245, gk246, gk247, gk248, gk249, gk250, gk251, gk252, gk253, gk254, gk255, gk256, gk257, gk258, gk259, gk260, gk261, gk262, gk263, gk264, gk265, gk266, gk267, gk268, gr241_2, gr241_3, gr241_4, gr241_5, gr241_7, gr241_8, gr241_11, gr241_12, gr241_13, gr241_20, gr241_21, gr241_22, gr241_26, gr241_27, gr241_28, gr241_29, gr241_31, gr241_32, gr241_33, gr241_38, gr241_39, gr241_40, gr241_41, gr241_42, gr241_43, gr241_44, gr241_45, p1, gi246, nI_clamp, m_goodG (gb_19u b3), gb_u_s, gi247]
          rw [if_neg gb_n10]
          refine m_pok (r := (((5, f, 0, 0, 2, 0, 5, 0, 0), cs + 2 ^ f, ls), gt_n c n (gt_n c n s))) h9 ?_ ?_ ?_ ?_ ?_ ?_ (fr.fp.t gm_fp.u7)
          · exact (b2.u (k := a + 1) (v := nI f)).k (gb_u_row _ _ (by decide)) (fun j hj => by rw [gb_u_row _ _ (by decide)])
          · rw [gb_u_row _ _ (by decide)]; exact gb_19u b3
          · rw [gb_u_row _ _ (by decide)]; exact fr.2.1 9 (by decide) (by decide) (by decide)
          · refine ⟨or5.2, fun p hp => ?_⟩
            rw [bits cs hc.1 f hf1 hf3 p hp]
            by_cases e : p = f
            · rw [e, gb_u_s, if_pos rfl]; rfl
            · rw [gb_u_nk _ _ e, if_neg e]; exact cs'.2 p hp
          · rw [gb_u_row _ _ (by decide), fr.2.1 10 (by decide) (by decide) (by decide)]; exact h10
          · rw [gb_u_row _ _ (by decide)]
            refine ⟨?_, ?_, ?_, ?_, fun w => absurd w (by show ¬ 5 = 2; decide), ?_, fun w => absurd rfl w⟩
            · rw [s1.2.2 a (by omega)]; exact e4.2.1
            · rw [s1.2.1]
            · rw [s1.2.2 (a + 2) (by omega), e4.2.2 (a + 2) (by omega), f2]; rfl
            · rw [s1.2.2 (a + 3) (by omega), e4.2.2 (a + 3) (by omega), f3]; rfl
            · rw [s1.2.2 (a + 6) (by omega), e4.2.2 (a + 6) (by omega), f6]; rfl
      · rw [if_neg a2]
        simp (disch := omega) only [gb_lt_d, gb_gd_t, gb_rd_s, gb_bd_s, gb_I_mk, gb_L_mk, gb_sI_mk, gb_sL_mk, gk241, gr241_2, gr241_3, gr241_4, gr241_5, gr241_7, gr241_8, gr241_11, gr241_12, gr241_13, gr241_20, gr241_21, gr241_22, gr241_26, gr241_27, gr241_28, gr241_29, gr241_31, gr241_32, gr241_33, gr241_38, gr241_39, gr241_40, gr241_41, gr241_42, gr241_43, gr241_44, gr241_45]
        rw [m_take0 (J := J) h g (show 12 < 13 by decide) (by decide) a2, gb_bd_s, if_pos (show (0 : Int32) = 0 from rfl)]
        have t := m_deedP (J := J) (ls := ls) (m := m) h g hc h10 h9 ha rq
        simp only [gb_lt_d, gb_gd_t, gb_rd_s, gb_bd_s, gb_I_mk, gb_L_mk, gb_sI_mk, gb_sL_mk, gk241, gr241_2, gr241_3, gr241_4, gr241_5, gr241_7, gr241_8, gr241_11, gr241_12, gr241_13, gr241_20, gr241_21, gr241_22, gr241_26, gr241_27, gr241_28, gr241_29, gr241_31, gr241_32, gr241_33, gr241_38, gr241_39, gr241_40, gr241_41, gr241_42, gr241_43, gr241_44, gr241_45, m_goodG g]
        rw [if_neg gb_n10]
        exact t
end MPART
