section MBENCH
variable {I I' I1 I2 : gb_FI} {J J' : gb_FJ} {c : Nat → Nat} {n s cs ls a m : Nat}
theorem gt_ex (h : gt_is c n s 0 = true) : ¬ gt_is c n s 11 = true := fun w => by
  simp only [gt_is, decide_eq_true_eq] at h w
  have a := h.1
  have b := w.1
  rw [show (gt_wd 0).length = 2 from rfl] at a
  rw [show (gt_wd 11).length = 4 from rfl] at b
  omega
theorem m_part16 (h : mRd I c n s) (g : I 241 19 = -1) (h9 : I 241 9 = nI 16) : fnX11_part 241 (gb_mk I J) = some ((), gb_mk (gb_u I 241 19 (nI s)) J) := by
  simp only [fnX11_part, gb_lt_d, gb_gd_t, gb_rd_s, gb_bd_s, gb_I_mk, gb_L_mk, gb_sI_mk, gb_sL_mk, gk241, gr241_2, gr241_3, gr241_4, gr241_5, gr241_7, gr241_8, gr241_11, gr241_12, gr241_13, gr241_20, gr241_21, gr241_22, gr241_26, gr241_27, gr241_28, gr241_29, gr241_31, gr241_32, gr241_33, gr241_38, gr241_39, gr241_40, gr241_41, gr241_42, gr241_43, gr241_44, gr241_45, h9, m_faultsG g h.2.2.1]
  rw [if_pos (show nI 16 = 16 from rfl)]
theorem m_part (h : mRd I c n s) (g : I 241 19 = -1) (hc : mCs I cs) (h10 : I 241 10 = nI ls) (hl : ls ≤ 3) (h9 : I 241 9 = nI m) (hm : m < 16) : match g_part c n cs ls s with
    | .error e => ∃ I', fnX11_part 241 (gb_mk I J) = some ((), gb_mk I' J) ∧ I' 241 19 = nI e ∧ gm_fp (8 * m) I I'
    | .ok r => ∃ I', fnX11_part 241 (gb_mk I J) = some ((), gb_mk I' J) ∧ mRd I' c n r.2 ∧ I' 241 19 = -1 ∧ mCs I' r.1.2.1 ∧ I' 241 10 = nI r.1.2.2 ∧ I' 241 9 = nI (m + 1) ∧ mP (I' 246) (8 * m) r.1.1 ∧ gm_fp (8 * m) I I' := by
  have hn := h.1.1
  have hs := h.2.1
  have k1 : ∀ x, x ≠ 246 → gm_fh I (8 * m) 8 x = I x := fun x hx => gm_fh_ne hx 8
  have hK : mRd (gm_fh I (8 * m) 8) c n s := h.k (k1 249 (by decide)) (fun k _ => by rw [k1 241 (by decide)])
  have gK : gm_fh I (8 * m) 8 241 19 = -1 := by rw [k1 241 (by decide)]; exact g
  have cK : mCs (gm_fh I (8 * m) 8) cs := hc.k (k1 247 (by decide))
  have tK : gm_fh I (8 * m) 8 241 10 = nI ls := by rw [k1 241 (by decide)]; exact h10
  have nK : gm_fh I (8 * m) 8 241 9 = nI m := by rw [k1 241 (by decide)]; exact h9
  have fK : ∀ j, j < 8 → gm_fh I (8 * m) 8 246 (8 * m + j) = if j < 3 then 0 else -1 := fun j hj => gm_fh_i 8 hj
  have fr : gm_fp (8 * m) I (gm_fh I (8 * m) 8) := ⟨fun x _ h2 _ => k1 x h2, fun k _ _ _ _ _ => by rw [k1 241 (by decide)], fun k hk => gm_fh_o 8 (Or.inl hk)⟩
  simp only [fnX11_part, gb_lt_d, gb_gd_t, gb_rd_s, gb_bd_s, gb_I_mk, gb_L_mk, gb_sI_mk, gb_sL_mk, gk241, gr241_2, gr241_3, gr241_4, gr241_5, gr241_7, gr241_8, gr241_11, gr241_12, gr241_13, gr241_20, gr241_21, gr241_22, gr241_26, gr241_27, gr241_28, gr241_29, gr241_31, gr241_32, gr241_33, gr241_38, gr241_39, gr241_40, gr241_41, gr241_42, gr241_43, gr241_44, gr241_45, h9, m_fresh hm h9]
  rw [if_neg (show ¬ nI m = 16 from fun w => by have := (nI_eq (b := 16) (by omega) (by omega)).mp w; omega)]
  generalize gm_fh I (8 * m) 8 = K at *
  simp only [m_goodG gK, gb_lt_d, gb_gd_t, gb_rd_s, gb_bd_s, gb_I_mk, gb_L_mk, gb_sI_mk, gb_sL_mk, gk241, gr241_2, gr241_3, gr241_4, gr241_5, gr241_7, gr241_8, gr241_11, gr241_12, gr241_13, gr241_20, gr241_21, gr241_22, gr241_26, gr241_27, gr241_28, gr241_29, gr241_31, gr241_32, gr241_33, gr241_38, gr241_39, gr241_40, gr241_41, gr241_42, gr241_43, gr241_44, gr241_45]
  rw [if_neg gb_n10]
  simp only [show (183788 : Int64) = lN (gt_cd 11) from rfl, m_isWord hK (show 11 < 13 by decide) (by decide), gb_lt_d, gb_gd_t, gb_rd_s, gb_bd_s, gb_I_mk, gb_L_mk, gb_sI_mk, gb_sL_mk, gk241, gr241_2, gr241_3, gr241_4, gr241_5, gr241_7, gr241_8, gr241_11, gr241_12, gr241_13, gr241_20, gr241_21, gr241_22, gr241_26, gr241_27, gr241_28, gr241_29, gr241_31, gr241_32, gr241_33, gr241_38, gr241_39, gr241_40, gr241_41, gr241_42, gr241_43, gr241_44, gr241_45, tK]
  have fin : ∀ (hx : gt_is c n s 0 = true ∨ ¬ (gt_is c n s 11 = true ∧ ls = 3)), match g_part c n cs ls s with
    | .error e => ∃ I', fbX11_part_51 241 (nI (8 * m)) (gb_mk K J) = some ((), gb_mk I' J) ∧ I' 241 19 = nI e ∧ gm_fp (8 * m) I I'
    | .ok r => ∃ I', fbX11_part_51 241 (nI (8 * m)) (gb_mk K J) = some ((), gb_mk I' J) ∧ mRd I' c n r.2 ∧ I' 241 19 = -1 ∧ mCs I' r.1.2.1 ∧ I' 241 10 = nI r.1.2.2 ∧ I' 241 9 = nI (m + 1) ∧ mP (I' 246) (8 * m) r.1.1 ∧ gm_fp (8 * m) I I' := by
    intro hx
    have t := m_part51 (J := J) hK gK cK tK hl hx nK (show 8 * m + 8 ≤ 128 by omega) fK
    revert t
    cases g_part c n cs ls s with
    | error e =>
      rintro ⟨I1, b1, b2, b3⟩
      exact ⟨I1, b1, b2, fr.t b3⟩
    | ok r =>
      rintro ⟨I1, b1, b2, b3, b4, b5, b6, b7, b8⟩
      exact ⟨I1, b1, b2, b3, b4, b5, b6, b7, fr.t b8⟩
  by_cases a1 : gt_is c n s 11 = true
  · simp only [if_pos a1]
    rw [if_neg gb_n10]
    by_cases l3 : ls = 3
    · have a0 : ¬ gt_is c n s 0 = true := fun w => gt_ex w a1
      rw [show g_part c n cs ls s = .error s by unfold g_part; rw [if_neg a0, if_pos a1, if_neg (by omega)]]
      rw [if_pos (show nI ls = 3 by rw [l3]; rfl), m_faultsG gK hK.2.2.1, gb_bd_s]
      refine ⟨_, m_267B (mBd.of (gb_u_s _ _ _ _) (by omega)), gb_u_s _ _ _ _, fr.t gm_f1.fa.fr.fp⟩
    · rw [if_neg (show ¬ nI ls = 3 from fun w => l3 ((nI_eq (b := 3) (by omega) (by omega)).mp w))]
      exact fin (Or.inr (fun w => l3 w.2))
  · simp only [if_neg a1, if_true]
    exact fin (Or.inr (fun w => a1 w.1))
/-- behind a part -/
def g_after (c : Nat → Nat) (n k cs ls s : Nat) (acc : List gb_P) : Except Nat (List gb_P) := if s < n then (if gt_is c n s 13 = true then g_parts c n k cs ls (gt_n c n s) acc else .error s) else .ok acc
theorem g_parts_1 {k : Nat} {acc : List gb_P} : g_parts c n (k + 1) cs ls s acc = match g_part c n cs ls s with
    | .error e => .error e
    | .ok r => g_after c n k r.1.2.1 r.1.2.2 r.2 (acc ++ [r.1.1]) := by rw [g_parts]; rfl
theorem gm_fp.z (x : gm_fp a I I1) : gm_fp 0 I I1 := ⟨x.1, x.2.1, fun k hk => absurd hk (by omega)⟩
theorem m_loopB (bd : mBd I) (F : Nat) (b : Int32) : lpX11_bench_40 (F + 1) 241 b (gb_mk I J) = fbX11_bench_78 241 b (gb_mk I J) := by
  rw [show lpX11_bench_40 (F + 1) 241 b (gb_mk I J) = fbX11_bench_40 (fun v0 v1 h => lpX11_bench_40 F v0 v1 h) 241 b (gb_mk I J) from rfl]
  simp only [fbX11_bench_40, gb_lt_d, gb_gd_t, gb_rd_s, gb_bd_s, gb_I_mk, gb_L_mk, gb_sI_mk, gb_sL_mk, gk241, gr241_2, gr241_3, gr241_4, gr241_5, gr241_7, gr241_8, gr241_11, gr241_12, gr241_13, gr241_20, gr241_21, gr241_22, gr241_26, gr241_27, gr241_28, gr241_29, gr241_31, gr241_32, gr241_33, gr241_38, gr241_39, gr241_40, gr241_41, gr241_42, gr241_43, gr241_44, gr241_45, m_signB bd, m_goodB bd, if_true]
theorem m_loop {b : Int32} : ∀ (k F cs ls s : Nat) (acc : List gb_P) (I : gb_FI), acc.length + k = 16 → k + 1 < F → mRd I c n s → I 241 19 = -1 → mCs I cs → I 241 10 = nI ls → ls ≤ 3 → I 241 9 = nI acc.length → (∀ j p, acc[j]? = some p → mP (I 246) (8 * j) p) →
    match g_after c n k cs ls s acc with
    | .error e => ∃ I', lpX11_bench_40 F 241 b (gb_mk I J) = fbX11_bench_78 241 b (gb_mk I' J) ∧ I' 241 19 = nI e ∧ gm_fp 0 I I'
    | .ok ps => ∃ I', lpX11_bench_40 F 241 b (gb_mk I J) = fbX11_bench_78 241 b (gb_mk I' J) ∧ I' 241 19 = -1 ∧ I' 241 9 = nI ps.length ∧ (∀ j p, ps[j]? = some p → mP (I' 246) (8 * j) p) ∧ gm_fp 0 I I' := by
  intro k
  induction k with
  | zero =>
    intro F cs ls s acc I hk hF h g hc h10 hl h9 hp
    obtain ⟨F, rfl⟩ : ∃ f, F = f + 1 := ⟨F - 1, by omega⟩
    have hn := h.1.1
    have hs := h.2.1
    have n1 := gt_n_s (c := c) hs
    rw [show lpX11_bench_40 (F + 1) 241 b (gb_mk I J) = fbX11_bench_40 (fun v0 v1 h => lpX11_bench_40 F v0 v1 h) 241 b (gb_mk I J) from rfl]
    simp only [fbX11_bench_40, gb_lt_d, gb_gd_t, gb_rd_s, gb_bd_s, gb_I_mk, gb_L_mk, gb_sI_mk, gb_sL_mk, gk241, gr241_2, gr241_3, gr241_4, gr241_5, gr241_7, gr241_8, gr241_11, gr241_12, gr241_13, gr241_20, gr241_21, gr241_22, gr241_26, gr241_27, gr241_28, gr241_29, gr241_31, gr241_32, gr241_33, gr241_38, gr241_39, gr241_40, gr241_41, gr241_42, gr241_43, gr241_44, gr241_45]
    unfold g_after
    have t := m_sign59 (J := J) h g
    by_cases a13 : gt_is c n s 13 = true
    · have sn : s < n := ((gt_isS (c := c) (i := 13) (ch := 59) rfl (by decide) (by decide) hs).mp a13).1
      rw [if_pos a13] at t
      obtain ⟨I1, d1, d2, d3, d4⟩ := t
      rw [d1, gb_bd_s, if_neg gb_n10, if_pos sn, if_pos a13]
      have e := m_part16 (J := J) d2 d3 (by rw [d4.2 9 (by decide) (by decide), h9, show acc.length = 16 by omega])
      rw [g_parts]
      obtain ⟨F, rfl⟩ : ∃ f, F = f + 1 := ⟨F - 1, by omega⟩
      refine ⟨_, ?_, gb_u_s _ _ _ _, ((d4.fr (a := 0)).t gm_f1.fa.fr).fp⟩
      simp only [gb_lt_d, gb_gd_t, gb_rd_s, gb_bd_s, gb_I_mk, gb_L_mk, gb_sI_mk, gb_sL_mk, gk241, gr241_2, gr241_3, gr241_4, gr241_5, gr241_7, gr241_8, gr241_11, gr241_12, gr241_13, gr241_20, gr241_21, gr241_22, gr241_26, gr241_27, gr241_28, gr241_29, gr241_31, gr241_32, gr241_33, gr241_38, gr241_39, gr241_40, gr241_41, gr241_42, gr241_43, gr241_44, gr241_45, e]
      exact m_loopB (mBd.of (gb_u_s _ _ _ _) (by omega)) F b
    · rw [if_neg a13] at t
      rw [t, gb_bd_s, if_pos (show (0 : Int32) = 0 from rfl)]
      simp only [m_goodG g, gb_lt_d, gb_gd_t, gb_rd_s, gb_bd_s, gb_I_mk, gb_L_mk, gb_sI_mk, gb_sL_mk, gk241, gr241_2, gr241_3, gr241_4, gr241_5, gr241_7, gr241_8, gr241_11, gr241_12, gr241_13, gr241_20, gr241_21, gr241_22, gr241_26, gr241_27, gr241_28, gr241_29, gr241_31, gr241_32, gr241_33, gr241_38, gr241_39, gr241_40, gr241_41, gr241_42, gr241_43, gr241_44, gr241_45, h.1.2.1, h.2.2.1, m_faultsG g h.2.2.1]
      rw [if_neg gb_n10]
      by_cases sn : s < n
      · rw [if_pos sn, if_neg a13, if_neg (show ¬ nI n ≤ nI s from nI_ge sn (by omega))]
        exact ⟨_, rfl, gb_u_s _ _ _ _, (gm_f1.fa.fr).fp⟩
      · rw [if_neg sn, if_pos (show nI n ≤ nI s from nI_le (by omega) (by omega))]
        exact ⟨_, rfl, g, h9, hp, (gm_fr.r).fp⟩
  | succ k ih =>
    intro F cs ls s acc I hk hF h g hc h10 hl h9 hp
    obtain ⟨F, rfl⟩ : ∃ f, F = f + 1 := ⟨F - 1, by omega⟩
    have hn := h.1.1
    have hs := h.2.1
    have n1 := gt_n_s (c := c) hs
    rw [show lpX11_bench_40 (F + 1) 241 b (gb_mk I J) = fbX11_bench_40 (fun v0 v1 h => lpX11_bench_40 F v0 v1 h) 241 b (gb_mk I J) from rfl]
    simp only [fbX11_bench_40, gb_lt_d, gb_gd_t, gb_rd_s, gb_bd_s, gb_I_mk, gb_L_mk, gb_sI_mk, gb_sL_mk, gk241, gr241_2, gr241_3, gr241_4, gr241_5, gr241_7, gr241_8, gr241_11, gr241_12, gr241_13, gr241_20, gr241_21, gr241_22, gr241_26, gr241_27, gr241_28, gr241_29, gr241_31, gr241_32, gr241_33, gr241_38, gr241_39, gr241_40, gr241_41, gr241_42, gr241_43, gr241_44, gr241_45]
    unfold g_after
    have t := m_sign59 (J := J) h g
    by_cases a13 : gt_is c n s 13 = true
    · have sn : s < n := ((gt_isS (c := c) (i := 13) (ch := 59) rfl (by decide) (by decide) hs).mp a13).1
      rw [if_pos a13] at t
      obtain ⟨I1, d1, d2, d3, d4⟩ := t
      rw [d1, gb_bd_s, if_neg gb_n10, if_pos sn, if_pos a13]
      simp only [gb_lt_d, gb_gd_t, gb_rd_s, gb_bd_s, gb_I_mk, gb_L_mk, gb_sI_mk, gb_sL_mk, gk241, gr241_2, gr241_3, gr241_4, gr241_5, gr241_7, gr241_8, gr241_11, gr241_12, gr241_13, gr241_20, gr241_21, gr241_22, gr241_26, gr241_27, gr241_28, gr241_29, gr241_31, gr241_32, gr241_33, gr241_38, gr241_39, gr241_40, gr241_41, gr241_42, gr241_43, gr241_44, gr241_45]
      have u := m_part (J := J) d2 d3 (hc.fr (a := 0) d4.fr) (by rw [d4.2 10 (by decide) (by decide)]; exact h10) hl (by rw [d4.2 9 (by decide) (by decide)]; exact h9) (show acc.length < 16 by omega)
      have bb := fun r => g_part_b (c := c) (n := n) (s := gt_n c n s) hc.1 hl (r := r)
      have we := (g_part_e (c := c) (cs := cs) (ls := ls) n1).1
      rw [g_parts_1]
      revert u bb we
      cases g_part c n cs ls (gt_n c n s) with
      | error e =>
        rintro ⟨I2, b1, b2, b3⟩ - we
        have := we e rfl
        obtain ⟨F, rfl⟩ : ∃ f, F = f + 1 := ⟨F - 1, by omega⟩
        refine ⟨I2, ?_, b2, (d4.fr (a := 0)).fp.t b3.z⟩
        rw [b1, gb_bd_s]
        exact m_loopB (mBd.of b2 (by omega)) F b
      | ok r =>
        rintro ⟨I2, b1, b2, b3, b4, b5, b6, b7, b8⟩ bb -
        obtain ⟨c1, c2⟩ := bb r rfl
        have hp' : ∀ j p, (acc ++ [r.1.1])[j]? = some p → mP (I2 246) (8 * j) p := by
          intro j p hj
          by_cases e : j < acc.length
          · rw [List.getElem?_append_left e] at hj
            have q := hp j p hj
            have kk : ∀ x, x < 8 * acc.length → I2 246 x = I 246 x := fun x hx => by rw [b8.2.2 x hx, d4.1 246 (by decide)]
            unfold mP at q ⊢
            rw [kk _ (by omega), kk _ (by omega), kk _ (by omega), kk _ (by omega), kk _ (by omega), kk _ (by omega), kk _ (by omega), kk _ (by omega)]
            exact q
          · rw [List.getElem?_append_right (by omega)] at hj
            have ej : j = acc.length := by
              by_cases w : j - acc.length = 0
              · omega
              · rw [List.getElem?_eq_none (by simp; omega)] at hj
                exact absurd hj (by simp)
            subst ej
            rw [Nat.sub_self] at hj
            have : r.1.1 = p := by simpa using hj
            rw [← this]
            exact b7
        have v := ih F r.1.2.1 r.1.2.2 r.2 (acc ++ [r.1.1]) I2 (by simp; omega) (by omega) b2 b3 b4 b5 c2 (by rw [b6]; simp) hp'
        rw [b1, gb_bd_s]
        have f0 : gm_fp 0 I I2 := (d4.fr (a := 0)).fp.t b8.z
        revert v
        show _ → match g_after c n k r.1.2.1 r.1.2.2 r.2 (acc ++ [r.1.1]) with
          | .error e => _
          | .ok ps => _
        cases g_after c n k r.1.2.1 r.1.2.2 r.2 (acc ++ [r.1.1]) with
        | error e =>
          rintro ⟨I3, z1, z2, z3⟩
          exact ⟨I3, z1, z2, f0.t z3⟩
        | ok ps =>
          rintro ⟨I3, z1, z2, z3, z4, z5⟩
          exact ⟨I3, z1, z2, z3, z4, f0.t z5⟩
    · rw [if_neg a13] at t
      rw [t, gb_bd_s, if_pos (show (0 : Int32) = 0 from rfl)]
      simp only [m_goodG g, gb_lt_d, gb_gd_t, gb_rd_s, gb_bd_s, gb_I_mk, gb_L_mk, gb_sI_mk, gb_sL_mk, gk241, gr241_2, gr241_3, gr241_4, gr241_5, gr241_7, gr241_8, gr241_11, gr241_12, gr241_13, gr241_20, gr241_21, gr241_22, gr241_26, gr241_27, gr241_28, gr241_29, gr241_31, gr241_32, gr241_33, gr241_38, gr241_39, gr241_40, gr241_41, gr241_42, gr241_43, gr241_44, gr241_45, h.1.2.1, h.2.2.1, m_faultsG g h.2.2.1]
      rw [if_neg gb_n10]
      by_cases sn : s < n
      · rw [if_pos sn, if_neg a13, if_neg (show ¬ nI n ≤ nI s from nI_ge sn (by omega))]
        exact ⟨_, rfl, gb_u_s _ _ _ _, (gm_f1.fa.fr).fp⟩
      · rw [if_neg sn, if_pos (show nI n ≤ nI s from nI_le (by omega) (by omega))]
        exact ⟨_, rfl, g, h9, hp, (gm_fr.r).fp⟩
end MBENCH
