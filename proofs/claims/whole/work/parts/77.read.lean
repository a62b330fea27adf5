section READ6
variable {I I' I1 I2 : gb_FI} {J J' : gb_FJ} {c : Nat → Nat} {n s q cs : Nat}
theorem x_pend0 {m : Nat} (h4 : I 4 1 = nI m) : fbX7_readPart_110 3 0 (gb_mk I J) = some (0, gb_mk (gb_u I 4 1 (nI m)) J) := by
  simp only [fbX7_readPart_110, fbX7_readPart_127, gb_lt_d, gb_gd_t, gb_rd_s, gb_bd_s, gb_I_mk, gb_L_mk, gb_sI_mk, gb_sL_mk, gk3, gr3_0, gr3_1, gk4, gr4_0, h4, if_true]
  rw [gb_lit 0, nI_add]
  rfl
theorem x_pend1 {m : Nat} (h4 : I 4 1 = nI m) : fbX7_readPart_110 3 1 (gb_mk I J) = some (1, gb_mk (gb_u I 4 1 (nI (m + 1))) J) := by
  simp only [fbX7_readPart_110, fbX7_readPart_127, gb_lt_d, gb_gd_t, gb_rd_s, gb_bd_s, gb_I_mk, gb_L_mk, gb_sI_mk, gb_sL_mk, gk3, gr3_0, gr3_1, gk4, gr4_0, h4]
  rw [if_neg gb_n10, gb_lit 1, nI_add]
  rfl
/-- what readPart gives, behind its end -/
theorem x_pout {m : Nat} (h4 : I 4 1 = nI m) {g : Except Nat ((gb_P × Nat × Nat) × Nat)} {f : Option (Int32 × gb_H)} (hm : q = 6 + m)
    (t : match g with
      | .error e => ∃ I', f = some (0, gb_mk I' J) ∧ I' 3 2 = nI e ∧ gb_fq q I I'
      | .ok r => ∃ I', f = some (1, gb_mk I' J) ∧ xRd I' c n r.2 ∧ gb_fq q I I' ∧ I' 3 5 = nI r.1.2.1 ∧ I' 3 6 = nI r.1.2.2 ∧ xP (I' q) r.1.1) :
    match g with
      | .error e => ∃ I', (gb_bd f fun x h => fbX7_readPart_110 3 x h) = some (0, gb_mk I' J) ∧ I' 3 2 = nI e ∧ ∀ x, x ≠ 3 → x ≠ 4 → x ≠ q → I' x = I x
      | .ok r => ∃ I', (gb_bd f fun x h => fbX7_readPart_110 3 x h) = some (1, gb_mk I' J) ∧ xRd I' c n r.2 ∧ I' 3 5 = nI r.1.2.1 ∧ I' 3 6 = nI r.1.2.2 ∧ I' 4 1 = nI (m + 1) ∧ xP (I' q) r.1.1 ∧ ∀ x, x ≠ 3 → x ≠ 4 → x ≠ q → I' x = I x := by
  cases g with
  | error e =>
    obtain ⟨I1, a1, a2, a3⟩ := t
    refine ⟨gb_u I1 4 1 (nI m), ?_, by rw [gb_u_row _ _ (by decide)]; exact a2, fun x x1 x2 x3 => by rw [gb_u_row _ _ x2, a3 x x1 x3]⟩
    rw [a1, gb_bd_s, x_pend0 (by rw [a3 4 (by decide) (by omega)]; exact h4)]
  | ok r =>
    obtain ⟨I1, a1, a2, a3, a4, a5, a6⟩ := t
    refine ⟨gb_u I1 4 1 (nI (m + 1)), ?_, ?_, by rw [gb_u_row _ _ (by decide)]; exact a4, by rw [gb_u_row _ _ (by decide)]; exact a5, gb_u_s _ _ _ _, by rw [gb_u_row _ _ (by omega)]; exact a6, fun x x1 x2 x3 => by rw [gb_u_row _ _ x2, a3 x x1 x3]⟩
    · rw [a1, gb_bd_s, x_pend1 (by rw [a3 4 (by decide) (by omega)]; exact h4)]
    · exact a2.k (fun x hx => gb_u_row _ _ (by omega))
theorem x_part (h : xRd I c n s) (hc : I 3 5 = nI cs) (hcs : cs < 32) {ls m : Nat} (h6 : I 3 6 = nI ls) (hl : ls ≤ 3) (h4 : I 4 1 = nI m) (hm : m < 16) : match g_part c n cs ls s with
      | .error e => ∃ I', fnX7_readPart 3 (gb_mk I J) = some (0, gb_mk I' J) ∧ I' 3 2 = nI e ∧ ∀ x, x ≠ 3 → x ≠ 4 → x ≠ 6 + m → I' x = I x
      | .ok r => ∃ I', fnX7_readPart 3 (gb_mk I J) = some (1, gb_mk I' J) ∧ xRd I' c n r.2 ∧ I' 3 5 = nI r.1.2.1 ∧ I' 3 6 = nI r.1.2.2 ∧ I' 4 1 = nI (m + 1) ∧ xP (I' (6 + m)) r.1.1 ∧ ∀ x, x ≠ 3 → x ≠ 4 → x ≠ 6 + m → I' x = I x := by
  have hk := gx_drk hm
  have hq : 6 ≤ 6 + m := by omega
  obtain ⟨rq, r0⟩ := gb_rs_rq (I := I) (q := 6 + m)
  have kr : ∀ x, x ≠ 6 + m → gb_rs I (6 + m) x = I x := fun x hx => gb_rs_ne hx
  have hK : xRd (gb_rs I (6 + m)) c n s := h.k (fun x hx => kr x (by omega))
  have hc' : gb_rs I (6 + m) 3 5 = nI cs := by rw [kr 3 (by omega)]; exact hc
  have h6' : gb_rs I (6 + m) 3 6 = nI ls := by rw [kr 3 (by omega)]; exact h6
  have h4' : gb_rs I (6 + m) 4 1 = nI m := by rw [kr 4 (by omega)]; exact h4
  have fin : ∀ {g : Except Nat ((gb_P × Nat × Nat) × Nat)} {f : Option (Int32 × gb_H)}, (match g with
      | .error e => ∃ I', f = some (0, gb_mk I' J) ∧ I' 3 2 = nI e ∧ gb_fq (6 + m) (gb_rs I (6 + m)) I'
      | .ok r => ∃ I', f = some (1, gb_mk I' J) ∧ xRd I' c n r.2 ∧ gb_fq (6 + m) (gb_rs I (6 + m)) I' ∧ I' 3 5 = nI r.1.2.1 ∧ I' 3 6 = nI r.1.2.2 ∧ xP (I' (6 + m)) r.1.1) →
    match g with
      | .error e => ∃ I', (gb_bd f fun x h => fbX7_readPart_110 3 x h) = some (0, gb_mk I' J) ∧ I' 3 2 = nI e ∧ ∀ x, x ≠ 3 → x ≠ 4 → x ≠ 6 + m → I' x = I x
      | .ok r => ∃ I', (gb_bd f fun x h => fbX7_readPart_110 3 x h) = some (1, gb_mk I' J) ∧ xRd I' c n r.2 ∧ I' 3 5 = nI r.1.2.1 ∧ I' 3 6 = nI r.1.2.2 ∧ I' 4 1 = nI (m + 1) ∧ xP (I' (6 + m)) r.1.1 ∧ ∀ x, x ≠ 3 → x ≠ 4 → x ≠ 6 + m → I' x = I x := by
    intro g f t
    have t := x_pout h4' rfl t
    cases g with
    | error e =>
      obtain ⟨I1, a1, a2, a3⟩ := t
      exact ⟨I1, a1, a2, fun x x1 x2 x3 => (a3 x x1 x2 x3).trans (kr x x3)⟩
    | ok r =>
      obtain ⟨I1, a1, a2, a3, a4, a5, a6, a7⟩ := t
      exact ⟨I1, a1, a2, a3, a4, a5, a6, fun x x1 x2 x3 => (a7 x x1 x2 x3).trans (kr x x3)⟩
  simp only [fnX7_readPart, gb_lt_d, gb_gd_t, gb_rd_s, gb_bd_s, gb_I_mk, gb_L_mk, gb_sI_mk, gb_sL_mk, gk3, gr3_0, gr3_1, gk4, gr4_0, gk5, gr5_0, gr5_1, gr5_2, gr5_3, gr5_4, gr5_5, gr5_6, gr5_7, gr5_8, gr5_9, gr5_10, gr5_11, gr5_12, gr5_13, gr5_14, gr5_15, h4]
  rw [if_pos (show nI m < 16 from nI_lt (a := m) (b := 16) hm (by omega))]
  simp (disch := omega) only [gb_lt_d, gb_gd_t, gb_rd_s, gb_bd_s, gb_I_mk, gb_L_mk, gb_sI_mk, gb_sL_mk, gk3, gr3_0, gr3_1, gk4, gr4_0, gk5, gr5_0, gr5_1, gr5_2, gr5_3, gr5_4, gr5_5, gr5_6, gr5_7, gr5_8, gr5_9, gr5_10, gr5_11, gr5_12, gr5_13, gr5_14, gr5_15, gi5, nI_clamp, gx_dr hm, hk, x_reset hk]
  generalize gb_rs I (6 + m) = K at *
  unfold g_part
  by_cases a0 : gt_is c n s 0 = true
  · rw [if_pos a0]
    obtain ⟨I1, e1, e2, e3⟩ := x_take1 (J := J) hK (by decide) a0
    have rq1 : gb_rq (6 + m) 5 0 I1 := by
      unfold gb_rq at *
      rw [e3.1 (6 + m) (by omega)]
      exact rq
    simp only [e1, gb_lt_d, gb_gd_t, gb_rd_s, gb_bd_s, gb_I_mk, gb_L_mk, gb_sI_mk, gb_sL_mk, gk3, gr3_0, gr3_1, gk4, gr4_0, gk5, gr5_0, gr5_1, gr5_2, gr5_3, gr5_4, gr5_5, gr5_6, gr5_7, gr5_8, gr5_9, gr5_10, gr5_11, gr5_12, gr5_13, gr5_14, gr5_15]
    rw [if_neg gb_n10]
    have t := x_wait (J := J) e2 (by rw [e3.2 5 (by decide)]; exact hc') hcs hq hk rq1
    revert t
    cases g1 : g_wait c n cs (gt_n c n s) with
    | error e =>
      rintro ⟨I2, b1, b2, b3⟩
      have := fin (g := .error e) (f := some (0, gb_mk I2 J)) ⟨I2, rfl, b2, fun x x1 x2 => by rw [b3.1 x x1 x2, e3.1 x x1]⟩
      simp only [b1, gb_lt_d, gb_gd_t, gb_rd_s, gb_bd_s, gb_I_mk, gb_L_mk, gb_sI_mk, gb_sL_mk, if_true, fbX7_readPart_63, fbX7_readPart_64]
      exact this
    | ok w =>
      rintro ⟨I2, b1, b2, b3, b4⟩
      simp only [b1, gb_lt_d, gb_gd_t, gb_rd_s, gb_bd_s, gb_I_mk, gb_L_mk, gb_sI_mk, gb_sL_mk, gk3, gr3_0, gr3_1, gk4, gr4_0, gk5, gr5_0, gr5_1, gr5_2, gr5_3, gr5_4, gr5_5, gr5_6, gr5_7, gr5_8, gr5_9, gr5_10, gr5_11, gr5_12, gr5_13, gr5_14, gr5_15]
      rw [if_neg gb_n10]
      have t := x_deed (J := J) b2 (b3.c5 (by rw [e3.2 5 (by decide)]; exact hc')) hcs hq hk b4
      revert t
      show _ → match (match g_deed c n cs w.1.1 w.1.2 w.2 with
        | .error e => .error e
        | .ok r => .ok ((r.1, cs, ls), r.2) : Except Nat ((gb_P × Nat × Nat) × Nat)) with
        | .error e => _
        | .ok r => _
      cases g2 : g_deed c n cs w.1.1 w.1.2 w.2 with
      | error e =>
        rintro ⟨I3, d1, d2, d3⟩
        have := fin (g := .error e) (f := some (0, gb_mk I3 J)) ⟨I3, rfl, d2, fun x x1 x2 => by rw [d3.1 x x1 x2, b3.1 x x1 x2, e3.1 x x1]⟩
        simp only [d1, gb_lt_d, gb_gd_t, gb_rd_s, gb_bd_s, gb_I_mk, gb_L_mk, gb_sI_mk, gb_sL_mk, if_true, fbX7_readPart_63, fbX7_readPart_64]
        exact this
      | ok r =>
        rintro ⟨I3, d1, d2, d3, d4⟩
        have := fin (g := .ok ((r.1, cs, ls), r.2)) (f := some (1, gb_mk I3 J)) ⟨I3, rfl, d2, fun x x1 x2 => by rw [d3.1 x x1 x2, b3.1 x x1 x2, e3.1 x x1], by rw [d3.2 5 (by decide), b3.2 5 (by decide), e3.2 5 (by decide)]; exact hc', by rw [d3.2 6 (by decide), b3.2 6 (by decide), e3.2 6 (by decide)]; exact h6', d4⟩
        simp only [d1, gb_lt_d, gb_gd_t, gb_rd_s, gb_bd_s, gb_I_mk, gb_L_mk, gb_sI_mk, gb_sL_mk, fbX7_readPart_63, fbX7_readPart_64]
        rw [if_neg gb_n10]
        exact this
  · rw [if_neg a0]
    simp only [x_take0 (J := J) hK (show 0 < 14 by decide) a0, gb_lt_d, gb_gd_t, gb_rd_s, gb_bd_s, gb_I_mk, gb_L_mk, gb_sI_mk, gb_sL_mk, gk3, gr3_0, gr3_1, gk4, gr4_0, gk5, gr5_0, gr5_1, gr5_2, gr5_3, gr5_4, gr5_5, gr5_6, gr5_7, gr5_8, gr5_9, gr5_10, gr5_11, gr5_12, gr5_13, gr5_14, gr5_15, if_true, x_says (J := J) hK (show 11 < 14 by decide)]
    by_cases a1 : gt_is c n s 11 = true
    · rw [if_pos a1, if_pos a1, if_neg gb_n10]
      by_cases l3 : ls < 3
      · rw [if_pos l3]
        exact fin (x_loss (J := J) hK hc' hcs h6' l3 hq hk rq)
      · rw [if_neg l3]
        refine fin (g := .error s) (f := fnX7_readLoss 3 (6 + m) (gb_mk K J)) ?_
        refine ⟨K, x_loss0 ?_, hK.2.2.1, fun _ _ _ => rfl⟩
        rw [h6']
        exact nI_nlt (a := ls) (b := 3) (by omega) (by omega)
    · rw [if_neg a1, if_neg a1, if_pos (show (0 : Int32) = 0 from rfl)]
      by_cases a2 : gt_is c n s 12 = true
      · rw [if_pos a2]
        obtain ⟨I1, e1, e2, e3⟩ := x_take1 (J := J) hK (by decide) a2
        have rq1 : gb_rq (6 + m) 5 0 I1 := by
          unfold gb_rq at *
          rw [e3.1 (6 + m) (by omega)]
          exact rq
        simp only [e1, gb_lt_d, gb_gd_t, gb_rd_s, gb_bd_s, gb_I_mk, gb_L_mk, gb_sI_mk, gb_sL_mk, gk3, gr3_0, gr3_1, gk4, gr4_0, gk5, gr5_0, gr5_1, gr5_2, gr5_3, gr5_4, gr5_5, gr5_6, gr5_7, gr5_8, gr5_9, gr5_10, gr5_11, gr5_12, gr5_13, gr5_14, gr5_15]
        rw [if_neg gb_n10]
        have t := x_counter (J := J) e2 (by rw [e3.2 5 (by decide)]; exact hc') hcs hq hk rq1
        revert t
        cases g1 : g_path c n cs 0 5 (gt_n c n s) with
        | none =>
          rintro ⟨I2, b1, b2, b3⟩
          exact fin (g := .error (gt_n c n s)) ⟨I2, b1, b2, fun x x1 x2 => by rw [b3 x x1 x2, e3.1 x x1]⟩
        | some f =>
          rintro ⟨I2, b1, b2, b3, b4, b5, b6⟩
          exact fin (g := .ok (((5, f, 0, 0, 2, 0, 5, 0, 0), cs + 2 ^ f, ls), gt_n c n (gt_n c n s))) ⟨I2, b1, b2, fun x x1 x2 => by rw [b3 x x1 x2, e3.1 x x1], b4, by rw [b5, e3.2 6 (by decide)]; exact h6', b6⟩
      · rw [if_neg a2]
        simp only [x_take0 (J := J) hK (show 12 < 14 by decide) a2, gb_lt_d, gb_gd_t, gb_rd_s, gb_bd_s, gb_I_mk, gb_L_mk, gb_sI_mk, gb_sL_mk, gk3, gr3_0, gr3_1, gk4, gr4_0, gk5, gr5_0, gr5_1, gr5_2, gr5_3, gr5_4, gr5_5, gr5_6, gr5_7, gr5_8, gr5_9, gr5_10, gr5_11, gr5_12, gr5_13, gr5_14, gr5_15, if_true]
        have t := x_deed (J := J) hK hc' hcs hq hk rq
        revert t
        cases g2 : g_deed c n cs 5 0 s with
        | error e =>
          rintro ⟨I3, d1, d2, d3⟩
          exact fin (g := .error e) ⟨I3, d1, d2, fun x x1 x2 => d3.1 x x1 x2⟩
        | ok r =>
          rintro ⟨I3, d1, d2, d3, d4⟩
          exact fin (g := .ok ((r.1, cs, ls), r.2)) ⟨I3, d1, d2, fun x x1 x2 => d3.1 x x1 x2, d3.c5 hc', by rw [d3.2 6 (by decide)]; exact h6', d4⟩
end READ6
