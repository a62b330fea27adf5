section OPS4
variable {cOK : gb_CP} {S : gb_S} {I I' : gb_FI} {J J' : gb_FJ}
theorem x_isBench (v : Int32) (h : gb_H) : fnX10_isBench v h = some (if gb_rg v 4 = true then 1 else 0, h) := by
  have e : fnX10_isBench v h = (if v < 0 then some (0, h) else if (4 : Int32) ≤ v then some (0, h) else some (1, h)) := by
    simp only [fnX10_isBench, fbX10_isBench_13, fbX10_isBench_14, gb_b_0, gb_b_1, gb_lt_d, gb_gd_t, gb_rd_s, gb_bd_s, gb_I_mk, gb_L_mk, gb_sI_mk, gb_sL_mk]
  rw [e, gb_rgD v 4 (by decide) (L := 4) rfl]
  split <;> rfl
theorem x_areBits (v : Int32) (h : gb_H) : fnX10_areBits v h = some (if gb_rg v 32 = true then 1 else 0, h) := by
  have e : fnX10_areBits v h = (if v < 0 then some (0, h) else if (32 : Int32) ≤ v then some (0, h) else some (1, h)) := by
    simp only [fnX10_areBits, fbX10_areBits_14, fbX10_areBits_15, gb_b_0, gb_b_1, gb_lt_d, gb_gd_t, gb_rd_s, gb_bd_s, gb_I_mk, gb_L_mk, gb_sI_mk, gb_sL_mk]
  rw [e, gb_rgD v 32 (by decide) (L := 32) rfl]
  split <;> rfl
theorem x_isDay (v : Int32) (h : gb_H) : fnX10_isDay v h = some (if gb_rg v 1000 = true then 1 else 0, h) := by
  have e : fnX10_isDay v h = (if v < 0 then some (0, h) else if (1000 : Int32) ≤ v then some (0, h) else some (1, h)) := by
    simp only [fnX10_isDay, fbX10_isDay_15, fbX10_isDay_16, gb_b_0, gb_b_1, gb_lt_d, gb_gd_t, gb_rd_s, gb_bd_s, gb_I_mk, gb_L_mk, gb_sI_mk, gb_sL_mk]
  rw [e, gb_rgD v 1000 (by decide) (L := 1000) rfl]
  split <;> rfl
theorem gb_n10 : ¬ (1 : Int32) = 0 := by decide
/-! clear -/
def a_clear (S : gb_S) : Int32 × gb_S := (nI S.1.length, sG S [])
def gb_cl (I : gb_FI) : Nat → gb_FI
  | 0 => I
  | i + 1 => gb_u (gb_cl I i) 239 i 0
theorem gb_cl_ne {n : Nat} (h : n ≠ 239) : ∀ i, gb_cl I i n = I n
  | 0 => rfl
  | i + 1 => (gb_u_row _ _ h).trans (gb_cl_ne h i)
theorem X_clear (h : RX cOK S I J) : xok cOK (fnX10_clear 0) I J (a_clear S) := by
  obtain ⟨g1, g2, g3, g4⟩ := id h.1
  refine ⟨gb_fg (gb_cl (gb_u I 0 13 0) 3), J, ?_, ?_, ?_⟩
  · simp only [fnX10_clear, gb_lt_d, gb_gd_t, gb_rd_s, gb_bd_s, gb_I_mk, gb_L_mk, gb_sI_mk, gb_sL_mk, gk0, gr0_0, gr0_1, gr0_2, gr0_3, gr0_4, gr0_5, gr0_6, gr0_7, gr0_8, gr0_9, gr0_10, gr0_11, gr0_12, lpX10_clear_12, g3]
    refine gb_forF (fun i => (0, nI S.1.length, nI i, gb_mk (gb_cl (gb_u I 0 13 0) i) J)) 3 (by decide) ?_ ?_
    · intro j hj k
      simp (disch := omega) only [fbX10_clear_12, gb_lt_d, gb_gd_t, gb_rd_s, gb_bd_s, gb_I_mk, gb_L_mk, gb_sI_mk, gb_sL_mk, gk0, gr0_0, gr0_1, gr0_2, gr0_3, gr0_4, gr0_5, gr0_6, gr0_7, gr0_8, gr0_9, gr0_10, gr0_11, gr0_12, gk239, gb_lit, nI_leI, nI_clamp, gi239, nI_add, gb_cl]
      rw [if_neg (by omega)]
    · intro k
      simp (disch := omega) only [fbX10_clear_12, gb_lt_d, gb_gd_t, gb_rd_s, gb_bd_s, gb_I_mk, gb_L_mk, gb_sI_mk, gb_sL_mk, gk0, gr0_0, gr0_1, gr0_2, gr0_3, gr0_4, gr0_5, gr0_6, gr0_7, gr0_8, gr0_9, gr0_10, gr0_11, gr0_12, gb_lit, nI_leI, x_forget]
      rw [if_pos (by omega)]
      rfl
  · refine h.gr ⟨by simp, by simp, ?_, ?_⟩ ?_ ?_ ?_ (fun b hb => gb_fg_0 hb)
    · rw [gb_fg_ne (by decide), gb_cl_ne (by decide), gb_u_s]; rfl
    · intro i hi
      rw [gb_fg_ne (by decide)]
      match i, hi with
      | 0, _ => rfl
      | 1, _ => rfl
      | 2, _ => rfl
    · rw [gb_fg_ne (by decide), gb_cl_ne (by decide), gb_u_nk _ _ (by decide)]
    · rw [gb_fg_ne (by decide), gb_cl_ne (by decide), gb_u_nk _ _ (by decide)]
    · intro n n0 n1 n2
      rw [gb_fg_ne n2, gb_cl_ne n1, gb_u_row _ _ n0]
  · refine gb_fx.fg (fun n hn => ⟨?_, rfl⟩)
    rw [gb_cl_ne (by omega), gb_u_row _ _ (by omega)]
theorem M_clear (h : RM S I J) : mok (fnX11_clear 241) I J (a_clear S) := by
  refine ⟨gb_u I 241 1 0, J, ?_, ?_, gb_fm.r.u (by decide)⟩
  · simp only [fnX11_clear, gb_lt_d, gb_gd_t, gb_rd_s, gb_bd_s, gb_I_mk, gb_L_mk, gb_sI_mk, gb_sL_mk, gk241, gk242, gk243, gk244, gk245, gk246, gk247, gk248, gk249, gk250, gk251, gk252, gk253, gk254, gk255, gk256, gk257, gk258, gk259, gk260, gk261, gk262, gk263, gk264, gk265, gk266, gk267, gk268, gr241_2, gr241_3, gr241_4, gr241_5, gr241_7, gr241_8, gr241_11, gr241_12, gr241_13, gr241_20, gr241_21, gr241_22, gr241_26, gr241_27, gr241_28, gr241_29, gr241_31, gr241_32, gr241_33, gr241_38, gr241_39, gr241_40, gr241_41, gr241_42, gr241_43, gr241_44, gr241_45, h.1.1]; rfl
  · refine h.gr ⟨by rw [gb_u_s]; rfl, fun i m hm => by simp at hm⟩ (fun n n0 _ => gb_u_row _ _ n0) (fun j hj => gb_u_nk _ _ hj)
/-! the tape -/
theorem RX.tp (h : RX cOK S I J) {bs : List Nat} (hT : xT (I' 1 1) (I' 2) bs) (k : ∀ n, n ≠ 1 → n ≠ 2 → I' n = I n) : RX cOK (sT S bs) I' J := by
  obtain ⟨h1, h2, h3, h4, h5, h6, h7, h8, h9, h10, h11⟩ := h
  refine ⟨?_, ?_, hT, ?_, h5.keep (fun n _ _ _ => k n (by omega) (by omega)), h6.keep (fun n _ _ => k n (by omega) (by omega)), ?_, ?_, ?_, h10.keep (fun n _ _ => k n (by omega) (by omega)) (fun _ _ _ => rfl), h11.keep (fun n _ _ => ⟨k n (by omega) (by omega), rfl⟩)⟩
  · rw [k 0 (by decide) (by decide), k 239 (by decide) (by decide)]; exact h1
  · rw [k 0 (by decide) (by decide)]; exact h2
  · rw [k 0 (by decide) (by decide)]; exact h4
  · rw [k 240 (by decide) (by decide)]; exact h7
  · rw [k 126 (by decide) (by decide), k 127 (by decide) (by decide), k 128 (by decide) (by decide), k 129 (by decide) (by decide)]; exact h8
  · rw [k 139 (by decide) (by decide), k 145 (by decide) (by decide)]; exact h9
theorem RM.tp (h : RM S I J) {bs : List Nat} (hT : mT (I' 241 14) (I' 248) bs) (k : ∀ n, n ≠ 241 → n ≠ 248 → n ≠ 250 → I' n = I n) (k1 : ∀ j, j ≠ 14 → I' 241 j = I 241 j) : RM (sT S bs) I' J := by
  obtain ⟨h1, h2, h3, h4, h5, h6, h7, h8, h9⟩ := h
  refine ⟨?_, ?_, hT, ?_, ?_, ?_, ?_, ?_, ?_⟩
  · rw [k1 1 (by decide), k 242 (by decide) (by decide) (by decide)]; exact h1
  · rw [k1 0 (by decide)]; exact h2
  · rw [k1 18 (by decide)]; exact h4
  · rw [k 244 (by decide) (by decide) (by decide), k 243 (by decide) (by decide) (by decide)]; exact h5
  · rw [k1 6 (by decide), k 245 (by decide) (by decide) (by decide)]; exact h6
  · rw [k 260 (by decide) (by decide) (by decide)]; exact h7
  · rw [k1 37 (by decide), k 261 (by decide) (by decide) (by decide), k 262 (by decide) (by decide) (by decide), k 263 (by decide) (by decide) (by decide)]; exact h8
  · rw [k1 46 (by decide), k 268 (by decide) (by decide) (by decide), k 267 (by decide) (by decide) (by decide)]; exact h9
theorem gb_take {bs : List Nat} {n i b : Nat} (h : (bs.take n)[i]? = some b) : bs[i]? = some b := by
  rw [List.getElem?_take] at h
  split at h
  · exact h
  · cases h
def a_end (v : Int32) (S : gb_S) : Int32 × gb_S := if gb_rg v (S.2.2.1.length + 1) = true then (v, sT S (S.2.2.1.take v.toNatClampNeg)) else (-1, S)
theorem X_end (h : RX cOK S I J) (v : Int32) : xok cOK (fnX10_end 0 v) I J (a_end v S) := by
  obtain ⟨t1, t2, t3, t4⟩ := id h.2.2.1
  have e : fnX10_end 0 v (gb_mk I J) = if v < 0 then some (-1, gb_mk I J) else if nI S.2.2.1.length < v then some (-1, gb_mk I J) else some (v, gb_mk (gb_u I 1 1 v) J) := by
    simp only [fnX10_end, fbX10_end_15, gb_lt_d, gb_gd_t, gb_rd_s, gb_bd_s, gb_I_mk, gb_L_mk, gb_sI_mk, gb_sL_mk, gk0, gr0_0, gr0_1, gr0_2, gr0_3, gr0_4, gr0_5, gr0_6, gr0_7, gr0_8, gr0_9, gr0_10, gr0_11, gr0_12, gk1, gr1_0, t3]
    by_cases h0 : v < 0
    · rw [if_pos h0, if_pos h0]
    · rw [if_neg h0, if_neg h0]
      obtain ⟨j, hj, rfl⟩ := nI_of h0
      by_cases h1 : j ≤ S.2.2.1.length
      · rw [if_pos (nI_le h1 (by omega)), if_neg (nI_nlt h1 (by omega))]
      · rw [if_neg (nI_ge (by omega) hj), if_pos (nI_lt (by omega) hj)]
  rw [gb_rgM v S.2.2.1.length (by omega) rfl] at e
  unfold a_end xok
  rw [e]
  by_cases h1 : gb_rg v (S.2.2.1.length + 1) = true
  · rw [if_pos h1, if_pos h1]
    obtain ⟨j, hj, _, rfl⟩ := gb_rgT h1
    rw [nI_clamp (by omega)]
    refine ⟨_, _, rfl, h.tp ⟨?_, fun b hb => t2 b (List.mem_of_mem_take hb), ?_, fun i b hb => ?_⟩ (fun n n1 _ => gb_u_row _ _ n1), gb_fx.r.u (by decide)⟩
    · rw [List.length_take]; omega
    · rw [gb_u_s, List.length_take]; congr 1; omega
    · rw [gb_u_row _ _ (by decide)]; exact t4 i b (gb_take hb)
  · rw [if_neg h1, if_neg h1]
    exact ⟨_, _, rfl, h, gb_fx.r⟩
theorem M_end (h : RM S I J) (hl : S.2.2.1.length ≤ 400) (v : Int32) : mok (fnX11_end 241 v) I J (a_end v S) := by
  obtain ⟨t3, t4⟩ := id h.2.2.1
  unfold a_end mok
  simp only [fnX11_end, gb_lt_d, gb_gd_t, gb_rd_s, gb_bd_s, gb_I_mk, gb_L_mk, gb_sI_mk, gb_sL_mk, gk241, gk242, gk243, gk244, gk245, gk246, gk247, gk248, gk249, gk250, gk251, gk252, gk253, gk254, gk255, gk256, gk257, gk258, gk259, gk260, gk261, gk262, gk263, gk264, gk265, gk266, gk267, gk268, gr241_2, gr241_3, gr241_4, gr241_5, gr241_7, gr241_8, gr241_11, gr241_12, gr241_13, gr241_20, gr241_21, gr241_22, gr241_26, gr241_27, gr241_28, gr241_29, gr241_31, gr241_32, gr241_33, gr241_38, gr241_39, gr241_40, gr241_41, gr241_42, gr241_43, gr241_44, gr241_45, m_inR v S.2.2.1.length (by omega) _ t3]
  by_cases h1 : gb_rg v (S.2.2.1.length + 1) = true
  · rw [if_pos h1, if_pos h1, if_neg gb_n10]
    obtain ⟨j, hj, _, rfl⟩ := gb_rgT h1
    rw [nI_clamp (by omega)]
    refine ⟨_, _, rfl, h.tp ⟨?_, fun i b hb => ?_⟩ (fun n n1 _ _ => gb_u_row _ _ n1) (fun j hj => gb_u_nk _ _ hj), gb_fm.r.u (by decide)⟩
    · rw [gb_u_s, List.length_take]; congr 1; omega
    · rw [gb_u_row _ _ (by decide)]; exact t4 i b (gb_take hb)
  · rw [if_neg h1, if_neg h1, if_pos (show (0 : Int32) = 0 from rfl)]
    exact ⟨_, _, rfl, h, gb_fm.r⟩
/-! run -/
def a_run (b bits day : Int32) (S : gb_S) : Int32 × gb_S :=
  if gb_rg bits 32 = true ∧ gb_rg day 1000 = true then
    if gb_rg b 4 = true then
      if S.2.2.2.2.2.2.2.1.length < 200 then (nI (S.2.2.2.2.2.2.2.1.length + 1), sSt (sR S (S.2.2.2.2.2.2.2.1 ++ [(b.toNatClampNeg, bits.toNatClampNeg, day.toNatClampNeg)])) 0)
      else (-5, sSt S (-5))
    else (-2, sSt S (-2))
  else (-1, sSt S (-1))
theorem xR.push {c c' : Int32} {r1 r2 r3 r1' r2' r3' : Nat → Int32} {rs : List (Nat × Nat × Nat)} {b t d : Nat} (h : xR c r1 r2 r3 rs) (hl : rs.length < 200) (hb : b < 4) (ht : t < 32) (hd : d < 1000) (hc : c' = nI (rs.length + 1))
    (k : ∀ i, i ≠ rs.length → r1' i = r1 i ∧ r2' i = r2 i ∧ r3' i = r3 i) (e1 : r1' rs.length = nI b) (e2 : r2' rs.length = nI t) (e3 : r3' rs.length = nI d) : xR c' r1' r2' r3' (rs ++ [(b, t, d)]) := by
  refine ⟨by simp; omega, by rw [hc]; simp, fun i q hq => ?_⟩
  rcases Nat.lt_or_ge i rs.length with hi | hi
  · rw [List.getElem?_append_left hi] at hq
    obtain ⟨k1, k2, k3⟩ := k i (by omega)
    rw [k1, k2, k3]
    exact h.2.2 i q hq
  · have hlt := (List.getElem?_eq_some_iff.mp hq).1
    simp at hlt
    have e : i = rs.length := by omega
    subst e
    simp at hq
    subst hq
    exact ⟨hb, ht, hd, e1, e2, e3⟩
theorem RX.rn (h : RX cOK S I J) {rs : List (Nat × Nat × Nat)} (hR : xR (I' 126 3) (I' 127) (I' 128) (I' 129) rs) (k : ∀ n, n < 126 ∨ 129 < n → I' n = I n) : RX cOK (sR S rs) I' J := by
  obtain ⟨h1, h2, h3, h4, h5, h6, h7, h8, h9, h10, h11⟩ := h
  refine ⟨?_, ?_, ?_, ?_, h5.keep (fun n _ _ _ => k n (by omega)), h6.keep (fun n _ _ => k n (by omega)), ?_, hR, ?_, h10.keep (fun n _ _ => k n (by omega)) (fun _ _ _ => rfl), h11.keep (fun n _ _ => ⟨k n (by omega), rfl⟩)⟩
  · rw [k 0 (by decide), k 239 (by decide)]; exact h1
  · rw [k 0 (by decide)]; exact h2
  · rw [k 1 (by decide), k 2 (by decide)]; exact h3
  · rw [k 0 (by decide)]; exact h4
  · rw [k 240 (by decide)]; exact h7
  · rw [k 139 (by decide), k 145 (by decide)]; exact h9
theorem X_run (h : RX cOK S I J) (b t d : Int32) : xok cOK (fnX10_run 0 b t d) I J (a_run b t d S) := by
  have bad : fbX10_run_14 0 (gb_mk I J) = some (-1, gb_mk (gb_u I 0 15 (-1)) J) := by simp only [fbX10_run_14, x_refuse, gb_lt_d, gb_gd_t, gb_rd_s, gb_bd_s, gb_I_mk, gb_L_mk, gb_sI_mk, gb_sL_mk, gk0, gr0_0, gr0_1, gr0_2, gr0_3, gr0_4, gr0_5, gr0_6, gr0_7, gr0_8, gr0_9, gr0_10, gr0_11, gr0_12]
  have l := h.2.2.2.2.2.2.2.1.2.1
  unfold a_run xok
  simp only [fnX10_run, x_areBits, x_isDay, x_isBench, gb_lt_d, gb_gd_t, gb_rd_s, gb_bd_s, gb_I_mk, gb_L_mk, gb_sI_mk, gb_sL_mk]
  by_cases h1 : gb_rg t 32 = true
  · by_cases h2 : gb_rg d 1000 = true
    · rw [if_pos h1, if_pos h2, if_neg gb_n10, if_neg gb_n10, if_pos (show gb_rg t 32 = true ∧ gb_rg d 1000 = true from ⟨h1, h2⟩)]
      by_cases h3 : gb_rg b 4 = true
      · rw [if_pos h3, if_pos h3, if_neg gb_n10]
        obtain ⟨b', hb, _, rfl⟩ := gb_rgT h3
        obtain ⟨t', ht, _, rfl⟩ := gb_rgT h1
        obtain ⟨d', hd, _, rfl⟩ := gb_rgT h2
        rw [nI_clamp (by omega), nI_clamp (by omega), nI_clamp (by omega)]
        generalize hn : S.2.2.2.2.2.2.2.1.length = n at l
        have hn2 : n ≤ 200 := by rw [← hn]; exact h.2.2.2.2.2.2.2.1.1
        simp only [gb_lt_d, gb_gd_t, gb_rd_s, gb_bd_s, gb_I_mk, gb_L_mk, gb_sI_mk, gb_sL_mk, gk0, gr0_0, gr0_1, gr0_2, gr0_3, gr0_4, gr0_5, gr0_6, gr0_7, gr0_8, gr0_9, gr0_10, gr0_11, gr0_12, gk126, gr126_0, gr126_1, gr126_2, gr126_4, gr126_6, gr126_7, l]
        by_cases h4 : n < 200
        · rw [if_pos (show nI n < 200 from nI_lt h4 (by decide)), if_pos h4]
          refine ⟨gb_u (gb_u (gb_u (gb_u (gb_u I 127 n (nI b')) 128 n (nI t')) 129 n (nI d')) 126 3 (nI (n + 1))) 0 15 0, J, ?_, ?_, ((((gb_fx.r.u (by decide)).u (by decide)).u (by decide)).u (by decide)).u (by decide)⟩
          · simp only [fnX3_append, gb_lt_d, gb_gd_t, gb_rd_s, gb_bd_s, gb_I_mk, gb_L_mk, gb_sI_mk, gb_sL_mk, gk126, gr126_0, gr126_1, gr126_2, gr126_4, gr126_6, gr126_7, gk127, gk128, gk129, l]
            rw [if_neg (show ¬ (200 : Int32) ≤ nI n from nI_ge h4 (by decide))]
            simp (disch := omega) only [fbX3_append_50, gb_lt_d, gb_gd_t, gb_rd_s, gb_bd_s, gb_I_mk, gb_L_mk, gb_sI_mk, gb_sL_mk, gk0, gr0_0, gr0_1, gr0_2, gr0_3, gr0_4, gr0_5, gr0_6, gr0_7, gr0_8, gr0_9, gr0_10, gr0_11, gr0_12, gk126, gr126_0, gr126_1, gr126_2, gr126_4, gr126_6, gr126_7, gk127, gk128, gk129, l, nI_clamp, gi127, gi128, gi129, gb_u_ne, gb_lit 1, nI_add, x_allow, gb_u_s]
          · refine RX.st (S := sR S _) (h.rn ?_ ?_) 0
            · refine h.2.2.2.2.2.2.2.1.push (by omega) hb ht hd ?_ ?_ ?_ ?_ ?_
              · rw [gb_u_s, hn]
              · intro i hi
                rw [hn] at hi
                rw [gb_u_row _ _ (show 127 ≠ 126 by decide), gb_u_row _ _ (show 127 ≠ 129 by decide), gb_u_row _ _ (show 127 ≠ 128 by decide), gb_u_nk _ _ hi, gb_u_row _ _ (show 128 ≠ 126 by decide), gb_u_row _ _ (show 128 ≠ 129 by decide), gb_u_nk _ _ hi, gb_u_row _ _ (show 128 ≠ 127 by decide), gb_u_row _ _ (show 129 ≠ 126 by decide), gb_u_nk _ _ hi, gb_u_row _ _ (show 129 ≠ 128 by decide), gb_u_row _ _ (show 129 ≠ 127 by decide)]
                exact ⟨rfl, rfl, rfl⟩
              · rw [hn, gb_u_ne _ _ (by decide), gb_u_ne _ _ (by decide), gb_u_ne _ _ (by decide), gb_u_s]
              · rw [hn, gb_u_ne _ _ (by decide), gb_u_ne _ _ (by decide), gb_u_s]
              · rw [hn, gb_u_ne _ _ (by decide), gb_u_s]
            · intro n' hn'
              rw [gb_u_row _ _ (by omega), gb_u_row _ _ (by omega), gb_u_row _ _ (by omega), gb_u_row _ _ (by omega)]
        · rw [if_neg (show ¬ nI n < 200 from nI_nlt (a := n) (b := 200) (by omega) (by omega)), if_neg h4]
          simp only [x_refuse, gb_lt_d, gb_gd_t, gb_rd_s, gb_bd_s, gb_I_mk, gb_L_mk, gb_sI_mk, gb_sL_mk]
          exact ⟨_, _, rfl, h.st _, gb_fx.r.u (by decide)⟩
      · rw [if_neg h3, if_neg h3, if_pos (show (0 : Int32) = 0 from rfl)]
        simp only [x_refuse, gb_lt_d, gb_gd_t, gb_rd_s, gb_bd_s, gb_I_mk, gb_L_mk, gb_sI_mk, gb_sL_mk, gk0, gr0_0, gr0_1, gr0_2, gr0_3, gr0_4, gr0_5, gr0_6, gr0_7, gr0_8, gr0_9, gr0_10, gr0_11, gr0_12]
        exact ⟨_, _, rfl, h.st _, gb_fx.r.u (by decide)⟩
    · rw [if_pos h1, if_neg h2, if_neg gb_n10, if_pos (show (0 : Int32) = 0 from rfl), if_neg (show ¬ (gb_rg t 32 = true ∧ gb_rg d 1000 = true) from fun q => h2 q.2)]
      exact ⟨_, _, bad, h.st _, gb_fx.r.u (by decide)⟩
  · rw [if_neg h1, if_pos (show (0 : Int32) = 0 from rfl), if_neg (show ¬ (gb_rg t 32 = true ∧ gb_rg d 1000 = true) from fun q => h1 q.1)]
    exact ⟨_, _, bad, h.st _, gb_fx.r.u (by decide)⟩
end OPS4
