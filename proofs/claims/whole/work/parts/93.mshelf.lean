section MSHELF
variable {S : gb_S} {I I' I1 I2 : gb_FI} {J J' : gb_FJ} {c : Nat → Nat} {n s cs ls a m b : Nat}
def gm_cs (I : gb_FI) (m : Nat) : Nat → gb_FI
  | 0 => I
  | i + 1 => gb_u (gm_cs I m i) 245 (8 * m + i) (I 246 i)
theorem gm_cs_ne {x : Nat} (h : x ≠ 245) : ∀ i, gm_cs I m i x = I x
  | 0 => rfl
  | i + 1 => by
    show gb_u (gm_cs I m i) 245 (8 * m + i) _ x = I x
    rw [gb_u_row _ _ h, gm_cs_ne h i]
theorem gm_cs_i {j : Nat} : ∀ i, j < i → gm_cs I m i 245 (8 * m + j) = I 246 j
  | 0, h => absurd h (by omega)
  | i + 1, h => by
    show gb_u (gm_cs I m i) 245 (8 * m + i) _ 245 (8 * m + j) = _
    by_cases e : j = i
    · subst e; rw [gb_u_s]
    · rw [gb_u_nk _ _ (by omega), gm_cs_i i (by omega)]
theorem gm_cs_o {k : Nat} : ∀ i, k < 8 * m → gm_cs I m i 245 k = I 245 k
  | 0, _ => rfl
  | i + 1, h => by
    show gb_u (gm_cs I m i) 245 (8 * m + i) _ 245 k = _
    rw [gb_u_nk _ _ (by omega), gm_cs_o i h]
theorem m_shelf55B {e : Nat} (he : e < 1000) (h : I 241 19 = nI e) : fbX11_shelf_55 241 (gb_mk I J) = some (-6, gb_mk (gb_u (gb_u I 241 18 (nI e)) 241 0 (-6)) J) := by
  have bd : mBd (gb_u I 241 18 (nI e)) := by unfold mBd; rw [gb_u_nk _ _ (by decide), h]; exact gb_nmi e he
  simp only [fbX11_shelf_55, gb_lt_d, gb_gd_t, gb_rd_s, gb_bd_s, gb_I_mk, gb_L_mk, gb_sI_mk, gb_sL_mk, gk241, gr241_2, gr241_3, gr241_4, gr241_5, gr241_7, gr241_8, gr241_11, gr241_12, gr241_13, gr241_20, gr241_21, gr241_22, gr241_26, gr241_27, gr241_28, gr241_29, gr241_31, gr241_32, gr241_33, gr241_38, gr241_39, gr241_40, gr241_41, gr241_42, gr241_43, gr241_44, gr241_45, h, m_goodB bd, if_true, m_ends]
  rfl
theorem m_shelf55G (h : I 241 19 = -1) (hm : m < 8) (h6 : I 241 6 = nI m) : fbX11_shelf_55 241 (gb_mk I J) = some (nI m, gb_mk (gb_u (gb_u (gm_cs (gb_u I 241 18 (-1)) m 8) 241 6 (nI (m + 1))) 241 0 0) J) := by
  have g : gb_u I 241 18 (-1) 241 19 = -1 := by rw [gb_u_nk _ _ (by decide)]; exact h
  have k6' : ∀ i, gm_cs (gb_u I 241 18 (-1)) m i 241 6 = nI m := fun i => by rw [gm_cs_ne (by decide), gb_u_nk _ _ (by decide)]; exact h6
  have k6 : ∀ i j, gm_cs (gb_u I 241 18 (-1)) m i 246 j = gb_u I 241 18 (-1) 246 j := fun i j => by rw [gm_cs_ne (by decide)]
  simp only [fbX11_shelf_55, gb_lt_d, gb_gd_t, gb_rd_s, gb_bd_s, gb_I_mk, gb_L_mk, gb_sI_mk, gb_sL_mk, gk241, gr241_2, gr241_3, gr241_4, gr241_5, gr241_7, gr241_8, gr241_11, gr241_12, gr241_13, gr241_20, gr241_21, gr241_22, gr241_26, gr241_27, gr241_28, gr241_29, gr241_31, gr241_32, gr241_33, gr241_38, gr241_39, gr241_40, gr241_41, gr241_42, gr241_43, gr241_44, gr241_45, h, m_goodG g]
  rw [if_neg gb_n10]
  generalize gb_u I 241 18 (-1) = K at *
  have e8 : (8 : Int32) * nI m = nI (8 * m) := gb_nI_mul 8 m
  simp only [lpX11_shelf_79]
  refine gb_forF (fun i => (241, nI i, gb_mk (gm_cs K m i) J)) 8 (by decide) ?_ ?_
  · intro j hj kk
    simp only [fbX11_shelf_79]
    rw [if_neg (show ¬ (8 : Int32) ≤ nI j from nI_ge (a := j) (b := 8) hj (by omega))]
    simp (disch := omega) only [gb_lt_d, gb_gd_t, gb_rd_s, gb_bd_s, gb_I_mk, gb_L_mk, gb_sI_mk, gb_sL_mk, gk241, gk242, gk243, gk244, gk245, gk246, gk247, gk248, gk249, gk250, gk251, gk252, gk253, gk254, gk255, gk256, gk257, gk258, gk259, gk260, gk261, gk262, gk263, gk264, gk265, gk266, gk267, gk268, gr241_2, gr241_3, gr241_4, gr241_5, gr241_7, gr241_8, gr241_11, gr241_12, gr241_13, gr241_20, gr241_21, gr241_22, gr241_26, gr241_27, gr241_28, gr241_29, gr241_31, gr241_32, gr241_33, gr241_38, gr241_39, gr241_40, gr241_41, gr241_42, gr241_43, gr241_44, gr241_45, gi246, gi245, nI_clamp, k6' j, e8, nI_add, gb_lit 1, k6 j j]
    rfl
  · intro kk
    show fbX11_shelf_79 _ 241 (nI 8) (gb_mk (gm_cs K m 8) J) = _
    simp only [fbX11_shelf_79]
    rw [if_pos (show (8 : Int32) ≤ nI 8 by decide)]
    simp only [gb_lt_d, gb_gd_t, gb_rd_s, gb_bd_s, gb_I_mk, gb_L_mk, gb_sI_mk, gb_sL_mk, gk241, gr241_2, gr241_3, gr241_4, gr241_5, gr241_7, gr241_8, gr241_11, gr241_12, gr241_13, gr241_20, gr241_21, gr241_22, gr241_26, gr241_27, gr241_28, gr241_29, gr241_31, gr241_32, gr241_33, gr241_38, gr241_39, gr241_40, gr241_41, gr241_42, gr241_43, gr241_44, gr241_45, k6' 8, nI_1, gb_u_s, nI_pred, m_ends]
    rw [if_pos (nI_pos' (by omega))]
theorem M_shelf (hT : S.2.2.1.length ≤ 400 ∧ ∀ b ∈ S.2.2.1, b < 256) (hp : gb_pls S) (h8l : S.2.2.2.2.2.1.length ≤ 8) (h : RM S I J) : mok (fnX11_shelf 241) I J (a_shelf S) := by
  have h8 := mT.h hT h
  have h14 := h.2.2.1.1
  have hn := hT.1
  have h6 := h.2.2.2.2.2.1.1
  unfold a_shelf mok
  simp only [fnX11_shelf, gb_lt_d, gb_gd_t, gb_rd_s, gb_bd_s, gb_I_mk, gb_L_mk, gb_sI_mk, gb_sL_mk, gk241, gr241_2, gr241_3, gr241_4, gr241_5, gr241_7, gr241_8, gr241_11, gr241_12, gr241_13, gr241_20, gr241_21, gr241_22, gr241_26, gr241_27, gr241_28, gr241_29, gr241_31, gr241_32, gr241_33, gr241_38, gr241_39, gr241_40, gr241_41, gr241_42, gr241_43, gr241_44, gr241_45, h6]
  by_cases h1 : S.2.2.2.2.2.1.length < 8
  · rw [if_neg (show ¬ nI S.2.2.2.2.2.1.length = 8 from fun w => by have := (nI_eq (b := 8) (by omega) (by omega)).mp w; omega), if_pos h1]
    obtain ⟨I1, a1, a2, a3, a4, a5, a6, a7, a8, a9⟩ := m_begins (J := J) hn h14 h8
    have ef := m_fresh (J := J) (m := 0) (by decide) a6
    rw [Nat.mul_zero] at ef
    have k1 : ∀ x, x ≠ 246 → gm_fh I1 0 8 x = I1 x := fun x hx => gm_fh_ne hx 8
    have fK : ∀ j, j < 8 → gm_fh I1 0 8 246 (0 + j) = if j < 3 then 0 else -1 := fun j hj => gm_fh_i 8 hj
    have hK : mRd (gm_fh I1 0 8) (gb_cc S.2.2.1) S.2.2.1.length (gt_s (gb_cc S.2.2.1) S.2.2.1.length 0) := a2.k (k1 249 (by decide)) (fun k _ => by rw [k1 241 (by decide)])
    have gK : gm_fh I1 0 8 241 19 = -1 := by rw [k1 241 (by decide)]; exact a3
    have cK : mCs (gm_fh I1 0 8) 0 := a4.k (k1 247 (by decide))
    have t := m_deed (J := J) (a := 0) hK gK cK (by decide) (wp := 5) (wc := 0) ⟨fK 2 (by decide), fK 3 (by decide), fK 4 (by decide), fK 6 (by decide), fun w => absurd rfl w⟩
    simp only [a1, ef, gb_lt_d, gb_gd_t, gb_rd_s, gb_bd_s, gb_I_mk, gb_L_mk, gb_sI_mk, gb_sL_mk, gk241, gr241_2, gr241_3, gr241_4, gr241_5, gr241_7, gr241_8, gr241_11, gr241_12, gr241_13, gr241_20, gr241_21, gr241_22, gr241_26, gr241_27, gr241_28, gr241_29, gr241_31, gr241_32, gr241_33, gr241_38, gr241_39, gr241_40, gr241_41, gr241_42, gr241_43, gr241_44, gr241_45]
    have k2 : ∀ x, x ≠ 241 → x ≠ 246 → x ≠ 247 → x ≠ 249 → gm_fh I1 0 8 x = I x := fun x x1 x2 x3 x4 => (k1 x x2).trans (a8 x x1 x3 x4)
    have k3 : ∀ j, j = 1 ∨ j = 6 ∨ j = 37 ∨ j = 46 → gm_fh I1 0 8 241 j = I 241 j := fun j hj => by
      rw [k1 241 (by decide)]
      exact a9 j (by omega) (by omega) (by omega) (by omega) (by omega) (by omega) (by omega)
    have k14 : gm_fh I1 0 8 241 14 = 0 := by rw [k1 241 (by decide)]; exact a7
    generalize gm_fh I1 0 8 = K at *
    obtain ⟨we, wo⟩ := g_deed_e (c := gb_cc S.2.2.1) (n := S.2.2.1.length) (cs := 0) (wp := 5) (wc := 0) a2.2.1
    have bad : ∀ (e : Nat) (I2 : gb_FI), e ≤ S.2.2.1.length → I2 241 19 = nI e → gm_fr 0 K I2 → ∃ I' J', fbX11_shelf_55 241 (gb_mk I2 J) = some (-6, gb_mk I' J') ∧ RM (sSt (sT (sF S (nI e)) []) (-6)) I' J' ∧ gb_fm I I' J J' := by
      intro e I2 he b2 b3
      have kx : ∀ x, x ≠ 241 → x ≠ 246 → x ≠ 247 → x ≠ 249 → I2 x = I x := fun x x1 x2 x3 x4 => (b3.1 x x1 x2).trans (k2 x x1 x2 x3 x4)
      have ky : ∀ j, j = 1 ∨ j = 6 ∨ j = 37 ∨ j = 46 → I2 241 j = I 241 j := fun j hj => (b3.2.1 j (by omega) (by omega) (by omega)).trans (k3 j hj)
      refine ⟨gb_u (gb_u I2 241 18 (nI e)) 241 0 (-6), J, m_shelf55B (by omega) b2, ?_, gb_fm.k (fun m hm => ?_)⟩
      · refine h.new (bn := S.2.2.2.2.1) (sh := S.2.2.2.2.2.1) (f := nI e) (v := -6) (fun x x1 x2 x3 x4 x5 x6 x7 => ?_) (fun j hj => ?_) ?_ ?_ (gb_u_s _ _ _ _) ?_ ?_ hp (fun _ _ => rfl)
        · rw [gb_u_row _ _ x1, gb_u_row _ _ x1]; exact kx x x1 x5 x6 x7
        · rw [gb_u_nk _ _ (by omega), gb_u_nk _ _ (by omega)]; exact ky j (by omega)
        · rw [gb_u_nk _ _ (by decide), gb_u_nk _ _ (by decide), b3.2.1 14 (by decide) (by decide) (by decide)]; exact k14
        · rw [gb_u_nk _ _ (by decide), gb_u_s]
        · rw [gb_u_row _ _ (by decide), gb_u_row _ _ (by decide), gb_u_row _ _ (by decide), gb_u_row _ _ (by decide), kx 244 (by decide) (by decide) (by decide) (by decide), kx 243 (by decide) (by decide) (by decide) (by decide)]
          exact h.2.2.2.2.1
        · rw [gb_u_nk _ _ (by decide), gb_u_nk _ _ (by decide), gb_u_row _ _ (by decide), gb_u_row _ _ (by decide), kx 245 (by decide) (by decide) (by decide) (by decide), ky 6 (by decide)]
          exact h.2.2.2.2.2.1
      · rw [gb_u_row _ _ (by omega), gb_u_row _ _ (by omega)]; exact kx m (by omega) (by omega) (by omega) (by omega)
    unfold g_alone
    revert t we wo
    cases g_deed (gb_cc S.2.2.1) S.2.2.1.length 0 5 0 (gt_s (gb_cc S.2.2.1) S.2.2.1.length 0) with
    | error e =>
      rintro ⟨I2, b1, b2, b3⟩ we -
      have he := we e rfl
      rw [show fnX11_deed 241 (nI 0) (gb_mk K J) = some ((), gb_mk I2 J) from b1]
      simp only [gb_lt_d, gb_gd_t, gb_rd_s, gb_bd_s, gb_I_mk, gb_L_mk, gb_sI_mk, gb_sL_mk, gk241, gr241_2, gr241_3, gr241_4, gr241_5, gr241_7, gr241_8, gr241_11, gr241_12, gr241_13, gr241_20, gr241_21, gr241_22, gr241_26, gr241_27, gr241_28, gr241_29, gr241_31, gr241_32, gr241_33, gr241_38, gr241_39, gr241_40, gr241_41, gr241_42, gr241_43, gr241_44, gr241_45, m_goodB (mBd.of b2 (by omega)), if_true]
      exact bad e I2 he b2 b3
    | ok r =>
      rintro ⟨I2, b1, b2, b3, b4, b5⟩ - wo
      have hr := wo r rfl
      rw [show fnX11_deed 241 (nI 0) (gb_mk K J) = some ((), gb_mk I2 J) from b1]
      simp only [gb_lt_d, gb_gd_t, gb_rd_s, gb_bd_s, gb_I_mk, gb_L_mk, gb_sI_mk, gb_sL_mk, gk241, gr241_2, gr241_3, gr241_4, gr241_5, gr241_7, gr241_8, gr241_11, gr241_12, gr241_13, gr241_20, gr241_21, gr241_22, gr241_26, gr241_27, gr241_28, gr241_29, gr241_31, gr241_32, gr241_33, gr241_38, gr241_39, gr241_40, gr241_41, gr241_42, gr241_43, gr241_44, gr241_45, m_goodG b3, b2.1.2.1, b2.2.2.1]
      rw [if_neg gb_n10]
      by_cases q : r.2 < S.2.2.1.length
      · rw [if_neg (show ¬ nI S.2.2.1.length ≤ nI r.2 from nI_ge q (by omega))]
        simp only [if_pos q, m_faultsG b3 b2.2.2.1, gb_lt_d, gb_gd_t, gb_rd_s, gb_bd_s, gb_I_mk, gb_L_mk, gb_sI_mk, gb_sL_mk]
        exact bad r.2 _ hr (gb_u_s _ _ _ _) (b4.t gm_f1.fa.fr)
      · rw [if_pos (show nI S.2.2.1.length ≤ nI r.2 from nI_le (by omega) (by omega))]
        simp only [if_neg q]
        have kx : ∀ x, x ≠ 241 → x ≠ 246 → x ≠ 247 → x ≠ 249 → I2 x = I x := fun x x1 x2 x3 x4 => (b4.1 x x1 x2).trans (k2 x x1 x2 x3 x4)
        have ky : ∀ j, j = 1 ∨ j = 6 ∨ j = 37 ∨ j = 46 → I2 241 j = I 241 j := fun j hj => (b4.2.1 j (by omega) (by omega) (by omega)).trans (k3 j hj)
        refine ⟨gb_u (gb_u (gm_cs (gb_u I2 241 18 (-1)) S.2.2.2.2.2.1.length 8) 241 6 (nI (S.2.2.2.2.2.1.length + 1))) 241 0 0, J, m_shelf55G b3 h1 (by rw [ky 6 (by decide)]; exact h6), ?_, gb_fm.k (fun m hm => ?_)⟩
        · refine h.new (bn := S.2.2.2.2.1) (sh := S.2.2.2.2.2.1 ++ [r.1]) (f := -1) (v := 0) (fun x x1 x2 x3 x4 x5 x6 x7 => ?_) (fun j hj => ?_) ?_ ?_ (gb_u_s _ _ _ _) ?_ ?_ hp (fun j hj => List.getElem?_append_left hj)
          · rw [gb_u_row _ _ x1, gb_u_row _ _ x1, gm_cs_ne x4, gb_u_row _ _ x1]; exact kx x x1 x5 x6 x7
          · rw [gb_u_nk _ _ (by omega), gb_u_nk _ _ (by omega), gm_cs_ne (by decide), gb_u_nk _ _ (by omega)]; exact ky j (by omega)
          · rw [gb_u_nk _ _ (by decide), gb_u_nk _ _ (by decide), gm_cs_ne (by decide), gb_u_nk _ _ (by decide), b4.2.1 14 (by decide) (by decide) (by decide)]; exact k14
          · rw [gb_u_nk _ _ (by decide), gb_u_nk _ _ (by decide), gm_cs_ne (by decide), gb_u_s]
          · rw [gb_u_row _ _ (by decide), gb_u_row _ _ (by decide), gm_cs_ne (by decide), gb_u_row _ _ (by decide), gb_u_row _ _ (by decide), gb_u_row _ _ (by decide), gm_cs_ne (by decide), gb_u_row _ _ (by decide), kx 244 (by decide) (by decide) (by decide) (by decide), kx 243 (by decide) (by decide) (by decide) (by decide)]
            exact h.2.2.2.2.1
          · rw [gb_u_nk _ _ (by decide), gb_u_s, gb_u_row _ _ (by decide), gb_u_row _ _ (by decide)]
            obtain ⟨q1, q2⟩ := h.2.2.2.2.2.1
            refine ⟨by simp, fun i p hi => ?_⟩
            by_cases e : i < S.2.2.2.2.2.1.length
            · rw [List.getElem?_append_left e] at hi
              refine (q2 i p hi).k (fun j hj => ?_)
              rw [gm_cs_o _ (by omega), gb_u_row _ _ (by decide), kx 245 (by decide) (by decide) (by decide) (by decide)]
            · rw [List.getElem?_append_right (by omega)] at hi
              have ei : i = S.2.2.2.2.2.1.length := by
                by_cases w : i - S.2.2.2.2.2.1.length = 0
                · omega
                · rw [List.getElem?_eq_none (by simp; omega)] at hi
                  exact absurd hi (by simp)
              subst ei
              rw [Nat.sub_self] at hi
              have : r.1 = p := by simpa using hi
              rw [← this]
              refine b5.k (fun j hj => ?_)
              rw [gm_cs_i _ hj, gb_u_row _ _ (by decide), Nat.zero_add]
        · rw [gb_u_row _ _ (by omega), gb_u_row _ _ (by omega), gm_cs_ne (by omega), gb_u_row _ _ (by omega)]; exact kx m (by omega) (by omega) (by omega) (by omega)
  · rw [if_pos (show nI S.2.2.2.2.2.1.length = 8 by rw [show S.2.2.2.2.2.1.length = 8 by omega]; rfl), if_neg h1]
    refine ⟨gb_u (gb_u I 241 14 0) 241 0 (-5), J, ?_, ?_, gb_fm.k (fun m hm => ?_)⟩
    · simp only [gb_lt_d, gb_gd_t, gb_rd_s, gb_bd_s, gb_I_mk, gb_L_mk, gb_sI_mk, gb_sL_mk, gk241, gr241_2, gr241_3, gr241_4, gr241_5, gr241_7, gr241_8, gr241_11, gr241_12, gr241_13, gr241_20, gr241_21, gr241_22, gr241_26, gr241_27, gr241_28, gr241_29, gr241_31, gr241_32, gr241_33, gr241_38, gr241_39, gr241_40, gr241_41, gr241_42, gr241_43, gr241_44, gr241_45, m_ends]
      rfl
    · refine h.new (bn := S.2.2.2.2.1) (sh := S.2.2.2.2.2.1) (f := S.2.2.2.1) (v := -5) (fun x x1 x2 x3 x4 x5 x6 x7 => ?_) (fun j hj => ?_) ?_ ?_ (gb_u_s _ _ _ _) ?_ ?_ hp (fun _ _ => rfl)
      · rw [gb_u_row _ _ x1, gb_u_row _ _ x1]
      · rw [gb_u_nk _ _ (by omega), gb_u_nk _ _ (by omega)]
      · rw [gb_u_nk _ _ (by decide), gb_u_s]
      · rw [gb_u_nk _ _ (by decide), gb_u_nk _ _ (by decide)]; exact h.2.2.2.1
      · rw [gb_u_row _ _ (by decide), gb_u_row _ _ (by decide), gb_u_row _ _ (by decide), gb_u_row _ _ (by decide)]; exact h.2.2.2.2.1
      · rw [gb_u_nk _ _ (by decide), gb_u_nk _ _ (by decide), gb_u_row _ _ (by decide), gb_u_row _ _ (by decide)]; exact h.2.2.2.2.2.1
    · rw [gb_u_row _ _ (by omega), gb_u_row _ _ (by omega)]
end MSHELF
