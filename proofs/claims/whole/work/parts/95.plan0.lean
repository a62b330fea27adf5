section PLAN0
variable {cOK : gb_CP} {S : gb_S} {I I' I1 I2 : gb_FI} {J J' : gb_FJ}
def a_deep (b : Int32) (S : gb_S) : Int32 × gb_S := if gb_rg b 4 = true then (nI (gb_dpt S.1.length (S.2.2.2.2.1 b.toNatClampNeg)), S) else (-1, S)
theorem X_deep (h : RX cOK S I J) (b : Int32) : xok cOK (fnX10_deep 0 b) I J (a_deep b S) := by
  have hG := h.1
  unfold a_deep xok
  simp only [fnX10_deep, fbX10_deep_24, x_isBench, gb_lt_d, gb_gd_t, gb_rd_s, gb_bd_s, gb_I_mk, gb_L_mk, gb_sI_mk, gb_sL_mk, gk0, gr0_0, gr0_1, gr0_2, gr0_3, gr0_4, gr0_5, gr0_6, gr0_7, gr0_8, gr0_9, gr0_10, gr0_11, gr0_12]
  by_cases h1 : gb_rg b 4 = true
  · rw [if_pos h1, if_pos h1, if_neg gb_n10]
    obtain ⟨b', hb, _, rfl⟩ := gb_rgT h1
    obtain ⟨q1, q2, q3⟩ := h.2.2.2.2.1 b' hb
    have hl := hG.1
    refine ⟨I, J, ?_, h, gb_fx.r⟩
    simp (disch := omega) only [gb_lt_d, gb_gd_t, gb_rd_s, gb_bd_s, gb_I_mk, gb_L_mk, gb_sI_mk, gb_sL_mk, gk0, gr0_0, gr0_1, gr0_2, gr0_3, gr0_4, gr0_5, gr0_6, gr0_7, gr0_8, gr0_9, gr0_10, gr0_11, gr0_12, gk22, gi22, nI_clamp, gx_ly hb, gx_lyk hb, hG.2.2.1, x_depthFor hb (show S.1.length < 1000 by omega) q1 q2 q3]
  · rw [if_neg h1, if_neg h1, if_pos (show (0 : Int32) = 0 from rfl)]
    exact ⟨I, J, rfl, h, gb_fx.r⟩
theorem M_deep (hG : S.1.length ≤ 3) (hB : ∀ b, b < 4 → (S.2.2.2.2.1 b).length ≤ 16 ∧ ∀ p ∈ S.2.2.2.2.1 b, gb_pOK p) (h : RM S I J) (b : Int32) : mok (fnX11_deep 241 b) I J (a_deep b S) := by
  unfold a_deep mok
  simp only [fnX11_deep, fbX11_deep_35, m_inR _ 3 (by decide) _ (show (3 : Int32) = nI 3 from rfl), gb_lt_d, gb_gd_t, gb_rd_s, gb_bd_s, gb_I_mk, gb_L_mk, gb_sI_mk, gb_sL_mk, gk241, gk242, gk243, gk244, gk245, gk246, gk247, gk248, gk249, gk250, gk251, gk252, gk253, gk254, gk255, gk256, gk257, gk258, gk259, gk260, gk261, gk262, gk263, gk264, gk265, gk266, gk267, gk268, gr241_2, gr241_3, gr241_4, gr241_5, gr241_7, gr241_8, gr241_11, gr241_12, gr241_13, gr241_20, gr241_21, gr241_22, gr241_26, gr241_27, gr241_28, gr241_29, gr241_31, gr241_32, gr241_33, gr241_38, gr241_39, gr241_40, gr241_41, gr241_42, gr241_43, gr241_44, gr241_45]
  by_cases h1 : gb_rg b 4 = true
  · rw [if_pos (show gb_rg b (3 + 1) = true from h1), if_pos h1, if_neg gb_n10]
    obtain ⟨b', hb, _, rfl⟩ := gb_rgT h1
    obtain ⟨q1, q2⟩ := h.2.2.2.2.1 b' hb
    obtain ⟨w1, w2⟩ := hB b' hb
    have e128 : (128 : Int32) * nI b' = nI (128 * b') := gb_nI_mul 128 b'
    have d := m_deepOf (I := I) (J := J) (o := 243) (a := 128 * b') (g := S.1.length) (room := 512) (ps := S.2.2.2.2.1 b') (fun I J => gk243) (fun j hj => gi243 hj) (by decide) (by omega) hG (fun i p hi => ⟨w2 p (List.mem_of_getElem? hi), q2 i p hi⟩)
    refine ⟨I, J, ?_, h, gb_fm.r⟩
    simp (disch := omega) only [gb_lt_d, gb_gd_t, gb_rd_s, gb_bd_s, gb_I_mk, gb_L_mk, gb_sI_mk, gb_sL_mk, gk241, gk242, gk243, gk244, gk245, gk246, gk247, gk248, gk249, gk250, gk251, gk252, gk253, gk254, gk255, gk256, gk257, gk258, gk259, gk260, gk261, gk262, gk263, gk264, gk265, gk266, gk267, gk268, gr241_2, gr241_3, gr241_4, gr241_5, gr241_7, gr241_8, gr241_11, gr241_12, gr241_13, gr241_20, gr241_21, gr241_22, gr241_26, gr241_27, gr241_28, gr241_29, gr241_31, gr241_32, gr241_33, gr241_38, gr241_39, gr241_40, gr241_41, gr241_42, gr241_43, gr241_44, gr241_45, gi244, nI_clamp, e128, q1, h.1.1, d]
  · rw [if_neg (show ¬ gb_rg b (3 + 1) = true from h1), if_neg h1, if_pos (show (0 : Int32) = 0 from rfl)]
    exact ⟨I, J, rfl, h, gb_fm.r⟩
theorem gb_neg3 {i : Int32} (h : i < 0) : i = -1 ∨ i = -2 ∨ i = -3 ∨ i < -3 := by
  rw [Int32.lt_iff_toInt_lt, show (0 : Int32).toInt = 0 from by decide] at h
  rw [Int32.lt_iff_toInt_lt, show (-3 : Int32).toInt = -3 from by decide]
  by_cases a : i.toInt = -1
  · exact Or.inl (Int32.toInt_inj.mp (a.trans (by decide)))
  · by_cases b : i.toInt = -2
    · exact Or.inr (Or.inl (Int32.toInt_inj.mp (b.trans (by decide))))
    · by_cases c : i.toInt = -3
      · exact Or.inr (Or.inr (Or.inl (Int32.toInt_inj.mp (c.trans (by decide)))))
      · exact Or.inr (Or.inr (Or.inr (by omega)))
def gb_apl (i : Int32) : Option (List Nat × Int64 × Int64 × Int64) → Int64
  | none => -2000000000
  | some q => if i = -1 then q.2.1 else if i = -2 then q.2.2.1 else if i = -3 then q.2.2.2 else if gb_rg i q.1.length = true then lN (q.1.getD i.toNatClampNeg 0) else -2000000000
def a_planned (i : Int32) (S : gb_S) : Int64 × gb_S := (gb_apl i S.2.2.2.2.2.2.2.2, S)
theorem gb_lt_of_neg {i : Int32} (h : i < 0) (n : Nat) (hn : n < 2 ^ 31) : i < nI n := by
  rw [Int32.lt_iff_toInt_lt, show (0 : Int32).toInt = 0 from by decide] at h
  rw [Int32.lt_iff_toInt_lt, nI_toInt hn]
  omega
theorem x_sp {v : Nat} (hv : v < 3) {o : Nat} (ho : ∀ (I : gb_FI) (J : gb_FJ), gb_k (gb_mk I J) o 8 = true) : fnX8_part o (nI v) (gb_mk I J) = some (J o v, gb_mk I J) := by
  simp only [fnX8_part, fbX8_part_25, gb_lt_d, gb_gd_t, gb_rd_s, gb_bd_s, gb_I_mk, gb_L_mk, gb_sI_mk, gb_sL_mk, ho]
  match v, hv with
  | 0, _ => exact if_pos rfl
  | 1, _ => rw [if_neg (show ¬ nI 1 = 0 by decide), if_pos (show nI 1 = 1 from rfl)]
  | 2, _ => rw [if_neg (show ¬ nI 2 = 0 by decide), if_neg (show ¬ nI 2 = 1 by decide)]
theorem x_plN {q : List Nat × Int64 × Int64 × Int64} (l1 : q.1.length ≤ 3) (l2 : I 139 7 = nI q.1.length) {i : Int32} (n0 : i < 0) (h3 : ¬ i < -3) {v : Nat} (hv : v < 3) (hi : -1 - i = nI v) : fnX10_planned 0 i (gb_mk I J) = some (J 146 v, gb_mk I J) := by
  have np : ¬ 0 ≤ i := fun w => by
    rw [Int32.le_iff_toInt_le, show (0 : Int32).toInt = 0 from by decide] at w
    rw [Int32.lt_iff_toInt_lt, show (0 : Int32).toInt = 0 from by decide] at n0
    omega
  have pt := x_sp (I := I) (J := J) hv (o := 146) (fun I J => gk146)
  have a1 : ¬ gb_I (gb_mk I J) 139 7 = -1 := by rw [gb_I_mk, l2]; exact gb_nmi q.1.length (by omega)
  have a2 : i < gb_I (gb_mk I J) 139 7 := by rw [gb_I_mk, l2]; exact gb_lt_of_neg n0 _ (by omega)
  unfold fnX10_planned fbX10_planned_28 fbX10_planned_62
  rw [gk0, gb_gd_t, gr0_6, gb_rd_s, gk139, gb_gd_t, if_neg a1, if_neg h3, gb_gd_t, gb_rd_s, gk139, gb_gd_t, if_pos a2, if_neg np, gb_gd_t, gb_rd_s, gk139, gb_gd_t, gr139_8, gb_rd_s, gk146, gb_gd_t, hi, pt, gb_bd_s]
theorem x_plO {q : List Nat × Int64 × Int64 × Int64} (l1 : q.1.length ≤ 3) (l2 : I 139 7 = nI q.1.length) {i : Int32} (h3 : i < -3 ∨ ¬ i < nI q.1.length) : fnX10_planned 0 i (gb_mk I J) = some (-2000000000, gb_mk I J) := by
  have a1 : ¬ gb_I (gb_mk I J) 139 7 = -1 := by rw [gb_I_mk, l2]; exact gb_nmi q.1.length (by omega)
  unfold fnX10_planned fbX10_planned_28 fbX10_planned_62
  rw [gk0, gb_gd_t, gr0_6, gb_rd_s, gk139, gb_gd_t, if_neg a1]
  by_cases a : i < -3
  · rw [if_pos a]
  · have a2 : ¬ i < gb_I (gb_mk I J) 139 7 := by rw [gb_I_mk, l2]; exact h3.resolve_left a
    rw [if_neg a, gb_gd_t, gb_rd_s, gk139, gb_gd_t, if_neg a2]
theorem x_plP {n j : Nat} {x : Nat} (l1 : n ≤ 3) (l2 : I 139 7 = nI n) (c : j < n) (z2 : I 145 j = nI x) (hx : x < 2 ^ 31) : fnX10_planned 0 (nI j) (gb_mk I J) = some (lN x, gb_mk I J) := by
  have a1 : ¬ gb_I (gb_mk I J) 139 7 = -1 := by rw [gb_I_mk, l2]; exact gb_nmi n (by omega)
  have a2 : nI j < gb_I (gb_mk I J) 139 7 := by rw [gb_I_mk, l2]; exact nI_lt c (by omega)
  have g3 : ¬ nI j < -3 := fun w => by
    rw [Int32.lt_iff_toInt_lt, nI_toInt (by omega), show (-3 : Int32).toInt = -3 from by decide] at w
    omega
  have gi := gi145 (I := I) (J := J) (j := j) (by omega)
  unfold fnX10_planned fbX10_planned_28 fbX10_planned_62
  rw [gk0, gb_gd_t, gr0_6, gb_rd_s, gk139, gb_gd_t, if_neg a1, if_neg g3, gb_gd_t, gb_rd_s, gk139, gb_gd_t, if_pos a2, if_pos (nI_pos' (by omega)), gb_gd_t, gb_rd_s, gk139, gb_gd_t, gr139_6, gb_rd_s, gk145, gb_gd_t, gi, gb_gd_t, gb_I_mk, nI_clamp (by omega), z2, nI_L hx]
theorem X_planned (h : RX cOK S I J) (hsh : S.2.2.2.2.2.1.length ≤ 8) (i : Int32) : xok cOK (fnX10_planned 0 i) I J (a_planned i S) := by
  have hL := h.2.2.2.2.2.2.2.2.1
  refine ⟨I, J, ?_, h, gb_fx.r⟩
  unfold a_planned
  show fnX10_planned 0 i (gb_mk I J) = some (gb_apl i S.2.2.2.2.2.2.2.2, gb_mk I J)
  revert hL
  generalize S.2.2.2.2.2.2.2.2 = pl
  cases pl with
  | none =>
    intro hL
    have hL : I 139 7 = -1 := hL
    have a1 : gb_I (gb_mk I J) 139 7 = -1 := by rw [gb_I_mk]; exact hL
    unfold fnX10_planned fbX10_planned_28
    rw [gk0, gb_gd_t, gr0_6, gb_rd_s, gk139, gb_gd_t, if_pos a1]
    rfl
  | some q =>
    rintro ⟨l1, l2, l3, j0, j1, j2⟩
    show fnX10_planned 0 i (gb_mk I J) = some (if i = -1 then q.2.1 else if i = -2 then q.2.2.1 else if i = -3 then q.2.2.2 else if gb_rg i q.1.length = true then lN (q.1.getD i.toNatClampNeg 0) else -2000000000, gb_mk I J)
    by_cases n0 : i < 0
    · rw [gb_rg_neg n0]
      rcases gb_neg3 n0 with e | e | e | e
      · subst e
        rw [x_plN l1 l2 n0 (by decide) (v := 0) (by decide) (by decide), if_pos rfl, j0]
      · subst e
        rw [x_plN l1 l2 n0 (by decide) (v := 1) (by decide) (by decide), if_neg (show ¬ (-2 : Int32) = -1 by decide), if_pos rfl, j1]
      · subst e
        rw [x_plN l1 l2 n0 (by decide) (v := 2) (by decide) (by decide), if_neg (show ¬ (-3 : Int32) = -1 by decide), if_neg (show ¬ (-3 : Int32) = -2 by decide), if_pos rfl, j2]
      · rw [x_plO l1 l2 (Or.inl e), if_neg (fun w => by rw [w] at e; exact absurd e (by decide)), if_neg (fun w => by rw [w] at e; exact absurd e (by decide)), if_neg (fun w => by rw [w] at e; exact absurd e (by decide)), if_neg Bool.false_ne_true]
    · have m1 : ¬ i = -1 := fun w => n0 (by rw [w]; decide)
      have m2 : ¬ i = -2 := fun w => n0 (by rw [w]; decide)
      have m3 : ¬ i = -3 := fun w => n0 (by rw [w]; decide)
      obtain ⟨j, hj, rfl⟩ := nI_of n0
      rw [if_neg m1, if_neg m2, if_neg m3, gb_rg_nI hj]
      have g3 : ¬ nI j < -3 := fun w => by
        rw [Int32.lt_iff_toInt_lt, nI_toInt hj, show (-3 : Int32).toInt = -3 from by decide] at w
        omega
      by_cases c : j < q.1.length
      · have e : q.1[j]? = some (q.1[j]) := List.getElem?_eq_getElem c
        obtain ⟨z1, z2⟩ := l3 j _ e
        rw [if_pos (by simp; exact c), nI_clamp hj, List.getD_eq_getElem?_getD, e, Option.getD_some, x_plP l1 l2 c z2 (by omega)]
      · rw [x_plO l1 l2 (Or.inr (nI_nlt (by omega) hj)), if_neg (by simp; omega)]
theorem M_planned (h : RM S I J) (hp : ∀ q, S.2.2.2.2.2.2.2.2 = some q → q.1.length ≤ 3 ∧ ∀ (i j : Nat), q.1[i]? = some j → j < 8) (i : Int32) : mok (fnX11_planned 241 i) I J (a_planned i S) := by
  have hL := h.2.2.2.2.2.2.2.2
  refine ⟨I, J, ?_, h, gb_fm.r⟩
  unfold a_planned
  revert hp hL
  generalize S.2.2.2.2.2.2.2.2 = pl
  cases pl with
  | none =>
    intro _ hL
    have hL : I 241 46 = -1 := hL
    simp only [fnX11_planned, fbX11_planned_23, gb_lt_d, gb_gd_t, gb_rd_s, gb_bd_s, gb_I_mk, gb_L_mk, gb_sI_mk, gb_sL_mk, gk241, gr241_2, gr241_3, gr241_4, gr241_5, gr241_7, gr241_8, gr241_11, gr241_12, gr241_13, gr241_20, gr241_21, gr241_22, gr241_26, gr241_27, gr241_28, gr241_29, gr241_31, gr241_32, gr241_33, gr241_38, gr241_39, gr241_40, gr241_41, gr241_42, gr241_43, gr241_44, gr241_45, hL, if_true]
    rfl
  | some q =>
    rintro hp ⟨l2, l3, j0, j1, j2⟩
    obtain ⟨l1, l4⟩ := hp q rfl
    simp only [fnX11_planned, fbX11_planned_23, fbX11_planned_72, gb_lt_d, gb_gd_t, gb_rd_s, gb_bd_s, gb_I_mk, gb_L_mk, gb_sI_mk, gb_sL_mk, gk241, gr241_2, gr241_3, gr241_4, gr241_5, gr241_7, gr241_8, gr241_11, gr241_12, gr241_13, gr241_20, gr241_21, gr241_22, gr241_26, gr241_27, gr241_28, gr241_29, gr241_31, gr241_32, gr241_33, gr241_38, gr241_39, gr241_40, gr241_41, gr241_42, gr241_43, gr241_44, gr241_45, l2, m_in, j0, j1, j2]
    rw [if_neg (gb_nmi q.1.length (by omega))]
    show _ = some (if i = -1 then q.2.1 else if i = -2 then q.2.2.1 else if i = -3 then q.2.2.2 else if gb_rg i q.1.length = true then lN (q.1.getD i.toNatClampNeg 0) else -2000000000, gb_mk I J)
    have lm : (nI q.1.length - 1).toInt = (q.1.length : Int) - 1 := by
      have : ∀ x, x ≤ 3 → (nI x - 1).toInt = (x : Int) - 1 := by
        intro x hx
        match x, hx with
        | 0, _ => decide
        | 1, _ => decide
        | 2, _ => decide
        | 3, _ => decide
      exact this _ l1
    by_cases n0 : i < 0
    · rw [gb_rg_neg n0]
      have ni : i.toInt < 0 := by
        rw [Int32.lt_iff_toInt_lt, show (0 : Int32).toInt = 0 from by decide] at n0
        exact n0
      have hi : ¬ nI q.1.length - 1 < i := fun w => by
        rw [Int32.lt_iff_toInt_lt, lm] at w
        omega
      rw [if_neg hi]
      rcases gb_neg3 n0 with e | e | e | e
      · subst e
        rw [if_neg (show ¬ (-1 : Int32) < -3 by decide), if_neg gb_n10]
        simp only [if_true]
      · subst e
        rw [if_neg (show ¬ (-2 : Int32) < -3 by decide), if_neg gb_n10]
        simp only [if_neg (show ¬ (-2 : Int32) = -1 by decide), if_true]
      · subst e
        rw [if_neg (show ¬ (-3 : Int32) < -3 by decide), if_neg gb_n10]
        simp only [if_neg (show ¬ (-3 : Int32) = -1 by decide), if_neg (show ¬ (-3 : Int32) = -2 by decide), if_true]
      · rw [if_pos e, if_pos (show (0 : Int32) = 0 from rfl), if_neg (fun w => by rw [w] at e; exact absurd e (by decide)), if_neg (fun w => by rw [w] at e; exact absurd e (by decide)), if_neg (fun w => by rw [w] at e; exact absurd e (by decide)), if_neg Bool.false_ne_true]
    · have m1 : ¬ i = -1 := fun w => n0 (by rw [w]; decide)
      have m2 : ¬ i = -2 := fun w => n0 (by rw [w]; decide)
      have m3 : ¬ i = -3 := fun w => n0 (by rw [w]; decide)
      obtain ⟨j, hj, rfl⟩ := nI_of n0
      rw [if_neg m1, if_neg m2, if_neg m3, gb_rg_nI hj, if_neg (show ¬ nI j < -3 from fun w => by
        rw [Int32.lt_iff_toInt_lt, nI_toInt hj, show (-3 : Int32).toInt = -3 from by decide] at w
        omega), if_neg m1, if_neg m2, if_neg m3]
      by_cases c : j < q.1.length
      · have e : q.1[j]? = some (q.1[j]) := List.getElem?_eq_getElem c
        have z1 := l4 j _ e
        have z2 := (l3 j _ e).1
        rw [if_neg (show ¬ nI q.1.length - 1 < nI j from fun w => by rw [Int32.lt_iff_toInt_lt, lm, nI_toInt hj] at w; omega), if_neg gb_n10, if_pos (by simp; exact c), nI_clamp hj]
        simp (disch := omega) only [gb_lt_d, gb_gd_t, gb_rd_s, gb_bd_s, gb_I_mk, gb_L_mk, gb_sI_mk, gb_sL_mk, gk241, gk242, gk243, gk244, gk245, gk246, gk247, gk248, gk249, gk250, gk251, gk252, gk253, gk254, gk255, gk256, gk257, gk258, gk259, gk260, gk261, gk262, gk263, gk264, gk265, gk266, gk267, gk268, gr241_2, gr241_3, gr241_4, gr241_5, gr241_7, gr241_8, gr241_11, gr241_12, gr241_13, gr241_20, gr241_21, gr241_22, gr241_26, gr241_27, gr241_28, gr241_29, gr241_31, gr241_32, gr241_33, gr241_38, gr241_39, gr241_40, gr241_41, gr241_42, gr241_43, gr241_44, gr241_45, gi268, nI_clamp, z2, nI_L]
        rw [List.getD_eq_getElem?_getD, e]
        rfl
      · rw [if_pos (show nI q.1.length - 1 < nI j by rw [Int32.lt_iff_toInt_lt, lm, nI_toInt hj]; omega), if_pos (show (0 : Int32) = 0 from rfl), if_neg (by simp; omega)]
end PLAN0
