section BUILD
variable {cOK : gb_CP} {S : gb_S} {I I' I1 I2 : gb_FI} {J J' : gb_FJ} {b : Nat}
def gb_P0 : gb_P := (5, 0, 0, 0, 2, 0, 5, 0, 0)
/-- the parts of the shelf by their numbers -/
def gb_pp (sh : List gb_P) (js : List Nat) : List gb_P := js.map (fun j => sh.getD j gb_P0)
theorem gb_pp_at {sh : List gb_P} {js : List Nat} {i : Nat} {p : gb_P} (hj : ∀ (i j : Nat), js[i]? = some j → j < sh.length) (h : (gb_pp sh js)[i]? = some p) : ∃ j, js[i]? = some j ∧ sh[j]? = some p := by
  unfold gb_pp at h
  rw [List.getElem?_map] at h
  cases e : js[i]? with
  | none => rw [e] at h; exact absurd h (by simp)
  | some j =>
    rw [e] at h
    refine ⟨j, rfl, ?_⟩
    have lt := hj i j e
    have g : sh[j]? = some (sh[j]) := List.getElem?_eq_getElem lt
    have h : sh.getD j gb_P0 = p := by simpa using h
    rw [List.getD_eq_getElem?_getD, g] at h
    rw [g, ← h]
    rfl
theorem gb_pp_len {sh : List gb_P} {js : List Nat} : (gb_pp sh js).length = js.length := by unfold gb_pp; rw [List.length_map]
def a_build (b : Int32) (S : gb_S) : Int32 × gb_S :=
  if gb_rg b 4 = true then
    match S.2.2.2.2.2.2.2.2 with
    | none => (-6, sSt S (-6))
    | some q => (nI q.1.length, sSt (sB S (gb_ub S.2.2.2.2.1 b.toNatClampNeg (gb_pp S.2.2.2.2.2.1 q.1))) 0)
  else (-2, sSt S (-2))
/-- i parts of the shelf copied to the layout o -/
def gb_clv (I : gb_FI) (o : Nat) (js : Nat → Nat) : Nat → gb_FI
  | 0 => gb_u I o 1 0
  | i + 1 => gb_u (gb_cp (gb_clv I o js i) (o + 2 + i) (118 + js i)) o 1 (nI (i + 1))
theorem gb_clv_1 {o : Nat} {js : Nat → Nat} : ∀ i, gb_clv I o js i o 1 = nI i
  | 0 => gb_u_s _ _ _ _
  | i + 1 => gb_u_s _ _ _ _
theorem gb_clv_ne {o m : Nat} {js : Nat → Nat} (h : m ≠ o) : ∀ i, (m < o + 2 ∨ o + 2 + i ≤ m) → gb_clv I o js i m = I m
  | 0, _ => gb_u_row _ _ h
  | i + 1, hi => by
    show gb_u (gb_cp (gb_clv I o js i) (o + 2 + i) (118 + js i)) o 1 (nI (i + 1)) m = I m
    rw [gb_u_row _ _ h, gb_cp_ne (by omega), gb_clv_ne h i (by omega)]
theorem gb_clv_P {o : Nat} (ho : o ≤ 93) {js : Nat → Nat} {j : Nat} {p : gb_P} (hj : j < 16) (hp : xP (I (118 + js j)) p) : ∀ i, i ≤ 16 → j < i → xP (gb_clv I o js i (o + 2 + j)) p
  | 0, _, h => absurd h (by omega)
  | i + 1, hi, h => by
    show xP (gb_u (gb_cp (gb_clv I o js i) (o + 2 + i) (118 + js i)) o 1 (nI (i + 1)) (o + 2 + j)) p
    rw [gb_u_row _ _ (by omega)]
    by_cases e : j = i
    · subst e
      exact gb_cp_P (by rw [gb_clv_ne (by omega) j (by omega)]; exact hp)
    · rw [gb_cp_ne (by omega)]
      exact gb_clv_P ho hj hp i (by omega) (by omega)
theorem x_build46 {n : Nat} {js : Nat → Nat} (hb : b < 4) (hn : n ≤ 3) (h7 : I 139 7 = nI n) (hj : ∀ i, i < n → js i < 8 ∧ I 145 i = nI (js i)) : lpX10_build_46 gb_FU 0 (nI b) (24 + 23 * b) 0 (gb_mk (gb_u I (24 + 23 * b) 1 0) J) = some (nI n, gb_mk (gb_u (gb_u (gb_clv I (24 + 23 * b) js n) (42 + 23 * b) 6 0) 0 15 0) J) := by
  have k7 : ∀ i, i ≤ 3 → gb_clv I (24 + 23 * b) js i 139 7 = nI n := fun i hi => by rw [gb_clv_ne (by omega) i (by omega)]; exact h7
  have k145 : ∀ i j, i ≤ 3 → gb_clv I (24 + 23 * b) js i 145 j = I 145 j := fun i j hi => by rw [gb_clv_ne (by omega) i (by omega)]
  simp only [lpX10_build_46]
  refine gb_forF (fun i => (0, nI b, 24 + 23 * b, nI i, gb_mk (gb_clv I (24 + 23 * b) js i) J)) n (by omega) ?_ ?_
  · intro i hi k
    obtain ⟨j1, j2⟩ := hj i hi
    simp only [fbX10_build_46, gb_lt_d, gb_gd_t, gb_rd_s, gb_bd_s, gb_I_mk, gb_L_mk, gb_sI_mk, gb_sL_mk, gk0, gr0_0, gr0_1, gr0_2, gr0_3, gr0_4, gr0_5, gr0_6, gr0_7, gr0_8, gr0_9, gr0_10, gr0_11, gr0_12, gk139, gr139_0, gr139_1, gr139_2, gr139_3, gr139_4, gr139_5, gr139_6, gr139_8, gr139_9, k7 i (by omega)]
    rw [if_neg (show ¬ nI n ≤ nI i from nI_ge hi (by omega))]
    have a := x_append (I := gb_clv I (24 + 23 * b) js i) (J := J) (o := 24 + 23 * b) (m := i) (room := 16) (q := 118 + js i) (fun I J => gx_lyk hb) (fun I J => by rw [gx_l0 hb]; rw [show 25 + 23 * b = 24 + 23 * b + 1 by omega]) (fun I J => by rw [← gx_lak hb I J, show 25 + 23 * b = 24 + 23 * b + 1 by omega]) (gb_clv_1 i) (by omega) (by decide) (fun I J => by rw [show 24 + 23 * b + 1 = 25 + 23 * b by omega, show 24 + 23 * b + 2 + i = 26 + 23 * b + i by omega]; exact gx_lr hb (by omega)) (fun I J => by rw [show 24 + 23 * b + 2 + i = 26 + 23 * b + i by omega]; exact gx_lk hb (by omega) I J) (gx_sk j1) (by omega)
    simp (disch := omega) only [gb_lt_d, gb_gd_t, gb_rd_s, gb_bd_s, gb_I_mk, gb_L_mk, gb_sI_mk, gb_sL_mk, gk0, gr0_0, gr0_1, gr0_2, gr0_3, gr0_4, gr0_5, gr0_6, gr0_7, gr0_8, gr0_9, gr0_10, gr0_11, gr0_12, gk139, gr139_0, gr139_1, gr139_2, gr139_3, gr139_4, gr139_5, gr139_6, gr139_8, gr139_9, gk116, gr116_0, gk117, gk145, gi145, gi117, nI_clamp, k145 i i (by omega), j2, gx_sr j1, gx_lyk hb, a, nI_1]
    rfl
  · intro k
    show fbX10_build_46 _ 0 (nI b) (24 + 23 * b) (nI n) (gb_mk (gb_clv I (24 + 23 * b) js n) J) = _
    simp only [fbX10_build_46, gb_lt_d, gb_gd_t, gb_rd_s, gb_bd_s, gb_I_mk, gb_L_mk, gb_sI_mk, gb_sL_mk, gk0, gr0_0, gr0_1, gr0_2, gr0_3, gr0_4, gr0_5, gr0_6, gr0_7, gr0_8, gr0_9, gr0_10, gr0_11, gr0_12, gk139, gr139_0, gr139_1, gr139_2, gr139_3, gr139_4, gr139_5, gr139_6, gr139_8, gr139_9, k7 n hn]
    rw [if_pos (show nI n ≤ nI n from nI_le (Nat.le_refl _) (by omega))]
    simp (disch := omega) only [gb_lt_d, gb_gd_t, gb_rd_s, gb_bd_s, gb_I_mk, gb_L_mk, gb_sI_mk, gb_sL_mk, gk0, gr0_0, gr0_1, gr0_2, gr0_3, gr0_4, gr0_5, gr0_6, gr0_7, gr0_8, gr0_9, gr0_10, gr0_11, gr0_12, gk23, gi23, nI_clamp, gx_ch hb, gx_chk hb, gx_lyk hb, x_allow, gb_u_ne _ _ (show 24 + 23 * b ≠ 42 + 23 * b by omega), gb_clv_1]
theorem X_build (h : RX cOK S I J) (b : Int32) : xok cOK (fnX10_build 0 b) I J (a_build b S) := by
  have hL := h.2.2.2.2.2.2.2.2.1
  have hS := h.2.2.2.2.2.1
  unfold a_build xok
  simp only [fnX10_build, x_isBench, gb_lt_d, gb_gd_t, gb_rd_s, gb_bd_s, gb_I_mk, gb_L_mk, gb_sI_mk, gb_sL_mk, gk0, gr0_0, gr0_1, gr0_2, gr0_3, gr0_4, gr0_5, gr0_6, gr0_7, gr0_8, gr0_9, gr0_10, gr0_11, gr0_12, gk139, gr139_0, gr139_1, gr139_2, gr139_3, gr139_4, gr139_5, gr139_6, gr139_8, gr139_9]
  by_cases h1 : gb_rg b 4 = true
  · rw [if_pos h1, if_pos h1, if_neg gb_n10]
    obtain ⟨b', hb, _, rfl⟩ := gb_rgT h1
    rw [nI_clamp (by omega)]
    cases e : S.2.2.2.2.2.2.2.2 with
    | none =>
      rw [e] at hL
      have hL : I 139 7 = -1 := hL
      refine ⟨_, J, ?_, h.st (-6), gb_fx.r.u (by decide)⟩
      simp only [hL, if_true, x_refuse, gb_lt_d, gb_gd_t, gb_rd_s, gb_bd_s, gb_I_mk, gb_L_mk, gb_sI_mk, gb_sL_mk]
    | some q =>
      rw [e] at hL
      obtain ⟨l1, l2, l3, -⟩ := hL
      rw [l2, if_neg (gb_nmi q.1.length (by omega))]
      have hj : ∀ i, i < q.1.length → q.1.getD i 0 < 8 ∧ I 145 i = nI (q.1.getD i 0) := fun i hi => by
        have g : q.1[i]? = some (q.1[i]) := List.getElem?_eq_getElem hi
        obtain ⟨z1, z2⟩ := l3 i _ g
        rw [List.getD_eq_getElem?_getD, g, Option.getD_some]
        have := hS.1
        exact ⟨by omega, z2⟩
      have bl := x_build46 (I := I) (J := J) (b := b') (n := q.1.length) (js := fun i => q.1.getD i 0) hb l1 l2 hj
      have r := h.bn (I' := gb_u (gb_clv I (24 + 23 * b') (fun i => q.1.getD i 0) q.1.length) (42 + 23 * b') 6 0) hb (ps := gb_pp S.2.2.2.2.2.1 q.1) (by rw [gb_pp_len]; omega) (by rw [gb_u_row _ _ (by omega), gb_pp_len]; exact gb_clv_1 _) (fun i p hi => by
        have li : i < (gb_pp S.2.2.2.2.2.1 q.1).length := (List.getElem?_eq_some_iff.mp hi).1
        rw [gb_pp_len] at li
        obtain ⟨j, g1, g2⟩ := gb_pp_at (fun i j hij => (l3 i j hij).1) hi
        obtain ⟨o1, o2, o3, o4⟩ := hS.2.2 j p g2
        refine ⟨o1, ?_⟩
        rw [gb_u_row _ _ (by omega), show 26 + 23 * b' + i = 24 + 23 * b' + 2 + i by omega]
        refine gb_clv_P (by omega) (by omega) ?_ _ (by omega) li
        rw [List.getD_eq_getElem?_getD, g1]
        exact o4) (gb_u_s _ _ _ _) (fun m hm => by rw [gb_u_row _ _ (by omega), gb_clv_ne (by omega) _ (by omega)])
      refine ⟨_, J, ?_, r.st 0, gb_fx.k (fun m hm => ?_)⟩
      · simp (disch := omega) only [gb_lt_d, gb_gd_t, gb_rd_s, gb_bd_s, gb_I_mk, gb_L_mk, gb_sI_mk, gb_sL_mk, gk0, gr0_0, gr0_1, gr0_2, gr0_3, gr0_4, gr0_5, gr0_6, gr0_7, gr0_8, gr0_9, gr0_10, gr0_11, gr0_12, gk22, gi22, nI_clamp, gx_ly hb, gx_lyk hb, bl]
      · rw [gb_u_row _ _ (by omega), gb_u_row _ _ (by omega), gb_clv_ne (by omega) _ (by omega)]
  · rw [if_neg h1, if_neg h1, if_pos (show (0 : Int32) = 0 from rfl)]
    refine ⟨_, J, ?_, h.st (-2), gb_fx.r.u (by decide)⟩
    simp only [x_refuse, gb_lt_d, gb_gd_t, gb_rd_s, gb_bd_s, gb_I_mk, gb_L_mk, gb_sI_mk, gb_sL_mk]
theorem RM.bn (h : RM S I J) {bn : Nat → List gb_P} {v : Int32} (k : ∀ x, x ≠ 241 → x ≠ 243 → x ≠ 244 → I' x = I x) (k1 : ∀ j, j ≠ 0 → I' 241 j = I 241 j) (e0 : I' 241 0 = v) (hB : mB (I' 244) (I' 243) bn) : RM (sSt (sB S bn) v) I' J := by
  obtain ⟨h1, h2, h3, h4, h5, h6, h7, h8, h9⟩ := h
  have kk : ∀ x, x = 242 ∨ x = 245 ∨ x = 248 ∨ x = 260 ∨ x = 261 ∨ x = 262 ∨ x = 263 ∨ x = 267 ∨ x = 268 → I' x = I x := fun x hx => k x (by omega) (by omega) (by omega)
  refine ⟨?_, e0, ?_, ?_, hB, ?_, ?_, ?_, ?_⟩
  · rw [k1 1 (by decide), kk 242 (by decide)]; exact h1
  · rw [k1 14 (by decide), kk 248 (by decide)]; exact h3
  · rw [k1 18 (by decide)]; exact h4
  · rw [k1 6 (by decide), kk 245 (by decide)]; exact h6
  · rw [kk 260 (by decide)]; exact h7
  · rw [k1 37 (by decide), kk 261 (by decide), kk 262 (by decide), kk 263 (by decide)]; exact h8
  · rw [k1 46 (by decide), kk 268 (by decide), kk 267 (by decide)]; exact h9
def gm_cq (I : gb_FI) (b : Nat) : Nat → gb_FI
  | 0 => I
  | i + 1 => gb_u (gm_cq I b i) 243 (128 * b + i) (I 267 i)
theorem gm_cq_ne {m : Nat} (h : m ≠ 243) : ∀ i, gm_cq I b i m = I m
  | 0 => rfl
  | i + 1 => by
    show gb_u (gm_cq I b i) 243 (128 * b + i) _ m = I m
    rw [gb_u_row _ _ h, gm_cq_ne h i]
theorem gm_cq_i {j : Nat} : ∀ i, j < i → gm_cq I b i 243 (128 * b + j) = I 267 j
  | 0, h => absurd h (by omega)
  | i + 1, h => by
    show gb_u (gm_cq I b i) 243 (128 * b + i) _ 243 (128 * b + j) = _
    by_cases e : j = i
    · subst e; rw [gb_u_s]
    · rw [gb_u_nk _ _ (by omega), gm_cq_i i (by omega)]
theorem gm_cq_o {k : Nat} : ∀ i, (k < 128 * b ∨ 128 * b + i ≤ k) → gm_cq I b i 243 k = I 243 k
  | 0, _ => rfl
  | i + 1, h => by
    show gb_u (gm_cq I b i) 243 (128 * b + i) _ 243 k = _
    rw [gb_u_nk _ _ (by omega), gm_cq_o i (by omega)]
theorem m_build43 {m : Nat} (hb : b < 4) (hm : m ≤ 3) (h46 : I 241 46 = nI m) : lpX11_build_43 gb_FU 241 (nI b) 0 (gb_mk I J) = some (nI m, gb_mk (gb_u (gm_cq I b (8 * m)) 241 0 0) J) := by
  have k9 : ∀ i, gm_cq I b i 241 46 = nI m := fun i => by rw [gm_cq_ne (by decide)]; exact h46
  have k6 : ∀ i j, gm_cq I b i 267 j = I 267 j := fun i j => by rw [gm_cq_ne (by decide)]
  have e8 : (8 : Int32) * nI m = nI (8 * m) := gb_nI_mul 8 m
  have e128 : (128 : Int32) * nI b = nI (128 * b) := gb_nI_mul 128 b
  simp only [lpX11_build_43]
  refine gb_forF (fun i => (241, nI b, nI i, gb_mk (gm_cq I b i) J)) (8 * m) (by omega) ?_ ?_
  · intro j hj kk
    simp only [fbX11_build_43, gb_lt_d, gb_gd_t, gb_rd_s, gb_bd_s, gb_I_mk, gb_L_mk, gb_sI_mk, gb_sL_mk, gk241, gr241_2, gr241_3, gr241_4, gr241_5, gr241_7, gr241_8, gr241_11, gr241_12, gr241_13, gr241_20, gr241_21, gr241_22, gr241_26, gr241_27, gr241_28, gr241_29, gr241_31, gr241_32, gr241_33, gr241_38, gr241_39, gr241_40, gr241_41, gr241_42, gr241_43, gr241_44, gr241_45, k9 j, e8]
    rw [if_neg (show ¬ nI (8 * m) ≤ nI j from nI_ge hj (by omega))]
    simp (disch := omega) only [gb_lt_d, gb_gd_t, gb_rd_s, gb_bd_s, gb_I_mk, gb_L_mk, gb_sI_mk, gb_sL_mk, gk241, gk242, gk243, gk244, gk245, gk246, gk247, gk248, gk249, gk250, gk251, gk252, gk253, gk254, gk255, gk256, gk257, gk258, gk259, gk260, gk261, gk262, gk263, gk264, gk265, gk266, gk267, gk268, gr241_2, gr241_3, gr241_4, gr241_5, gr241_7, gr241_8, gr241_11, gr241_12, gr241_13, gr241_20, gr241_21, gr241_22, gr241_26, gr241_27, gr241_28, gr241_29, gr241_31, gr241_32, gr241_33, gr241_38, gr241_39, gr241_40, gr241_41, gr241_42, gr241_43, gr241_44, gr241_45, gi267, gi243, nI_clamp, e128, nI_add, gb_lit 1, k6 j j]
    rfl
  · intro kk
    show fbX11_build_43 _ 241 (nI b) (nI (8 * m)) (gb_mk (gm_cq I b (8 * m)) J) = _
    simp only [fbX11_build_43, gb_lt_d, gb_gd_t, gb_rd_s, gb_bd_s, gb_I_mk, gb_L_mk, gb_sI_mk, gb_sL_mk, gk241, gr241_2, gr241_3, gr241_4, gr241_5, gr241_7, gr241_8, gr241_11, gr241_12, gr241_13, gr241_20, gr241_21, gr241_22, gr241_26, gr241_27, gr241_28, gr241_29, gr241_31, gr241_32, gr241_33, gr241_38, gr241_39, gr241_40, gr241_41, gr241_42, gr241_43, gr241_44, gr241_45, k9 (8 * m), e8, m_ends]
    rw [if_pos (show nI (8 * m) ≤ nI (8 * m) from nI_le (Nat.le_refl _) (by omega)), if_pos (nI_pos' (by omega))]
theorem M_build (hp : gb_pls S) (h3 : ∀ q, S.2.2.2.2.2.2.2.2 = some q → q.1.length ≤ 3) (h16 : ∀ b, b < 4 → (S.2.2.2.2.1 b).length ≤ 16) (h : RM S I J) (b : Int32) : mok (fnX11_build 241 b) I J (a_build b S) := by
  have hL := h.2.2.2.2.2.2.2.2
  unfold a_build mok
  simp only [fnX11_build, m_inR _ 3 (by decide) _ (show (3 : Int32) = nI 3 from rfl), gb_lt_d, gb_gd_t, gb_rd_s, gb_bd_s, gb_I_mk, gb_L_mk, gb_sI_mk, gb_sL_mk, gk241, gr241_2, gr241_3, gr241_4, gr241_5, gr241_7, gr241_8, gr241_11, gr241_12, gr241_13, gr241_20, gr241_21, gr241_22, gr241_26, gr241_27, gr241_28, gr241_29, gr241_31, gr241_32, gr241_33, gr241_38, gr241_39, gr241_40, gr241_41, gr241_42, gr241_43, gr241_44, gr241_45]
  by_cases h1 : gb_rg b 4 = true
  · rw [if_pos (show gb_rg b (3 + 1) = true from h1), if_pos h1, if_neg gb_n10]
    obtain ⟨b', hb, _, rfl⟩ := gb_rgT h1
    rw [nI_clamp (by omega)]
    cases e : S.2.2.2.2.2.2.2.2 with
    | none =>
      rw [e] at hL
      have hL : I 241 46 = -1 := hL
      refine ⟨_, J, ?_, h.st (-6), gb_fm.r.u (by decide)⟩
      simp only [hL, if_true, m_ends, gb_lt_d, gb_gd_t, gb_rd_s, gb_bd_s, gb_I_mk, gb_L_mk, gb_sI_mk, gb_sL_mk]
      rfl
    | some q =>
      rw [e] at hL
      obtain ⟨l2, l3, -⟩ := hL
      have l1 := h3 q e
      have pl := hp q e
      rw [l2, if_neg (gb_nmi q.1.length (by omega))]
      have bl := m_build43 (I := gb_u I 244 b' (nI q.1.length)) (J := J) (b := b') (m := q.1.length) hb l1 (by rw [gb_u_row _ _ (by decide)]; exact l2)
      refine ⟨gb_u (gm_cq (gb_u I 244 b' (nI q.1.length)) b' (8 * q.1.length)) 241 0 0, J, ?_, ?_, gb_fm.k (fun m hm => ?_)⟩
      · simp (disch := omega) only [gb_lt_d, gb_gd_t, gb_rd_s, gb_bd_s, gb_I_mk, gb_L_mk, gb_sI_mk, gb_sL_mk, gk241, gk242, gk243, gk244, gk245, gk246, gk247, gk248, gk249, gk250, gk251, gk252, gk253, gk254, gk255, gk256, gk257, gk258, gk259, gk260, gk261, gk262, gk263, gk264, gk265, gk266, gk267, gk268, gr241_2, gr241_3, gr241_4, gr241_5, gr241_7, gr241_8, gr241_11, gr241_12, gr241_13, gr241_20, gr241_21, gr241_22, gr241_26, gr241_27, gr241_28, gr241_29, gr241_31, gr241_32, gr241_33, gr241_38, gr241_39, gr241_40, gr241_41, gr241_42, gr241_43, gr241_44, gr241_45, nI_clamp, l2, gi244, bl]
      · refine h.bn (fun x x1 x2 x3 => ?_) (fun j hj => ?_) (gb_u_s _ _ _ _) ?_
        · rw [gb_u_row _ _ x1, gm_cq_ne x2, gb_u_row _ _ x3]
        · rw [gb_u_nk _ _ hj, gm_cq_ne (by decide), gb_u_row _ _ (by decide)]
        · intro x hx
          rw [gb_u_row _ _ (by decide), gb_u_row _ _ (by decide), gm_cq_ne (by decide)]
          obtain ⟨q1, q2⟩ := h.2.2.2.2.1 x hx
          by_cases ex : x = b'
          · subst ex
            rw [show gb_ub S.2.2.2.2.1 x (gb_pp S.2.2.2.2.2.1 q.1) x = gb_pp S.2.2.2.2.2.1 q.1 from if_pos rfl]
            refine ⟨by rw [gb_u_s, gb_pp_len], fun i p hi => ?_⟩
            have li : i < (gb_pp S.2.2.2.2.2.1 q.1).length := (List.getElem?_eq_some_iff.mp hi).1
            rw [gb_pp_len] at li
            obtain ⟨j, g1, g2⟩ := gb_pp_at pl hi
            refine ((l3 i j g1).2 p g2).k (fun j hj => ?_)
            rw [show 128 * x + 8 * i + j = 128 * x + (8 * i + j) by omega, gm_cq_i _ (by omega), gb_u_row _ _ (by decide)]
          · rw [show gb_ub S.2.2.2.2.1 b' (gb_pp S.2.2.2.2.2.1 q.1) x = S.2.2.2.2.1 x from if_neg ex, gb_u_nk _ _ ex]
            refine ⟨q1, fun i p hi => (q2 i p hi).k (fun j hj => ?_)⟩
            have hi' : i < 16 := Nat.lt_of_lt_of_le (List.getElem?_eq_some_iff.mp hi).1 (h16 x hx)
            rw [gm_cq_o _ (by omega), gb_u_row _ _ (by decide)]
      · rw [gb_u_row _ _ (by omega), gm_cq_ne (by omega), gb_u_row _ _ (by omega)]
  · rw [if_neg (show ¬ gb_rg b (3 + 1) = true from h1), if_neg h1, if_pos (show (0 : Int32) = 0 from rfl)]
    refine ⟨_, J, ?_, h.st (-2), gb_fm.r.u (by decide)⟩
    simp only [m_ends, gb_lt_d, gb_gd_t, gb_rd_s, gb_bd_s, gb_I_mk, gb_L_mk, gb_sI_mk, gb_sL_mk]
    rfl
end BUILD
