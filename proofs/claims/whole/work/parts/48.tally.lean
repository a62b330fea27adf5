section TALLY
variable {cOK : gb_CP} {S : gb_S} {I I' : gb_FI} {J J' : gb_FJ}
abbrev gb_Ru : Type := Nat × Nat × Nat
/-- runs of bench b known on day d (of clicks t) -/
def gb_pA (b d : Nat) (q : gb_Ru) : Bool := decide (q.1 = b ∧ q.2.2 ≤ d)
def gb_pT (b d t : Nat) (q : gb_Ru) : Bool := decide (q.1 = b ∧ q.2.2 ≤ d ∧ q.2.1 = t)
def gb_nt (P : gb_Ru → Bool) (rs : List gb_Ru) (i : Nat) : Nat := ((rs.take i).filter P).length
theorem gb_nt_s {P : gb_Ru → Bool} {rs : List gb_Ru} {i : Nat} {q : gb_Ru} (h : rs[i]? = some q) : gb_nt P rs (i + 1) = gb_nt P rs i + (if P q = true then 1 else 0) := by
  unfold gb_nt
  rw [List.take_add_one, h, List.filter_append, List.length_append]
  congr 1
  by_cases c : P q = true
  · rw [if_pos c]; simp [c]
  · rw [if_neg c]; simp [c]
theorem gb_nt_le {P : gb_Ru → Bool} {rs : List gb_Ru} {i : Nat} : gb_nt P rs i ≤ i := by
  unfold gb_nt
  have a := List.length_filter_le P (rs.take i)
  have b : (rs.take i).length ≤ i := by rw [List.length_take]; omega
  omega
theorem gb_nt_le' {P : gb_Ru → Bool} {rs : List gb_Ru} {i : Nat} : gb_nt P rs i ≤ rs.length := by
  unfold gb_nt
  have a := List.length_filter_le P (rs.take i)
  have b : (rs.take i).length ≤ rs.length := by rw [List.length_take]; omega
  omega
theorem gb_nm1 : ∀ t, t < 32 → ¬ nI t = -1 := by decide
/-- the reference counts -/
theorem m_cnt {rs : List gb_Ru} (h : xR (I 241 37) (I 261) (I 262) (I 263) rs) {b d : Nat} {v : Int32} {P : gb_Ru → Bool} (hb : b < 4) (hd : d < 1000) (hP : (v = -1 ∧ P = gb_pA b d) ∨ (∃ t, t < 32 ∧ v = nI t ∧ P = gb_pT b d t)) :
    fnX11_countedOf 241 (nI b) v (nI d) (gb_mk I J) = some (nI (gb_nt P rs rs.length), gb_mk I J) := by
  obtain ⟨h1, h2, h3⟩ := h
  simp only [fnX11_countedOf, lpX11_countedOf_6]
  refine gb_forF (fun i => (241, nI b, v, nI d, nI (gb_nt P rs i), nI i, gb_mk I J)) rs.length (by omega) ?_ ?_
  · intro j hj k
    obtain ⟨q, hq⟩ : ∃ q, rs[j]? = some q := ⟨rs[j], List.getElem?_eq_getElem hj⟩
    obtain ⟨q1, q2, q3, e1, e2, e3⟩ := h3 j q hq
    have hs := gb_nt_s (P := P) hq
    have hle : gb_nt P rs j ≤ j := gb_nt_le
    simp only [fbX11_countedOf_6, gb_lt_d, gb_gd_t, gb_rd_s, gb_bd_s, gb_I_mk, gb_L_mk, gb_sI_mk, gb_sL_mk, gk241, gk242, gk243, gk244, gk245, gk246, gk247, gk248, gk249, gk250, gk251, gk252, gk253, gk254, gk255, gk256, gk257, gk258, gk259, gk260, gk261, gk262, gk263, gk264, gk265, gk266, gk267, gk268, gr241_2, gr241_3, gr241_4, gr241_5, gr241_7, gr241_8, gr241_11, gr241_12, gr241_13, gr241_20, gr241_21, gr241_22, gr241_26, gr241_27, gr241_28, gr241_29, gr241_31, gr241_32, gr241_33, gr241_38, gr241_39, gr241_40, gr241_41, gr241_42, gr241_43, gr241_44, gr241_45, h2]
    rw [if_neg (nI_ge hj (by omega))]
    simp (disch := omega) only [gb_lt_d, gb_gd_t, gb_rd_s, gb_bd_s, gb_I_mk, gb_L_mk, gb_sI_mk, gb_sL_mk, gk241, gk242, gk243, gk244, gk245, gk246, gk247, gk248, gk249, gk250, gk251, gk252, gk253, gk254, gk255, gk256, gk257, gk258, gk259, gk260, gk261, gk262, gk263, gk264, gk265, gk266, gk267, gk268, gr241_2, gr241_3, gr241_4, gr241_5, gr241_7, gr241_8, gr241_11, gr241_12, gr241_13, gr241_20, gr241_21, gr241_22, gr241_26, gr241_27, gr241_28, gr241_29, gr241_31, gr241_32, gr241_33, gr241_38, gr241_39, gr241_40, gr241_41, gr241_42, gr241_43, gr241_44, gr241_45, gi261, gi262, gi263, nI_clamp, e1, e2, e3]
    have y : ∀ c : P q = true, fbX11_countedOf_55 (fun v0 v1 v2 v3 v4 v5 h => k (v0, v1, v2, v3, v4, v5, h)) 241 (nI b) v (nI d) (nI j) (nI (gb_nt P rs j)) (gb_mk I J) = k (241, nI b, v, nI d, nI (gb_nt P rs (j + 1)), nI (j + 1), gb_mk I J) := by
      intro c
      rw [hs, if_pos c]
      simp (disch := omega) only [fbX11_countedOf_55, fbX11_countedOf_60, gb_lt_d, gb_gd_t, gb_rd_s, gb_bd_s, gb_I_mk, gb_L_mk, gb_sI_mk, gb_sL_mk, gb_lit 1, nI_add]
    have z : ∀ c : ¬ P q = true, fbX11_countedOf_59 (fun v0 v1 v2 v3 v4 v5 h => k (v0, v1, v2, v3, v4, v5, h)) 241 (nI b) v (nI d) (nI j) (nI (gb_nt P rs j)) (gb_mk I J) = k (241, nI b, v, nI d, nI (gb_nt P rs (j + 1)), nI (j + 1), gb_mk I J) := by
      intro c
      rw [hs, if_neg c]
      simp (disch := omega) only [fbX11_countedOf_59, fbX11_countedOf_60, gb_lt_d, gb_gd_t, gb_rd_s, gb_bd_s, gb_I_mk, gb_L_mk, gb_sI_mk, gb_sL_mk, gb_lit 1, gb_lit 0, nI_add]
    by_cases c1 : q.1 = b
    · rw [if_pos (show nI q.1 = nI b by rw [c1])]
      by_cases c2 : q.2.2 ≤ d
      · rw [if_neg (nI_nlt c2 (by omega))]
        rcases hP with ⟨rfl, rfl⟩ | ⟨t, ht, rfl, rfl⟩
        · rw [if_pos rfl]
          exact y (by simp [gb_pA, c1, c2])
        · rw [if_neg (gb_nm1 t ht)]
          by_cases c3 : q.2.1 = t
          · rw [if_pos (show nI q.2.1 = nI t by rw [c3])]
            exact y (by simp [gb_pT, c1, c2, c3])
          · rw [if_neg (fun e => c3 ((nI_eq (by omega) (by omega)).mp e))]
            exact z (by simp [gb_pT, c3])
      · rw [if_pos (nI_lt (by omega) (by omega))]
        exact z (by rcases hP with ⟨rfl, rfl⟩ | ⟨t, ht, rfl, rfl⟩ <;> simp [gb_pA, gb_pT, c2])
    · rw [if_neg (fun e => c1 ((nI_eq (by omega) (by omega)).mp e))]
      exact z (by rcases hP with ⟨rfl, rfl⟩ | ⟨t, ht, rfl, rfl⟩ <;> simp [gb_pA, gb_pT, c1])
  · intro k
    simp only [fbX11_countedOf_6, gb_lt_d, gb_gd_t, gb_rd_s, gb_bd_s, gb_I_mk, gb_L_mk, gb_sI_mk, gb_sL_mk, gk241, gk242, gk243, gk244, gk245, gk246, gk247, gk248, gk249, gk250, gk251, gk252, gk253, gk254, gk255, gk256, gk257, gk258, gk259, gk260, gk261, gk262, gk263, gk264, gk265, gk266, gk267, gk268, gr241_2, gr241_3, gr241_4, gr241_5, gr241_7, gr241_8, gr241_11, gr241_12, gr241_13, gr241_20, gr241_21, gr241_22, gr241_26, gr241_27, gr241_28, gr241_29, gr241_31, gr241_32, gr241_33, gr241_38, gr241_39, gr241_40, gr241_41, gr241_42, gr241_43, gr241_44, gr241_45, h2]
    rw [if_pos (nI_le (Nat.le_refl _) (by omega))]
/-- the class tallies -/
def gb_tz (I : gb_FI) (i : Nat) : gb_FI := fun n k => if n = 130 ∧ k < i then 0 else I n k
theorem gb_tz_0 : gb_tz I 0 = I := by
  funext n k
  unfold gb_tz
  rw [if_neg (by omega)]
theorem gb_tz_s (i : Nat) : gb_u (gb_tz I i) 130 i 0 = gb_tz I (i + 1) := by
  funext n k
  rw [gb_u1]
  unfold gb_tz
  by_cases c : n = 130 ∧ k = i
  · rw [if_pos c, if_pos (by omega)]
  · rw [if_neg c]
    by_cases c2 : n = 130 ∧ k < i
    · rw [if_pos c2, if_pos (by omega)]
    · rw [if_neg c2, if_neg (by omega)]
def gb_tw (I : gb_FI) (rs : List gb_Ru) (b d i : Nat) : gb_FI := fun n k => if n = 130 ∧ k < 32 then nI (gb_nt (gb_pT b d k) rs i) else if n = 126 ∧ k = 5 then nI (gb_nt (gb_pA b d) rs i) else I n k
theorem gb_tw_0 {rs : List gb_Ru} {b d : Nat} : gb_u (gb_tz I 32) 126 5 0 = gb_tw I rs b d 0 := by
  funext n k
  rw [gb_u1]
  unfold gb_tz gb_tw
  by_cases c : n = 126 ∧ k = 5
  · rw [if_pos c, if_neg (by omega), if_pos c]; rfl
  · rw [if_neg c]
    by_cases c2 : n = 130 ∧ k < 32
    · rw [if_pos c2, if_pos c2]; rfl
    · rw [if_neg c2, if_neg c2, if_neg c]
theorem gb_tw_ne {rs : List gb_Ru} {b d i n : Nat} (h1 : n ≠ 130) (h2 : n ≠ 126) : gb_tw I rs b d i n = I n := by
  funext k
  unfold gb_tw
  rw [if_neg (by omega), if_neg (by omega)]
theorem gb_tw_126 {rs : List gb_Ru} {b d i k : Nat} (h : k ≠ 5) : gb_tw I rs b d i 126 k = I 126 k := by
  unfold gb_tw
  rw [if_neg (by omega), if_neg (by omega)]
theorem gb_tw_5 {rs : List gb_Ru} {b d i : Nat} : gb_tw I rs b d i 126 5 = nI (gb_nt (gb_pA b d) rs i) := by
  unfold gb_tw
  rw [if_neg (by omega), if_pos (by omega)]
theorem gb_tw_t {rs : List gb_Ru} {b d i t : Nat} (h : t < 32) : gb_tw I rs b d i 130 t = nI (gb_nt (gb_pT b d t) rs i) := by
  unfold gb_tw
  rw [if_pos (by omega)]
theorem gb_tw_y {rs : List gb_Ru} {b d i : Nat} {q : gb_Ru} (hq : rs[i]? = some q) (h1 : q.1 = b) (h2 : q.2.2 ≤ d) (h3 : q.2.1 < 32) :
    gb_u (gb_u (gb_tw I rs b d i) 130 q.2.1 (nI (gb_nt (gb_pT b d q.2.1) rs i + 1))) 126 5 (nI (gb_nt (gb_pA b d) rs i + 1)) = gb_tw I rs b d (i + 1) := by
  funext n k
  rw [gb_u1, gb_u1]
  unfold gb_tw
  rw [gb_nt_s hq, gb_nt_s hq, if_pos (show gb_pA b d q = true by simp [gb_pA, h1, h2])]
  by_cases c : n = 126 ∧ k = 5
  · rw [if_pos c, if_neg (by omega), if_pos c]
  · rw [if_neg c, if_neg c]
    by_cases c2 : n = 130 ∧ k = q.2.1
    · rw [if_pos c2, if_pos (by omega), if_pos (show gb_pT b d k q = true by simp [gb_pT, h1, h2, c2.2]), c2.2]
    · rw [if_neg c2]
      by_cases c3 : n = 130 ∧ k < 32
      · rw [if_pos c3, if_pos c3, if_neg (show ¬ gb_pT b d k q = true by simp [gb_pT]; intro _ _; omega)]
        rfl
      · rw [if_neg c3, if_neg c, if_neg c3]
theorem gb_tw_n {rs : List gb_Ru} {b d i : Nat} {q : gb_Ru} (hq : rs[i]? = some q) (h : ¬ (q.1 = b ∧ q.2.2 ≤ d)) : gb_tw I rs b d (i + 1) = gb_tw I rs b d i := by
  funext n k
  unfold gb_tw
  rw [gb_nt_s hq, gb_nt_s hq, if_neg (show ¬ gb_pA b d q = true by simp only [gb_pA, decide_eq_true_eq]; exact h), if_neg (show ¬ gb_pT b d k q = true by simp only [gb_pT, decide_eq_true_eq]; exact fun a => h ⟨a.1, a.2.1⟩)]
  rfl
theorem x_tally {rs : List gb_Ru} (h : xR (I 126 3) (I 127) (I 128) (I 129) rs) {b d : Nat} (hb : b < 4) (hd : d < 1000) : fnX3_tally 126 (nI b) (nI d) (gb_mk I J) = some ((), gb_mk (gb_tw I rs b d rs.length) J) := by
  obtain ⟨h1, h2, h3⟩ := h
  simp only [fnX3_tally, lpX3_tally_2]
  rw [show gb_mk I J = gb_mk (gb_tz I 0) J by rw [gb_tz_0]]
  refine gb_forF (fun i => (126, nI b, nI d, nI i, gb_mk (gb_tz I i) J)) 32 (by decide) ?_ ?_
  · intro j hj k
    simp only [fbX3_tally_2]
    rw [if_neg (show ¬ (32 : Int32) ≤ nI j from nI_ge (show j < 32 from hj) (by decide))]
    simp (disch := omega) only [gb_lt_d, gb_gd_t, gb_rd_s, gb_bd_s, gb_I_mk, gb_L_mk, gb_sI_mk, gb_sL_mk, gk126, gr126_0, gr126_1, gr126_2, gr126_4, gr126_6, gr126_7, gk130, gi130, nI_clamp, gb_lit 1, nI_add, gb_tz_s]
  · intro k
    simp only [fbX3_tally_2]
    rw [if_pos (show (32 : Int32) ≤ nI 32 by decide)]
    simp only [gb_lt_d, gb_gd_t, gb_rd_s, gb_bd_s, gb_I_mk, gb_L_mk, gb_sI_mk, gb_sL_mk, gk126, gr126_0, gr126_1, gr126_2, gr126_4, gr126_6, gr126_7, gb_tw_0 (rs := rs) (b := b) (d := d), lpX3_tally_28]
    refine gb_forF (fun i => (126, nI b, nI d, nI i, gb_mk (gb_tw I rs b d i) J)) rs.length (by omega) ?_ ?_
    · intro j hj k
      obtain ⟨q, hq⟩ : ∃ q, rs[j]? = some q := ⟨rs[j], List.getElem?_eq_getElem hj⟩
      obtain ⟨q1, q2, q3, e1, e2, e3⟩ := h3 j q hq
      have l1 : gb_nt (gb_pA b d) rs j ≤ j := gb_nt_le
      have l2 : gb_nt (gb_pT b d q.2.1) rs j ≤ j := gb_nt_le
      have a3 : gb_tw I rs b d j 126 3 = nI rs.length := (gb_tw_126 (by decide)).trans h2
      have r1 : gb_tw I rs b d j 127 j = nI q.1 := by rw [gb_tw_ne (by decide) (by decide), e1]
      have r2 : gb_tw I rs b d j 128 j = nI q.2.1 := by rw [gb_tw_ne (by decide) (by decide), e2]
      have r3 : gb_tw I rs b d j 129 j = nI q.2.2 := by rw [gb_tw_ne (by decide) (by decide), e3]
      have w : ¬ (q.1 = b ∧ q.2.2 ≤ d) → fbX3_tally_81 (fun v0 v1 v2 v3 h => k (v0, v1, v2, v3, h)) 126 (nI b) (nI d) (nI j) (gb_mk (gb_tw I rs b d j) J) = k (126, nI b, nI d, nI (j + 1), gb_mk (gb_tw I rs b d (j + 1)) J) := by
        intro c
        rw [gb_tw_n hq c]
        simp (disch := omega) only [fbX3_tally_81, gb_lt_d, gb_gd_t, gb_rd_s, gb_bd_s, gb_I_mk, gb_L_mk, gb_sI_mk, gb_sL_mk, gb_lit 1, nI_add]
      simp only [fbX3_tally_28, gb_lt_d, gb_gd_t, gb_rd_s, gb_bd_s, gb_I_mk, gb_L_mk, gb_sI_mk, gb_sL_mk, gk126, gr126_0, gr126_1, gr126_2, gr126_4, gr126_6, gr126_7, a3]
      rw [if_neg (nI_ge hj (by omega))]
      simp (disch := omega) only [gb_lt_d, gb_gd_t, gb_rd_s, gb_bd_s, gb_I_mk, gb_L_mk, gb_sI_mk, gb_sL_mk, gk126, gr126_0, gr126_1, gr126_2, gr126_4, gr126_6, gr126_7, gk127, gk128, gk129, gk130, gi127, gi128, gi129, nI_clamp, r1, r2, r3]
      by_cases c1 : q.1 = b
      · rw [if_pos (show nI q.1 = nI b by rw [c1])]
        by_cases c2 : q.2.2 ≤ d
        · rw [if_neg (nI_nlt c2 (by omega))]
          have u := gb_tw_y (I := I) hq c1 c2 q2
          have r4 := gb_tw_t (I := I) (rs := rs) (b := b) (d := d) (i := j) q2
          have r5 := gb_tw_5 (I := I) (rs := rs) (b := b) (d := d) (i := j)
          simp (disch := omega) only [gb_lt_d, gb_gd_t, gb_rd_s, gb_bd_s, gb_I_mk, gb_L_mk, gb_sI_mk, gb_sL_mk, gk126, gr126_0, gr126_1, gr126_2, gr126_4, gr126_6, gr126_7, gk127, gk128, gk129, gk130, gi130, nI_clamp, r4, gb_u_ne, r5, gb_lit 1, nI_add, u, fbX3_tally_81]
        · rw [if_pos (nI_lt (by omega) (by omega))]
          exact w (fun a => c2 a.2)
      · rw [if_neg (fun e => c1 ((nI_eq (by omega) (by omega)).mp e))]
        exact w (fun a => c1 a.1)
    · intro k
      have a3 : gb_tw I rs b d rs.length 126 3 = nI rs.length := (gb_tw_126 (by decide)).trans h2
      simp only [fbX3_tally_28, gb_lt_d, gb_gd_t, gb_rd_s, gb_bd_s, gb_I_mk, gb_L_mk, gb_sI_mk, gb_sL_mk, gk126, gr126_0, gr126_1, gr126_2, gr126_4, gr126_6, gr126_7, a3]
      rw [if_pos (nI_le (Nat.le_refl _) (by omega))]
/-- the tally is nothing of the state -/
theorem RX.tl (h : RX cOK S I J) (k : ∀ n, n ≠ 126 → n < 130 ∨ 132 < n → I' n = I n) (k3 : I' 126 3 = I 126 3) : RX cOK S I' J := by
  obtain ⟨h1, h2, h3, h4, h5, h6, h7, h8, h9, h10, h11⟩ := h
  refine ⟨?_, ?_, ?_, ?_, h5.keep (fun n _ _ _ => k n (by omega) (by omega)), h6.keep (fun n _ _ => k n (by omega) (by omega)), ?_, ?_, ?_, h10.keep (fun n _ _ => k n (by omega) (by omega)) (fun _ _ _ => rfl), h11.keep (fun n _ _ => ⟨k n (by omega) (by omega), rfl⟩)⟩
  · rw [k 0 (by decide) (by decide), k 239 (by decide) (by decide)]; exact h1
  · rw [k 0 (by decide) (by decide)]; exact h2
  · rw [k 1 (by decide) (by decide), k 2 (by decide) (by decide)]; exact h3
  · rw [k 0 (by decide) (by decide)]; exact h4
  · rw [k 240 (by decide) (by decide)]; exact h7
  · rw [k3, k 127 (by decide) (by decide), k 128 (by decide) (by decide), k 129 (by decide) (by decide)]; exact h8
  · rw [k 139 (by decide) (by decide), k 145 (by decide) (by decide)]; exact h9
theorem RX.ty (h : RX cOK S I J) {rs : List gb_Ru} {b d i : Nat} : RX cOK S (gb_tw I rs b d i) J :=
  h.tl (fun n a c => gb_tw_ne (by omega) a) (gb_tw_126 (by decide))
theorem gb_fx.ty {rs : List gb_Ru} {b d i : Nat} : gb_fx I (gb_tw I rs b d i) J J := fun n hn => ⟨gb_tw_ne (by omega) (by omega), rfl⟩
end TALLY
