section PAIRS2
variable {cOK : gb_CP} {S : gb_S} {I I' : gb_FI} {J J' : gb_FJ}
/-- what the reference calls a pair: 1 like, 0 unlike, -1 none -/
def gb_prf (p : Int32) : Int32 :=
  if p &&& 3 = 1 then (if (p >>> ((2 : Int32) &&& 31)) &&& 3 = 1 then (if p < 16 then (if p &&& 3 = (p >>> ((2 : Int32) &&& 31)) &&& 3 then 1 else 0) else -1) else if (p >>> ((2 : Int32) &&& 31)) &&& 3 = 2 then (if p < 16 then (if p &&& 3 = (p >>> ((2 : Int32) &&& 31)) &&& 3 then 1 else 0) else -1) else -1)
  else if p &&& 3 = 2 then (if (p >>> ((2 : Int32) &&& 31)) &&& 3 = 1 then (if p < 16 then (if p &&& 3 = (p >>> ((2 : Int32) &&& 31)) &&& 3 then 1 else 0) else -1) else if (p >>> ((2 : Int32) &&& 31)) &&& 3 = 2 then (if p < 16 then (if p &&& 3 = (p >>> ((2 : Int32) &&& 31)) &&& 3 then 1 else 0) else -1) else -1)
  else -1
theorem m_pair (p : Int32) (h : gb_H) : fnX11_pair p h = some (gb_prf p, h) := by
  have e30 : ∀ a b : Int32, fbX11_pair_30 p a b h = some ((if p < 16 then (if a = b then 1 else 0) else -1), h) := by
    intro a b
    simp only [fbX11_pair_30, fbX11_pair_48, fbX11_pair_36]
    by_cases c : p < 16
    · rw [if_pos c, if_pos c]
      by_cases c2 : a = b
      · rw [if_pos c2, if_pos c2]
      · rw [if_neg c2, if_neg c2]
    · rw [if_neg c, if_neg c]
  have e20 : ∀ a b : Int32, fbX11_pair_20 p a b h = some ((if b = 1 then (if p < 16 then (if a = b then 1 else 0) else -1) else if b = 2 then (if p < 16 then (if a = b then 1 else 0) else -1) else -1), h) := by
    intro a b
    simp only [fbX11_pair_20, e30, fbX11_pair_36]
    by_cases c : b = 1
    · rw [if_pos c, if_pos c]
    · rw [if_neg c, if_neg c]
      by_cases c2 : b = 2
      · rw [if_pos c2, if_pos c2]
      · rw [if_neg c2, if_neg c2]
  unfold fnX11_pair gb_prf
  simp only [e20, fbX11_pair_36, gb_lt_d, gb_gd_t, gb_rd_s, gb_bd_s, gb_I_mk, gb_L_mk, gb_sI_mk, gb_sL_mk]
  by_cases c : p &&& 3 = 1
  · rw [if_pos c, if_pos c]
  · rw [if_neg c, if_neg c]
    by_cases c2 : p &&& 3 = 2
    · rw [if_pos c2, if_pos c2]
    · rw [if_neg c2, if_neg c2]
theorem gb_prf_t : ∀ t, t < 32 → gb_prf (nI t) = if t = 5 ∨ t = 10 then 1 else if t = 6 ∨ t = 9 then 0 else -1 := by decide
/-- the sum of the counts of the clicks that f takes -/
def gb_pc (c : Nat → Nat) (f : Nat → Bool) : Nat → Nat
  | 0 => 0
  | i + 1 => gb_pc c f i + (if f i = true then c i else 0)
theorem gb_pc_le {c : Nat → Nat} {f : Nat → Bool} {m : Nat} (h : ∀ i, c i ≤ m) : ∀ i, gb_pc c f i ≤ m * i
  | 0 => Nat.le_refl _
  | i + 1 => by
    have a := gb_pc_le (f := f) h i
    have b := h i
    show gb_pc c f i + (if f i = true then c i else 0) ≤ m * (i + 1)
    rw [Nat.mul_add]
    by_cases q : f i = true
    · rw [if_pos q]; omega
    · rw [if_neg q]; omega
theorem m_pairsOf {rs : List gb_Ru} (h : xR (I 241 37) (I 261) (I 262) (I 263) rs) {b d : Nat} (w : Int32) (hb : b < 4) (hd : d < 1000) :
    fnX11_pairsOf 241 (nI b) (nI d) w (gb_mk I J) = some (nI (gb_pc (fun t => gb_nt (gb_pT b d t) rs rs.length) (fun t => decide (gb_prf (nI t) = w)) 32), gb_mk I J) := by
  have hl : rs.length ≤ 200 := h.1
  simp only [fnX11_pairsOf, lpX11_pairsOf_6]
  refine gb_forF (fun i => (241, nI b, nI d, w, nI (gb_pc (fun t => gb_nt (gb_pT b d t) rs rs.length) (fun t => decide (gb_prf (nI t) = w)) i), nI i, gb_mk I J)) 32 (by decide) ?_ ?_
  · intro j hj k
    have le := gb_pc_le (c := fun t => gb_nt (gb_pT b d t) rs rs.length) (f := fun t => decide (gb_prf (nI t) = w)) (m := 200) (fun i => Nat.le_trans gb_nt_le' hl) j
    have le2 : gb_nt (gb_pT b d j) rs rs.length ≤ 200 := Nat.le_trans gb_nt_le' hl
    have st : gb_pc (fun t => gb_nt (gb_pT b d t) rs rs.length) (fun t => decide (gb_prf (nI t) = w)) (j + 1) = gb_pc (fun t => gb_nt (gb_pT b d t) rs rs.length) (fun t => decide (gb_prf (nI t) = w)) j + (if decide (gb_prf (nI j) = w) = true then gb_nt (gb_pT b d j) rs rs.length else 0) := rfl
    rw [st]
    generalize gb_pc (fun t => gb_nt (gb_pT b d t) rs rs.length) (fun t => decide (gb_prf (nI t) = w)) j = a at *
    simp only [fbX11_pairsOf_6]
    rw [if_neg (show ¬ (32 : Int32) ≤ nI j from nI_ge (show j < 32 from hj) (by decide))]
    simp only [m_pair, gb_lt_d, gb_gd_t, gb_rd_s, gb_bd_s, gb_I_mk, gb_L_mk, gb_sI_mk, gb_sL_mk]
    by_cases c : gb_prf (nI j) = w
    · rw [if_pos c, if_pos (decide_eq_true c)]
      simp (disch := omega) only [gb_lt_d, gb_gd_t, gb_rd_s, gb_bd_s, gb_I_mk, gb_L_mk, gb_sI_mk, gb_sL_mk, gk241, gk242, gk243, gk244, gk245, gk246, gk247, gk248, gk249, gk250, gk251, gk252, gk253, gk254, gk255, gk256, gk257, gk258, gk259, gk260, gk261, gk262, gk263, gk264, gk265, gk266, gk267, gk268, gr241_2, gr241_3, gr241_4, gr241_5, gr241_7, gr241_8, gr241_11, gr241_12, gr241_13, gr241_20, gr241_21, gr241_22, gr241_26, gr241_27, gr241_28, gr241_29, gr241_31, gr241_32, gr241_33, gr241_38, gr241_39, gr241_40, gr241_41, gr241_42, gr241_43, gr241_44, gr241_45, m_cnt h hb hd (Or.inr ⟨j, hj, rfl, rfl⟩), fbX11_pairsOf_35, gb_lit 1, nI_add]
    · rw [if_neg c, if_neg (show ¬ decide (gb_prf (nI j) = w) = true by simp [c])]
      simp (disch := omega) only [gb_lt_d, gb_gd_t, gb_rd_s, gb_bd_s, gb_I_mk, gb_L_mk, gb_sI_mk, gb_sL_mk, fbX11_pairsOf_35, gb_lit 1, nI_add]
      rfl
  · intro k
    simp only [fbX11_pairsOf_6]
    rw [if_pos (show (32 : Int32) ≤ nI 32 by decide)]
theorem gb_pc_cong {c : Nat → Nat} {f g : Nat → Bool} : ∀ i, (∀ j, j < i → f j = g j) → gb_pc c f i = gb_pc c g i
  | 0, _ => rfl
  | i + 1, h => by
    show gb_pc c f i + (if f i = true then c i else 0) = gb_pc c g i + (if g i = true then c i else 0)
    rw [gb_pc_cong i (fun j hj => h j (by omega)), h i (by omega)]
theorem gb_pc_1 (c : Nat → Nat) : gb_pc c (fun t => decide (gb_prf (nI t) = 1)) 32 = c 5 + c 10 := by
  rw [gb_pc_cong (g := fun t => t == 5 || t == 10) 32 (by decide)]
  simp [gb_pc]
theorem gb_pc_0 (c : Nat → Nat) : gb_pc c (fun t => decide (gb_prf (nI t) = 0)) 32 = c 6 + c 9 := by
  rw [gb_pc_cong (g := fun t => t == 6 || t == 9) 32 (by decide)]
  simp [gb_pc]
/-- like pairs (k = 0), unlike pairs (k = 1) -/
def gb_pq (rs : List gb_Ru) (b d k : Nat) : Nat := if k = 0 then gb_nt (gb_pT b d 5) rs rs.length + gb_nt (gb_pT b d 10) rs rs.length else gb_nt (gb_pT b d 6) rs rs.length + gb_nt (gb_pT b d 9) rs rs.length
theorem gb_pq_le {rs : List gb_Ru} {b d k : Nat} : gb_pq rs b d k ≤ 2 * rs.length := by
  unfold gb_pq
  have h5 := gb_nt_le' (P := gb_pT b d 5) (rs := rs) (i := rs.length)
  have h6 := gb_nt_le' (P := gb_pT b d 6) (rs := rs) (i := rs.length)
  have h9 := gb_nt_le' (P := gb_pT b d 9) (rs := rs) (i := rs.length)
  have h10 := gb_nt_le' (P := gb_pT b d 10) (rs := rs) (i := rs.length)
  split <;> omega
theorem m_pairs1 {rs : List gb_Ru} (h : xR (I 241 37) (I 261) (I 262) (I 263) rs) {b d : Nat} (hb : b < 4) (hd : d < 1000) : fnX11_pairsOf 241 (nI b) (nI d) 1 (gb_mk I J) = some (nI (gb_pq rs b d 0), gb_mk I J) := by
  rw [m_pairsOf h 1 hb hd, gb_pc_1]; rfl
theorem m_pairs0 {rs : List gb_Ru} (h : xR (I 241 37) (I 261) (I 262) (I 263) rs) {b d : Nat} (hb : b < 4) (hd : d < 1000) : fnX11_pairsOf 241 (nI b) (nI d) 0 (gb_mk I J) = some (nI (gb_pq rs b d 1), gb_mk I J) := by
  rw [m_pairsOf h 0 hb hd, gb_pc_0]; rfl
theorem x_like {rs : List gb_Ru} {b d : Nat} (hl : rs.length ≤ 200) : fnX3_like 126 (gb_mk (gb_tw I rs b d rs.length) J) = some (nI (gb_pq rs b d 0), gb_mk (gb_tw I rs b d rs.length) J) := by
  have h5 := gb_nt_le' (P := gb_pT b d 5) (rs := rs) (i := rs.length)
  have h10 := gb_nt_le' (P := gb_pT b d 10) (rs := rs) (i := rs.length)
  simp (disch := omega) only [fnX3_like, gb_lt_d, gb_gd_t, gb_rd_s, gb_bd_s, gb_I_mk, gb_L_mk, gb_sI_mk, gb_sL_mk, gk126, gr126_0, gr126_1, gr126_2, gr126_4, gr126_6, gr126_7, gk130, gb_lit 5, gb_lit 10, gi130, nI_clamp, gb_tw_t, nI_add]
  rfl
theorem x_unlike {rs : List gb_Ru} {b d : Nat} (hl : rs.length ≤ 200) : fnX3_unlike 126 (gb_mk (gb_tw I rs b d rs.length) J) = some (nI (gb_pq rs b d 1), gb_mk (gb_tw I rs b d rs.length) J) := by
  have h6 := gb_nt_le' (P := gb_pT b d 6) (rs := rs) (i := rs.length)
  have h9 := gb_nt_le' (P := gb_pT b d 9) (rs := rs) (i := rs.length)
  simp (disch := omega) only [fnX3_unlike, gb_lt_d, gb_gd_t, gb_rd_s, gb_bd_s, gb_I_mk, gb_L_mk, gb_sI_mk, gb_sL_mk, gk126, gr126_0, gr126_1, gr126_2, gr126_4, gr126_6, gr126_7, gk130, gb_lit 9, gb_lit 6, gi130, nI_clamp, gb_tw_t, nI_add]
  rw [Nat.add_comm]
  rfl
end PAIRS2
