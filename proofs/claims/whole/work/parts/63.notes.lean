section NOTES1
variable {I I' : gb_FI} {J J' : gb_FJ}
def gb_bcn (m : Nat) : Nat → Nat
  | 0 => 0
  | b + 1 => gb_bcn m b + m / 2 ^ b % 2
theorem gb_bcn4 : ∀ m, m < 16 → gb_bcn m 4 = gb_bc4 m := by decide
theorem gb_bcn_le : ∀ m b, gb_bcn m b ≤ b
  | _, 0 => Nat.le_refl _
  | m, b + 1 => by
    have := gb_bcn_le m b
    show gb_bcn m b + m / 2 ^ b % 2 ≤ b + 1
    omega
theorem gb_bcp : ∀ c, c < 5 → (nI c - nI c / (2 : Int32) * (2 : Int32) = 0 ↔ ¬ c % 2 = 1) := by decide
/-- one turn of the inner loop of the reference's notes -/
theorem m_notes97 {rs : List gb_Ru} (h : xR (I 241 37) (I 261) (I 262) (I 263) rs) {d m b W : Nat} (hd : d < 1000) (hm : m < 16) (hb : b < 4) (hL : 0 < gb_Lo rs d b) (hW : W < 2 ^ 63) {k81 : Nat → Int32 → Int32 → Int64 → Int64 → Int32 → Int32 → gb_H → Option (Int64 × gb_H)} {v2 v7 : Int32} {v5 : Int64} {s : Int} {c : Nat} (k : Nat → Int32 → Int32 → Int64 → Int64 → Int32 → Int32 → Int64 → Int32 → Int32 → gb_H → Option (Int64 × gb_H)) :
    fbX11_notes_97 k81 k 241 (nI d) v2 (lN W) v5 v7 (nI m) (iL s) (nI c) (nI b) (gb_mk I J) = k 241 (nI d) v2 (lN W) v5 v7 (nI m) (iL (s + (if m / 2 ^ b % 2 = 1 then -(gb_Up rs d b * ((W / gb_Lo rs d b : Nat) : Int)) else gb_Up rs d b * ((W / gb_Lo rs d b : Nat) : Int)))) (nI (c + m / 2 ^ b % 2)) (nI (b + 1)) (gb_mk I J) := by
  have hl : rs.length ≤ 200 := h.1
  have q0 := gb_pq_le (rs := rs) (b := b) (d := d) (k := 0)
  have q1 := gb_pq_le (rs := rs) (b := b) (d := d) (k := 1)
  have lb := gb_Lo_le (d := d) (b := b) hl
  have e3 : ¬ lN (gb_Lo rs d b) = 0 := fun q => by have := (gL_eq0 (by omega)).mp q; omega
  have lo : (nI (gb_pq rs b d 0) + nI (gb_pq rs b d 1)).toInt64 = lN (gb_Lo rs d b) := by
    rw [nI_add]
    exact nI_L (by unfold gb_Lo at lb; omega)
  have up : (nI (gb_pq rs b d 0) - nI (gb_pq rs b d 1)).toInt64 = iL (gb_Up rs d b) := by
    rw [nI_subL (by omega) (by omega)]
    unfold gb_Up
    rfl
  have dv : lN W / lN (gb_Lo rs d b) = iL ((W / gb_Lo rs d b : Nat) : Int) := by
    rw [gL_div hW (by omega), lN_iL]
  have m1 : (-1 : Int64) = iL (-1) := rfl
  have p1 : (1 : Int64) = iL 1 := rfl
  simp only [fbX11_notes_97]
  rw [if_neg (show ¬ (4 : Int32) ≤ nI b from nI_ge (show b < 4 from hb) (by decide))]
  simp only [gb_lt_d, gb_gd_t, gb_rd_s, gb_bd_s, gb_I_mk, gb_L_mk, gb_sI_mk, gb_sL_mk, gk241, gr241_2, gr241_3, gr241_4, gr241_5, gr241_7, gr241_8, gr241_11, gr241_12, gr241_13, gr241_20, gr241_21, gr241_22, gr241_26, gr241_27, gr241_28, gr241_29, gr241_31, gr241_32, gr241_33, gr241_38, gr241_39, gr241_40, gr241_41, gr241_42, gr241_43, gr241_44, gr241_45, m_pairs1 h hb hd, m_pairs0 h hb hd]
  by_cases e : m / 2 ^ b % 2 = 1
  · rw [if_pos ((gb_bt4 m hm b hb).mpr e), if_pos e, e]
    simp only [fbX11_notes_139, fbX11_notes_153, fbX11_notes_170, if_neg gb_n10, gb_lt_d, gb_gd_t, gb_rd_s, gb_bd_s, gb_I_mk, gb_L_mk, gb_sI_mk, gb_sL_mk, lo, up, dv, gb_nzL_of e3]
    rw [m1, iL_mul, iL_mul, iL_add, gb_lit 1, nI_add, nI_add, Int.neg_mul, Int.neg_mul, Int.one_mul]
  · have e0 : m / 2 ^ b % 2 = 0 := by omega
    rw [if_neg (fun q => e ((gb_bt4 m hm b hb).mp q)), if_neg e, e0]
    simp only [fbX11_notes_139, fbX11_notes_153, fbX11_notes_170, if_true, gb_lt_d, gb_gd_t, gb_rd_s, gb_bd_s, gb_I_mk, gb_L_mk, gb_sI_mk, gb_sL_mk, lo, up, dv, gb_nzL_of e3]
    rw [p1, iL_mul, iL_mul, iL_add, gb_lit 1, gb_lit 0, nI_add, nI_add, Int.one_mul]
end NOTES1
