section SIDES2
variable {cOK : gb_CP} {S : gb_S} {I I' : gb_FI} {J J' : gb_FJ}
def gb_Lo (rs : List gb_Ru) (d b : Nat) : Nat := gb_pq rs b d 0 + gb_pq rs b d 1
def gb_Up (rs : List gb_Ru) (d b : Nat) : Int := (gb_pq rs b d 0 : Int) - gb_pq rs b d 1
def gb_Wp (rs : List gb_Ru) (d : Nat) : Nat → Nat
  | 0 => 1
  | b + 1 => gb_Wp rs d b * gb_Lo rs d b
theorem x_like' {K : gb_FI} {a b : Nat} (h5 : K 130 5 = nI a) (h10 : K 130 10 = nI b) (ha : a ≤ 200) (hb : b ≤ 200) : fnX3_like 126 (gb_mk K J) = some (nI (a + b), gb_mk K J) := by
  simp (disch := omega) only [fnX3_like, gb_lt_d, gb_gd_t, gb_rd_s, gb_bd_s, gb_I_mk, gb_L_mk, gb_sI_mk, gb_sL_mk, gk126, gr126_0, gr126_1, gr126_2, gr126_4, gr126_6, gr126_7, gk130, gb_lit 5, gb_lit 10, gi130, nI_clamp, h5, h10, nI_add]
theorem x_unlike' {K : gb_FI} {a b : Nat} (h9 : K 130 9 = nI a) (h6 : K 130 6 = nI b) (ha : a ≤ 200) (hb : b ≤ 200) : fnX3_unlike 126 (gb_mk K J) = some (nI (a + b), gb_mk K J) := by
  simp (disch := omega) only [fnX3_unlike, gb_lt_d, gb_gd_t, gb_rd_s, gb_bd_s, gb_I_mk, gb_L_mk, gb_sI_mk, gb_sL_mk, gk126, gr126_0, gr126_1, gr126_2, gr126_4, gr126_6, gr126_7, gk130, gb_lit 9, gb_lit 6, gi130, nI_clamp, h9, h6, nI_add]
def gb_sd1 (I : gb_FI) (rs : List gb_Ru) (d i : Nat) : gb_FI := gb_u (gb_u (gb_tw I rs i d rs.length) 131 i (nI (gb_pq rs i d 0) - nI (gb_pq rs i d 1))) 132 i (nI (gb_Lo rs d i))
def gb_sd (I : gb_FI) (rs : List gb_Ru) (d : Nat) : Nat → gb_FI
  | 0 => I
  | i + 1 => gb_sd1 (gb_sd I rs d i) rs d i
theorem gb_sd1_ne {rs : List gb_Ru} {d i n : Nat} (h : n < 130 ∨ 132 < n) (h2 : n ≠ 126) : gb_sd1 I rs d i n = I n := by
  unfold gb_sd1
  rw [gb_u_row _ _ (by omega), gb_u_row _ _ (by omega), gb_tw_ne (by omega) h2]
theorem gb_sd1_3 {rs : List gb_Ru} {d i : Nat} : gb_sd1 I rs d i 126 3 = I 126 3 := by
  unfold gb_sd1
  rw [gb_u_ne _ _ (by decide), gb_u_ne _ _ (by decide), gb_tw_126 (by decide)]
theorem gb_sd_ne {rs : List gb_Ru} {d n : Nat} (h : n < 130 ∨ 132 < n) (h2 : n ≠ 126) : ∀ i, gb_sd I rs d i n = I n
  | 0 => rfl
  | i + 1 => (gb_sd1_ne h h2).trans (gb_sd_ne h h2 i)
theorem gb_sd_3 {rs : List gb_Ru} {d : Nat} : ∀ i, gb_sd I rs d i 126 3 = I 126 3
  | 0 => rfl
  | i + 1 => gb_sd1_3.trans (gb_sd_3 i)
theorem gb_sd_R {rs : List gb_Ru} {d i : Nat} (h : xR (I 126 3) (I 127) (I 128) (I 129) rs) : xR (gb_sd I rs d i 126 3) (gb_sd I rs d i 127) (gb_sd I rs d i 128) (gb_sd I rs d i 129) rs := by
  rw [gb_sd_3, gb_sd_ne (by decide) (by decide), gb_sd_ne (by decide) (by decide), gb_sd_ne (by decide) (by decide)]
  exact h
theorem gb_sd_at {rs : List gb_Ru} {d b : Nat} : ∀ i, b < i → gb_sd I rs d i 131 b = nI (gb_pq rs b d 0) - nI (gb_pq rs b d 1) ∧ gb_sd I rs d i 132 b = nI (gb_Lo rs d b)
  | 0, h => absurd h (by omega)
  | i + 1, h => by
    show gb_sd1 (gb_sd I rs d i) rs d i 131 b = _ ∧ gb_sd1 (gb_sd I rs d i) rs d i 132 b = _
    unfold gb_sd1
    by_cases e : b = i
    · subst e
      exact ⟨by rw [gb_u_ne _ _ (by decide), gb_u_s], by rw [gb_u_s]⟩
    · have ih := gb_sd_at (rs := rs) (d := d) (b := b) i (by omega)
      exact ⟨by rw [gb_u_ne _ _ (by decide), gb_u_nk _ _ e, gb_tw_ne (by decide) (by decide), ih.1], by rw [gb_u_nk _ _ e, gb_u_ne _ _ (by decide), gb_tw_ne (by decide) (by decide), ih.2]⟩
end SIDES2
