section SIDES8
variable {I I' : gb_FI} {J J' : gb_FJ}
theorem gb_Wp4 {rs : List gb_Ru} {d : Nat} (hl : rs.length ≤ 200) : gb_Wp rs d 4 ≤ 409600000000 := Nat.le_trans (gb_Wp_le hl 4) (Nat.le_of_eq (by decide))
theorem x_sd_U {rs : List gb_Ru} {d b : Nat} (hl : rs.length ≤ 200) (hb : b < 4) : (gb_sd I rs d 4 131 b).toInt64 = iL (gb_Up rs d b) := by
  have q0 := gb_pq_le (rs := rs) (b := b) (d := d) (k := 0)
  have q1 := gb_pq_le (rs := rs) (b := b) (d := d) (k := 1)
  rw [(gb_sd_at 4 hb).1, nI_subL (by omega) (by omega)]
  unfold gb_Up
  rfl
theorem x_sidesE {K : gb_FI} {J : gb_FJ} {W : Nat} {d : Int32} {r : Option (Int32 × gb_H)} (fin : lpX3_sumSides_89 gb_FU 126 238 (lN W) ((-4 : Int64) * lN W) 0 (gb_mk K J) = r) (k : Nat → Int32 → Nat → Int64 → Int32 → gb_H → Option (Int32 × gb_H)) :
    fbX3_sumSides_5 k 126 d 238 (lN W) (nI 4) (gb_mk K J) = r := by
  unfold fbX3_sumSides_5
  rw [if_pos (show (4 : Int32) ≤ nI 4 by decide), gb_lt_d]
  exact fin
theorem x_sidesL {rs : List gb_Ru} (h : xR (I 126 3) (I 127) (I 128) (I 129) rs) {d : Nat} (hd : d < 1000) (hp : ∀ b, b < 4 → 0 < gb_Lo rs d b) {r : Option (Int32 × gb_H)} (fin : ∀ k, fbX3_sumSides_5 k 126 (nI d) 238 (lN (gb_Wp rs d 4)) (nI 4) (gb_mk (gb_sd I rs d 4) J) = r) :
    fnX3_sumSides 126 (nI d) 238 (gb_mk I J) = r := by
  simp only [fnX3_sumSides, lpX3_sumSides_5]
  refine gb_forF (fun i => (126, nI d, 238, lN (gb_Wp rs d i), nI i, gb_mk (gb_sd I rs d i) J)) 4 (by decide) ?_ ?_
  · intro j hj k
    refine (x_sides1 (gb_sd_R h) hj hd _).trans ?_
    rw [if_pos (hp j hj), gb_Wp, gb_sd]
  · intro k
    exact fin _
/-- no bench without pairs -/
theorem x_sumSides1 {rs : List gb_Ru} (h : xR (I 126 3) (I 127) (I 128) (I 129) rs) {d : Nat} (hd : d < 1000) (hp : ∀ b, b < 4 → 0 < gb_Lo rs d b) (hk : ∀ I J, gb_k (gb_mk I J) 238 8 = true) :
    fnX3_sumSides 126 (nI d) 238 (gb_mk I J) = some (1, gb_mk (gb_sd I rs d 4) (gb_sh3 J (gb_bs rs d) (gb_Wp rs d 4))) := by
  have hl : rs.length ≤ 200 := h.1
  have w2 := gb_Wp4 (d := d) hl
  have w0 := gb_Wp_pos 4 hp
  have U1 : ∀ b, b < 4 → (gb_sd I rs d 4 131 b).toInt64 = iL (gb_Up rs d b) := fun b hb => x_sd_U hl hb
  have L1 : ∀ b, b < 4 → gb_sd I rs d 4 132 b = nI (gb_Lo rs d b) ∧ 0 < gb_Lo rs d b ∧ gb_Lo rs d b < 2 ^ 31 := fun b hb => by
    have := gb_Lo_le (d := d) (b := b) hl
    exact ⟨(gb_sd_at 4 hb).2, hp b hb, by omega⟩
  have fin := x_sides3 (I := gb_sd I rs d 4) (J := J) w2 w0 U1 (fun b => gb_Up_le hl) L1 hk
  unfold gb_bs
  exact x_sidesL h hd hp (fun k => x_sidesE fin k)
end SIDES8
