section SIDES3
variable {I I' : gb_FI} {J J' : gb_FJ}
theorem x_sides1 {rs : List gb_Ru} (h : xR (I 126 3) (I 127) (I 128) (I 129) rs) {d j W s : Nat} (hj : j < 4) (hd : d < 1000) (k : Nat → Int32 → Nat → Int64 → Int32 → gb_H → Option (Int32 × gb_H)) :
    fbX3_sumSides_5 k 126 (nI d) s (lN W) (nI j) (gb_mk I J) = if 0 < gb_Lo rs d j then k 126 (nI d) s (lN (W * gb_Lo rs d j)) (nI (j + 1)) (gb_mk (gb_sd1 I rs d j) J) else some (0, gb_mk (gb_sd1 I rs d j) J) := by
  have hl : rs.length ≤ 200 := h.1
  have c5 := gb_nt_le' (P := gb_pT j d 5) (rs := rs) (i := rs.length)
  have c6 := gb_nt_le' (P := gb_pT j d 6) (rs := rs) (i := rs.length)
  have c9 := gb_nt_le' (P := gb_pT j d 9) (rs := rs) (i := rs.length)
  have c10 := gb_nt_le' (P := gb_pT j d 10) (rs := rs) (i := rs.length)
  have q0 := gb_pq_le (rs := rs) (b := j) (d := d) (k := 0)
  have q1 := gb_pq_le (rs := rs) (b := j) (d := d) (k := 1)
  have a1 : ∀ J, fnX3_like 126 (gb_mk (gb_tw I rs j d rs.length) J) = some (nI (gb_pq rs j d 0), gb_mk (gb_tw I rs j d rs.length) J) := fun J => x_like hl
  have a2 : ∀ J, fnX3_unlike 126 (gb_mk (gb_tw I rs j d rs.length) J) = some (nI (gb_pq rs j d 1), gb_mk (gb_tw I rs j d rs.length) J) := fun J => x_unlike hl
  have b1 : ∀ J x, fnX3_like 126 (gb_mk (gb_u (gb_tw I rs j d rs.length) 131 j x) J) = some (nI (gb_pq rs j d 0), gb_mk (gb_u (gb_tw I rs j d rs.length) 131 j x) J) := fun J x =>
    x_like' (by rw [gb_u_ne _ _ (by decide)]; exact gb_tw_t (by decide)) (by rw [gb_u_ne _ _ (by decide)]; exact gb_tw_t (by decide)) (by omega) (by omega)
  have b2 : ∀ J x, fnX3_unlike 126 (gb_mk (gb_u (gb_tw I rs j d rs.length) 131 j x) J) = some (nI (gb_pq rs j d 1), gb_mk (gb_u (gb_tw I rs j d rs.length) 131 j x) J) := fun J x => by
    rw [x_unlike' (a := gb_nt (gb_pT j d 9) rs rs.length) (b := gb_nt (gb_pT j d 6) rs rs.length) (by rw [gb_u_ne _ _ (by decide)]; exact gb_tw_t (by decide)) (by rw [gb_u_ne _ _ (by decide)]; exact gb_tw_t (by decide)) (by omega) (by omega), Nat.add_comm]
    rfl
  have lo : nI (gb_pq rs j d 0) + nI (gb_pq rs j d 1) = nI (gb_Lo rs d j) := by rw [nI_add]; rfl
  have lb : gb_Lo rs d j ≤ 800 := by unfold gb_Lo; omega
  simp only [fbX3_sumSides_5]
  rw [if_neg (show ¬ (4 : Int32) ≤ nI j from nI_ge (show j < 4 from hj) (by decide))]
  simp (disch := omega) only [gb_lt_d, gb_gd_t, gb_rd_s, gb_bd_s, gb_I_mk, gb_L_mk, gb_sI_mk, gb_sL_mk, gk126, gr126_0, gr126_1, gr126_2, gr126_4, gr126_6, gr126_7, gk131, gk132, x_tally h hj hd, a1, a2, b1, b2, lo, gi131, gi132, nI_clamp, gb_u_s, nI_L, lN_mul, gb_lit 1, nI_add]
  by_cases c : 0 < gb_Lo rs d j
  · rw [if_pos c, if_pos (show (0 : Int32) < nI (gb_Lo rs d j) from nI_lt (a := 0) c (by omega))]
    rfl
  · rw [if_neg c, if_neg (show ¬ (0 : Int32) < nI (gb_Lo rs d j) from nI_nlt (a := 0) (b := gb_Lo rs d j) (by omega) (by omega))]
    rfl
end SIDES3
