section NOTES4
variable {cOK : gb_CP} {S : gb_S} {I I' : gb_FI} {J J' : gb_FJ}
theorem m_notesOut {rs : List gb_Ru} (h : xR (I 241 37) (I 261) (I 262) (I 263) rs) {d k : Nat} (hd : d < 1000) (hk : k < 3) (hL : ∀ b, b < 4 → 0 < gb_Lo rs d b) :
    lpX11_notes_81 gb_FU 241 (nI d) (nI k) (lN (gb_Wp rs d 4)) 0 0 0 (gb_mk I J) = some (gb_an (gb_bs rs d) (gb_Wp rs d 4) k, gb_mk I J) := by
  have hl : rs.length ≤ 200 := h.1
  have w2 := gb_Wp4 (d := d) hl
  have w0 := gb_Wp_pos 4 hL
  unfold gb_bs
  generalize gb_Wp rs d 4 = W at w2 w0
  have hB : ∀ m, (gb_sg W (gb_Up rs d) (gb_Lo rs d) m 4).natAbs ≤ 655360000000000 := fun m => by
    have := gb_sg_le (W := W) (U := gb_Up rs d) (L := gb_Lo rs d) (m := m) (fun b => gb_Up_le (d := d) (b := b) hl) 4
    omega
  have hz : ∀ m, -4 * (W : Int) ≤ gb_sg W (gb_Up rs d) (gb_Lo rs d) m 4 := fun m => by
    have := gb_sg_z hL (W := W) (m := m) 4 (Nat.le_refl _)
    omega
  rw [gb_mr_mx hz 16]
  simp only [lpX11_notes_81]
  refine gb_forF (fun i => (241, nI d, nI k, lN W, iL ((gb_mr (fun m => gb_sg W (gb_Up rs d) (gb_Lo rs d) m 4) i).getD 0), (if (gb_mr (fun m => gb_sg W (gb_Up rs d) (gb_Lo rs d) m 4) i).isSome = true then 1 else 0), nI i, gb_mk I J)) 16 (by decide) ?_ ?_
  · intro j hj kk
    simp only [fbX11_notes_81]
    rw [if_neg (show ¬ (16 : Int32) ≤ nI j from nI_ge (show j < 16 from hj) (by decide)), m_notesIn h hd hj hL (by omega), gb_mr]
    by_cases c : gb_bc4 j % 2 = 1
    · rw [if_pos c, if_pos c]
      cases q : gb_mr (fun m => gb_sg W (gb_Up rs d) (gb_Lo rs d) m 4) j with
      | none => rfl
      | some x =>
        have bx := gb_mr_le (f := fun m => gb_sg W (gb_Up rs d) (gb_Lo rs d) m 4) hB j x q
        have by' := hB j
        show (if (1 : Int32) = 0 then _ else if iL x < iL (gb_sg W (gb_Up rs d) (gb_Lo rs d) j 4) then _ else _) = kk (241, nI d, nI k, lN W, iL (if x < gb_sg W (gb_Up rs d) (gb_Lo rs d) j 4 then gb_sg W (gb_Up rs d) (gb_Lo rs d) j 4 else x), 1, nI (j + 1), gb_mk I J)
        rw [if_neg gb_n10]
        by_cases e : x < gb_sg W (gb_Up rs d) (gb_Lo rs d) j 4
        · rw [if_pos ((iL_lt (by omega) (by omega)).mpr e), if_pos e]
        · rw [if_neg (fun r => e ((iL_lt (by omega) (by omega)).mp r)), if_neg e]
          rfl
    · rw [if_neg c, if_neg c]
  · intro kk
    obtain ⟨x, q⟩ := gb_mr16 (fun m => gb_sg W (gb_Up rs d) (gb_Lo rs d) m 4)
    have bx := gb_mr_le (f := fun m => gb_sg W (gb_Up rs d) (gb_Lo rs d) m 4) hB 16 x q
    show fbX11_notes_81 _ 241 (nI d) (nI k) (lN W) (iL ((gb_mr (fun m => gb_sg W (gb_Up rs d) (gb_Lo rs d) m 4) 16).getD 0)) (if (gb_mr (fun m => gb_sg W (gb_Up rs d) (gb_Lo rs d) m 4) 16).isSome = true then 1 else 0) (nI 16) (gb_mk I J) = _
    rw [q]
    exact m_notesEnd bx w2 w0 hk _
theorem m_notes29 {rs : List gb_Ru} (h : xR (I 241 37) (I 261) (I 262) (I 263) rs) {d k : Nat} (hd : d < 1000) (hk : k < 3) :
    lpX11_notes_29 gb_FU 241 (nI d) (nI k) 1 0 (gb_mk I J) = some (if gb_Wp rs d 4 = 0 then -2000000000 else gb_an (gb_bs rs d) (gb_Wp rs d 4) k, gb_mk I J) := by
  have hl : rs.length ≤ 200 := h.1
  have w2 := gb_Wp4 (d := d) hl
  simp only [lpX11_notes_29]
  refine gb_forF (fun i => (241, nI d, nI k, lN (gb_Wp rs d i), nI i, gb_mk I J)) 4 (by decide) ?_ ?_
  · intro j hj kk
    have lb := gb_Lo_le (d := d) (b := j) hl
    have lo : (nI (gb_pq rs j d 0) + nI (gb_pq rs j d 1)).toInt64 = lN (gb_Lo rs d j) := by
      rw [nI_add]
      exact nI_L (by unfold gb_Lo at lb; omega)
    simp only [fbX11_notes_29]
    rw [if_neg (show ¬ (4 : Int32) ≤ nI j from nI_ge (show j < 4 from hj) (by decide))]
    simp only [gb_lt_d, gb_gd_t, gb_rd_s, gb_bd_s, gb_I_mk, gb_L_mk, gb_sI_mk, gb_sL_mk, gk241, gr241_2, gr241_3, gr241_4, gr241_5, gr241_7, gr241_8, gr241_11, gr241_12, gr241_13, gr241_20, gr241_21, gr241_22, gr241_26, gr241_27, gr241_28, gr241_29, gr241_31, gr241_32, gr241_33, gr241_38, gr241_39, gr241_40, gr241_41, gr241_42, gr241_43, gr241_44, gr241_45, m_pairs1 h hj hd, m_pairs0 h hj hd, lo, lN_mul, gb_Wp]
    rw [gb_lit 1, nI_add]
  · intro kk
    show fbX11_notes_29 _ 241 (nI d) (nI k) (lN (gb_Wp rs d 4)) (nI 4) (gb_mk I J) = _
    simp only [fbX11_notes_29]
    rw [if_pos (show (4 : Int32) ≤ nI 4 by decide)]
    cases gb_Wp0 (rs := rs) (d := d) 4 with
    | inl q =>
      have hL : ∀ b, b < 4 → 0 < gb_Lo rs d b := fun b hb => Classical.byContradiction (fun c => q (gb_Wp_z c 4 hb))
      rw [if_neg (fun e => q ((gL_eq0 (by omega)).mp e)), m_notesOut h hd hk hL, if_neg q]
    | inr q =>
      obtain ⟨n, hn, _, r⟩ := q
      have e := gb_Wp_z r 4 hn
      rw [e, if_pos (show lN 0 = 0 from rfl), if_pos rfl]
end NOTES4
