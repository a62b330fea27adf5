section NOTES5
variable {cOK : gb_CP} {S : gb_S} {I I' : gb_FI} {J J' : gb_FJ}
theorem RX.jn (h : RX cOK S I J) (k : ∀ n, n ≠ 238 → J' n = J n) : RX cOK S I J' := by
  obtain ⟨h1, h2, h3, h4, h5, h6, h7, h8, h9, h10, h11⟩ := h
  refine ⟨h1, h2, h3, h4, h5, h6, h7, h8, ?_, h10.keep (fun _ _ _ => rfl) (fun n _ _ => k n (by omega)), h11.keep (fun n _ _ => ⟨rfl, k n (by omega)⟩)⟩
  rw [k 146 (by decide)]; exact h9
theorem gb_sh3_ne {u : Int} {w n : Nat} (h : n ≠ 238) : gb_sh3 J u w n = J n := by
  unfold gb_sh3
  rw [gb_u_row _ _ h, gb_u_row _ _ h, gb_u_row _ _ h]
theorem gb_rg3 {β : Type} (v : Int32) (A B : β) : (if v < 0 then A else if (2 : Int32) < v then A else B) = if gb_rg v 3 = true then B else A := by
  by_cases h0 : v < 0
  · rw [if_pos h0, gb_rg_neg h0]; rfl
  · rw [if_neg h0]
    obtain ⟨j, hj, rfl⟩ := nI_of h0
    rw [gb_rg_nI hj]
    by_cases c : j < 3
    · rw [if_neg (show ¬ (2 : Int32) < nI j from nI_nlt (a := 2) (b := j) (by omega) (by omega)), if_pos (by simp; exact c)]
    · rw [if_pos (show (2 : Int32) < nI j from nI_lt (a := 2) (by omega) hj), if_neg (by simp; omega)]
def a_notes (d k : Int32) (S : gb_S) : Int64 × gb_S :=
  if gb_rg d 1000 = true ∧ gb_rg k 3 = true then (if gb_Wp S.2.2.2.2.2.2.2.1 d.toNatClampNeg 4 = 0 then -2000000000 else gb_an (gb_bs S.2.2.2.2.2.2.2.1 d.toNatClampNeg) (gb_Wp S.2.2.2.2.2.2.2.1 d.toNatClampNeg 4) k.toNatClampNeg, S) else (-2000000000, S)
theorem gb_an2 {u : Int} {W : Nat} (hu : u.natAbs ≤ 655360000000000) (hW : W ≤ 409600000000) (hW0 : 0 < W) : iL (u.tdiv (gb_g3 u 0 W)) ≤ (2 : Int64) * lN (W / gb_g3 u 0 W) ↔ u ≤ 2 * (W : Int) := by
  have g0 : 0 < gb_g3 u 0 W := gb_g3_pos hW0
  rw [gb_g30] at *
  obtain ⟨x, hx⟩ := Int.gcd_dvd_left (a := u) (b := W)
  have g2 : Int.gcd u W ∣ W := Int.natCast_dvd_natCast.mp (Int.gcd_dvd_right (a := u) (b := W))
  obtain ⟨y, hy⟩ := g2
  generalize Int.gcd u W = g at *
  have e1 : u.tdiv g = x := by rw [hx, Int.mul_tdiv_cancel_left _ (by omega)]
  have e2 : W / g = y := by rw [hy, Nat.mul_div_cancel_left _ g0]
  have b1 : x.natAbs ≤ u.natAbs := by
    rw [hx, Int.natAbs_mul, Int.natAbs_natCast]
    exact Nat.le_mul_of_pos_left _ g0
  have b2 : y ≤ W := by
    rw [hy]
    exact Nat.le_mul_of_pos_left _ g0
  rw [e1, e2, lN_iL, show (2 : Int64) = iL 2 from rfl, iL_mul, iL_le (by omega) (by omega), hx, hy]
  rw [Int.natCast_mul, show 2 * ((g : Int) * (y : Int)) = (g : Int) * (2 * (y : Int)) by rw [Int.mul_left_comm]]
  exact (Int.mul_le_mul_left (by omega)).symm
theorem gb_bs_le {rs : List gb_Ru} {d : Nat} (hl : rs.length ≤ 200) : (gb_bs rs d).natAbs ≤ 655360000000000 := by
  have w2 := gb_Wp4 (d := d) hl
  unfold gb_bs
  generalize gb_Wp rs d 4 = W at w2
  refine gb_mx_le (fun m => ?_) (by omega) 16
  have := gb_sg_le (W := W) (U := gb_Up rs d) (L := gb_Lo rs d) (m := m) (fun b => gb_Up_le (d := d) (b := b) hl) 4
  omega
theorem X_notes (h : RX cOK S I J) (d k : Int32) : xok cOK (fnX10_notes 0 d k) I J (a_notes d k S) := by
  have hR := h.2.2.2.2.2.2.2.1
  have hl := hR.1
  unfold a_notes xok
  simp only [fnX10_notes, fbX10_notes_31, x_isDay, gb_lt_d, gb_gd_t, gb_rd_s, gb_bd_s, gb_I_mk, gb_L_mk, gb_sI_mk, gb_sL_mk, gk0, gr0_0, gr0_1, gr0_2, gr0_3, gr0_4, gr0_5, gr0_6, gr0_7, gr0_8, gr0_9, gr0_10, gr0_11, gr0_12, gk126, gr126_0, gr126_1, gr126_2, gr126_4, gr126_6, gr126_7, gk238]
  rw [gb_rg3]
  by_cases h1 : gb_rg d 1000 = true
  · rw [if_pos h1, if_neg gb_n10]
    by_cases h2 : gb_rg k 3 = true
    · rw [if_pos h2, if_pos (show gb_rg d 1000 = true ∧ gb_rg k 3 = true from ⟨h1, h2⟩)]
      obtain ⟨d', hd, _, rfl⟩ := gb_rgT h1
      obtain ⟨k', hk, _, rfl⟩ := gb_rgT h2
      rw [nI_clamp (by omega), nI_clamp (by omega)]
      generalize S.2.2.2.2.2.2.2.1 = rs at *
      have fr : ∀ i (J' : gb_FJ), (∀ n, n ≠ 238 → J' n = J n) → RX cOK S (gb_sd I rs d' i) J' ∧ gb_fx I (gb_sd I rs d' i) J J' := fun i J' hJ =>
        ⟨(h.tl (fun n a c => gb_sd_ne c a i) (gb_sd_3 i)).jn hJ, fun n hn => ⟨gb_sd_ne (by omega) (by omega) i, hJ n (by omega)⟩⟩
      cases gb_Wp0 (rs := rs) (d := d') 4 with
      | inl q =>
        have hL : ∀ b, b < 4 → 0 < gb_Lo rs d' b := fun b hb => Classical.byContradiction (fun c => q (gb_Wp_z c 4 hb))
        rw [if_neg q]
        refine ⟨gb_sd I rs d' 4, gb_sh3 J (gb_bs rs d') (gb_Wp rs d' 4), ?_, fr 4 _ (fun n hn => gb_sh3_ne hn)⟩
        have w2 := gb_Wp4 (d := d') hl
        have w0 := gb_Wp_pos 4 hL
        have bb := gb_bs_le (d := d') hl
        rw [x_sumSides1 hR hd hL (fun I J => gk238)]
        generalize gb_Wp rs d' 4 = W at w2 w0
        generalize gb_bs rs d' = u at bb
        have c2 := gb_an2 bb w2 w0
        have j0 : gb_sh3 J u W 238 0 = iL (u.tdiv (gb_g3 u 0 W)) := by
          unfold gb_sh3
          rw [gb_u_nk _ _ (by decide), gb_u_nk _ _ (by decide), gb_u_s]
        have j2 : gb_sh3 J u W 238 2 = lN (W / gb_g3 u 0 W) := by
          unfold gb_sh3
          rw [gb_u_s]
        simp only [fbX10_notes_87, gb_lt_d, gb_gd_t, gb_rd_s, gb_bd_s, gb_I_mk, gb_L_mk, gb_sI_mk, gb_sL_mk, gk0, gr0_0, gr0_1, gr0_2, gr0_3, gr0_4, gr0_5, gr0_6, gr0_7, gr0_8, gr0_9, gr0_10, gr0_11, gr0_12, gk238, j0, j2]
        rw [if_neg gb_n10]
        unfold gb_an
        match k', hk with
        | 0, _ => rw [if_pos (show nI 0 = 0 from rfl), if_pos rfl]
        | 1, _ => rw [if_neg (show ¬ nI 1 = 0 by decide), if_pos (show nI 1 = 1 from rfl), if_neg (by decide), if_pos rfl]
        | 2, _ =>
          rw [if_neg (show ¬ nI 2 = 0 by decide), if_neg (show ¬ nI 2 = 1 by decide), if_neg (show ¬ (2 : Nat) = 0 by decide), if_neg (show ¬ (2 : Nat) = 1 by decide)]
          by_cases c : u ≤ 2 * (W : Int)
          · rw [if_pos (c2.mpr c), if_pos c]
          · rw [if_neg (fun q => c (c2.mp q)), if_neg c]
      | inr q =>
        obtain ⟨n, hn, p, r⟩ := q
        have e := gb_Wp_z r 4 hn
        rw [if_pos e]
        refine ⟨gb_sd I rs d' (n + 1), J, ?_, fr (n + 1) J (fun _ _ => rfl)⟩
        rw [x_sumSides0 hR hd hn p r, gb_bd_s, if_pos (show (0 : Int32) = 0 from rfl)]
    · rw [if_neg h2, if_neg (show ¬ (gb_rg d 1000 = true ∧ gb_rg k 3 = true) from fun q => h2 q.2)]
      exact ⟨I, J, rfl, h, gb_fx.r⟩
  · rw [if_neg h1, if_pos (show (0 : Int32) = 0 from rfl), if_neg (show ¬ (gb_rg d 1000 = true ∧ gb_rg k 3 = true) from fun q => h1 q.1)]
    exact ⟨I, J, rfl, h, gb_fx.r⟩
theorem M_notes (h : RM S I J) (d k : Int32) : mok (fnX11_notes 241 d k) I J (a_notes d k S) := by
  have hR := h.2.2.2.2.2.2.2.1
  unfold a_notes mok
  simp only [fnX11_notes, fbX11_notes_20, m_inR _ 999 (by decide) _ (show (999 : Int32) = nI 999 from rfl), m_inR _ 2 (by decide) _ (show (2 : Int32) = nI 2 from rfl), gb_lt_d, gb_gd_t, gb_rd_s, gb_bd_s, gb_I_mk, gb_L_mk, gb_sI_mk, gb_sL_mk]
  by_cases h1 : gb_rg d 1000 = true
  · rw [if_pos (show gb_rg d (999 + 1) = true from h1), if_neg gb_n10]
    by_cases h2 : gb_rg k 3 = true
    · rw [if_pos (show gb_rg k (2 + 1) = true from h2), if_neg gb_n10, if_pos (show gb_rg d 1000 = true ∧ gb_rg k 3 = true from ⟨h1, h2⟩)]
      obtain ⟨d', hd, _, rfl⟩ := gb_rgT h1
      obtain ⟨k', hk, _, rfl⟩ := gb_rgT h2
      rw [nI_clamp (by omega), nI_clamp (by omega)]
      exact ⟨I, J, m_notes29 hR hd hk, h, gb_fm.r⟩
    · rw [if_neg (show ¬ gb_rg k (2 + 1) = true from h2), if_pos (show (0 : Int32) = 0 from rfl), if_neg (show ¬ (gb_rg d 1000 = true ∧ gb_rg k 3 = true) from fun q => h2 q.2)]
      exact ⟨I, J, rfl, h, gb_fm.r⟩
  · rw [if_neg (show ¬ gb_rg d (999 + 1) = true from h1), if_pos (show (0 : Int32) = 0 from rfl), if_neg (show ¬ (gb_rg d 1000 = true ∧ gb_rg k 3 = true) from fun q => h1 q.1)]
    exact ⟨I, J, rfl, h, gb_fm.r⟩
end NOTES5
