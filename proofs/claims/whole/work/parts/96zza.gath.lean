section GATH
variable {I I' I1 I2 : gb_FI} {J J' J1 J2 : gb_FJ} {g w i j x r m : Nat} {f : Nat → Int64} {o : Nat → Nat}
/-- the first i of the sums are written -/
def gc4 (J : gb_FJ) (f : Nat → Int64) : Nat → gb_FJ
  | 0 => J
  | i + 1 => gb_u (gc4 J f i) 258 i (f i)
theorem gc4_ne (h : m ≠ 258) : ∀ i, gc4 J f i m = J m
  | 0 => rfl
  | i + 1 => (gb_u_row _ _ h).trans (gc4_ne h i)
theorem gc4_ge : ∀ i, i ≤ r → gc4 J f i 258 r = J 258 r
  | 0, _ => rfl
  | i + 1, h => (gb_u_nk _ _ (by omega)).trans (gc4_ge i (by omega))
theorem gc4_lt : ∀ i, r < i → gc4 J f i 258 r = f r
  | 0, h => absurd h (by omega)
  | i + 1, h => by
    rcases Nat.lt_or_ge r i with c | c
    · exact (gb_u_nk _ _ (by omega)).trans (gc4_lt i c)
    · obtain rfl : r = i := by omega
      exact gb_u_s _ _ _ _
theorem m_gath58 (hg : I 241 23 = nI 2) (hw : w < 4096) {c : Nat} (hc : c < 4096) (ec : nI w + (nI (gw_m 2 w 1) - nI (gw_m 2 w 0)) * nI (16 ^ (2 - 1 - 0)) + (nI (gw_m 2 w 0) - nI (gw_m 2 w 1)) * nI (16 ^ (2 - 1 - 1)) = nI c) : lpX11_gathers_58 gb_FU 241 (nI w) 0 (gb_mk I J) = some ((), gb_mk I (gc4 J (fun k => J 258 k + J 251 (4 * c + k)) 4)) := by
  unfold lpX11_gathers_58
  refine gb_forF (fun i => (241, nI w, nI i, gb_mk I (gc4 J (fun k => J 258 k + J 251 (4 * c + k)) i))) 4 (by decide) ?_ ?_
  · intro i hi k
    have f0 : (4 : Int32) * nI c + nI i = nI (4 * c + i) := by rw [show (4 : Int32) = nI 4 from rfl, gb_nI_mul, nI_add]
    simp only [fbX11_gathers_58]
    rw [if_neg (show ¬ (4 : Int32) ≤ nI i from nI_ge (b := 4) hi (by omega)), gk241, gb_gd_t, gr241_31, gb_rd_s, gk258, gb_gd_t, gi258 (by omega), gb_gd_t, gb_gd_t, gr241_20, gb_rd_s, gb_gd_t, show fnX11_changed 241 (nI w) 0 1 (gb_mk I (gc4 J (fun k => J 258 k + J 251 (4 * c + k)) i)) = _ from m_changed (i := 0) (j := 1) hg (by decide) hw (by decide) (by decide), gb_bd_s, ec, gb_lt_d, f0, gk251, gb_gd_t, gi251 (by omega), gb_gd_t, gk258, gb_gd_t, gi258 (by omega), gb_gd_t, gb_lt_d, gb_sL_mk, gb_lt_d, nI_1, gb_L_mk, nI_clamp (by omega), nI_clamp (by omega), gc4_ge i (Nat.le_refl _), gc4_ne (by decide)]
    rfl
  · intro k
    simp only [fbX11_gathers_58]
    rw [if_pos (show (4 : Int32) ≤ nI 4 by decide)]
    rfl
/-- the rest behind the copying -/
noncomputable def g10r (I : gb_FI) (w : Nat) (J : gb_FJ) : Option (Unit × gb_H) :=
    if I 241 23 = (2 : Int32) then
      gb_bd (fnX11_changed 241 (nI w) (0 : Int32) (1 : Int32) (gb_mk I J)) fun x5 h6 =>
      if x5 = nI w then
        fbX11_gathers_94 h6
      else
        lpX11_gathers_58 gb_FU 241 (nI w) (0 : Int32) h6
    else
      fbX11_gathers_94 (gb_mk I J)
theorem m_gath10 (hw : w < 4096) : lpX11_gathers_10 gb_FU 241 (nI w) 0 (gb_mk I J) = g10r I w (gc4 J (fun k => J 251 (4 * w + k)) 4) := by
  unfold lpX11_gathers_10
  refine gb_forF (fun i => (241, nI w, nI i, gb_mk I (gc4 J (fun k => J 251 (4 * w + k)) i))) 4 (by decide) ?_ ?_
  · intro i hi k
    have f0 : (4 : Int32) * nI w + nI i = nI (4 * w + i) := by rw [show (4 : Int32) = nI 4 from rfl, gb_nI_mul, nI_add]
    simp only [fbX11_gathers_10]
    rw [if_neg (show ¬ (4 : Int32) ≤ nI i from nI_ge (b := 4) hi (by omega)), gk241, gb_gd_t, gr241_31, gb_rd_s, gb_gd_t, gr241_20, gb_rd_s, gb_lt_d, f0, gk251, gb_gd_t, gi251 (by omega), gb_gd_t, gk258, gb_gd_t, gi258 (by omega), gb_gd_t, gb_lt_d, gb_sL_mk, gb_lt_d, nI_1, gb_L_mk, nI_clamp (by omega), nI_clamp (by omega), gc4_ne (by decide)]
    rfl
  · intro k
    simp only [fbX11_gathers_10]
    rw [if_pos (show (4 : Int32) ≤ nI 4 by decide), gk241, gb_gd_t, gb_I_mk, gb_gd_t]
    rfl
/-- whether a word is among the first n -/
def gex (o : Nat → Nat) : Nat → Nat → Bool
  | 0, _ => false
  | n + 1, v => gex o n v || decide (o n = v)
/-- the sums behind i orders -/
def gth (J : gb_FJ) (o : Nat → Nat) : Nat → gb_FJ
  | 0 => gc4 J (fun _ => 0) 4
  | i + 1 => if gex o i (o i) = true then gth J o i else gc4 (gth J o i) (fun k => gth J o i 258 k + J 251 (4 * o i + k)) 4
theorem gth_ne (h : m ≠ 258) : ∀ i, gth J o i m = J m
  | 0 => gc4_ne h 4
  | i + 1 => by
    unfold gth
    split
    · exact gth_ne h i
    · exact (gc4_ne h 4).trans (gth_ne h i)
theorem gth_sum {W : Nat} (ho : ∀ j, j < 6 → o j < W) (hr : r < 4) : ∀ i, i ≤ 6 → gth J o i 258 r = gS W (fun v => if gex o i v = true then J 251 (4 * v + r) else 0)
  | 0, _ => by
    rw [gS_congr (g := fun _ => 0) _ (fun v _ => if_neg (by simp [gex])), gS_0]
    exact gc4_lt 4 hr
  | i + 1, h => by
    have ih := gth_sum ho hr i (by omega)
    unfold gth
    by_cases c : gex o i (o i) = true
    · rw [if_pos c, ih]
      refine gS_congr _ (fun v _ => ?_)
      by_cases d : gex o i v = true
      · rw [if_pos d, if_pos (by simp [gex, d])]
      · rw [if_neg d, if_neg (fun z => by
          simp [gex, d] at z
          subst z
          exact d c)]
    · rw [if_neg c, gc4_lt 4 hr]
      rw [ih, show J 251 (4 * o i + r) = gS W (fun v => if v = o i then J 251 (4 * o i + r) else 0) by rw [gS_pt, if_pos (ho i (by omega))], ← gS_add]
      refine gS_congr _ (fun v _ => ?_)
      by_cases d : v = o i
      · subst d
        rw [if_neg c, if_pos rfl, if_pos (by simp [gex]), Int64.zero_add]
      · rw [if_neg d, Int64.add_zero]
        by_cases e : gex o i v = true
        · rw [if_pos e, if_pos (by simp [gex, e])]
        · rw [if_neg e, if_neg (fun z => by
            simp [gex, e] at z
            exact d z.symm)]
theorem m_gath255 (hi : i < 6) {c : Nat} (hc : c < 4096) (hO : I 259 i = nI c) (k199 : Nat → Int32 → gb_H → Option (Unit × gb_H)) : lpX11_gathers_255 k199 gb_FU 241 (nI i) 0 (gb_mk I J) = k199 241 (nI (i + 1)) (gb_mk I (gc4 J (fun k => J 258 k + J 251 (4 * c + k)) 4)) := by
  unfold lpX11_gathers_255
  refine gb_forF (fun j => (241, nI i, nI j, gb_mk I (gc4 J (fun k => J 258 k + J 251 (4 * c + k)) j))) 4 (by decide) ?_ ?_
  · intro j hj k
    have f0 : (4 : Int32) * nI c + nI j = nI (4 * c + j) := by rw [show (4 : Int32) = nI 4 from rfl, gb_nI_mul, nI_add]
    simp only [fbX11_gathers_255]
    rw [if_neg (show ¬ (4 : Int32) ≤ nI j from nI_ge (b := 4) hj (by omega)), gk241, gb_gd_t, gr241_31, gb_rd_s, gk258, gb_gd_t, gi258 (by omega), gb_gd_t, gb_gd_t, gr241_20, gb_rd_s, gb_gd_t, gr241_32, gb_rd_s, gk259, gb_gd_t, gi259 hi, gb_gd_t, gb_lt_d, gb_I_mk, nI_clamp (by omega), hO, f0, gk251, gb_gd_t, gi251 (by omega), gb_gd_t, gb_gd_t, gb_gd_t, gb_lt_d, gb_sL_mk, gb_lt_d, nI_1, gb_L_mk, nI_clamp (by omega), nI_clamp (by omega), gc4_ge j (Nat.le_refl _), gc4_ne (by decide)]
    rfl
  · intro k
    simp only [fbX11_gathers_255]
    rw [if_pos (show (4 : Int32) ≤ nI 4 by decide)]
    unfold fbX11_gathers_293
    rw [gb_lt_d, nI_1]
theorem m_gath210 (hi : i < 6) (ho : ∀ j, j < 6 → o j < 4096) (hO : ∀ j, j < 6 → I 259 j = nI (o j)) (k199 : Nat → Int32 → gb_H → Option (Unit × gb_H)) : lpX11_gathers_210 k199 gb_FU 241 (nI i) 1 0 (gb_mk I (gth J o i)) = k199 241 (nI (i + 1)) (gb_mk I (gth J o (i + 1))) := by
  unfold lpX11_gathers_210
  refine gb_forF (fun j => (241, nI i, (if gex o j (o i) = true then (0 : Int32) else 1), nI j, gb_mk I (gth J o i))) i (by omega) ?_ ?_
  · intro j hj k
    simp only [fbX11_gathers_210, fbX11_gathers_240, fbX11_gathers_241]
    rw [if_neg (show ¬ nI i ≤ nI j from nI_ge hj (by omega))]
    by_cases c : gex o j (o i) = true
    · rw [if_pos c, if_pos rfl, gb_lt_d, nI_1, if_pos (show gex o (j + 1) (o i) = true by simp [gex, c])]
    · rw [if_neg c, if_neg (show ¬ (1 : Int32) = 0 by decide), gk241, gb_gd_t, gr241_32, gb_rd_s, gk259, gb_gd_t, gi259 (by omega), gb_gd_t, gb_gd_t, gb_rd_s, gk259, gb_gd_t, gi259 hi, gb_gd_t, gb_I_mk, nI_clamp (by omega), nI_clamp (by omega), hO j (by omega), hO i hi]
      by_cases d : o j = o i
      · rw [if_pos (show nI (o j) = nI (o i) by rw [d]), gb_lt_d, nI_1, if_pos (show gex o (j + 1) (o i) = true by simp [gex, d])]
      · have b1 := ho j (by omega)
        have b2 := ho i hi
        rw [if_neg (show ¬ nI (o j) = nI (o i) from fun z => d ((nI_eq (by omega) (by omega)).mp z)), gb_lt_d, nI_1, if_neg (show ¬ gex o (j + 1) (o i) = true by simp [gex, c, d])]
  · intro k
    simp only [fbX11_gathers_210]
    rw [if_pos (show nI i ≤ nI i from nI_le (Nat.le_refl _) (by omega))]
    by_cases c : gex o i (o i) = true
    · rw [if_pos c, if_pos rfl]
      unfold fbX11_gathers_293
      rw [gb_lt_d, nI_1, show gth J o (i + 1) = gth J o i from if_pos c]
    · rw [if_neg c, if_neg (show ¬ (1 : Int32) = 0 by decide), m_gath255 hi (ho i hi) (hO i hi), show gth J o (i + 1) = gc4 (gth J o i) (fun k => gth J o i 258 k + J 251 (4 * o i + k)) 4 from if_neg c, gth_ne (show 251 ≠ 258 by decide)]
theorem m_gath199 (ho : ∀ j, j < 6 → o j < 4096) (hO : ∀ j, j < 6 → I 259 j = nI (o j)) : lpX11_gathers_199 gb_FU 241 0 (gb_mk I (gth J o 0)) = some ((), gb_mk I (gth J o 6)) := by
  unfold lpX11_gathers_199
  refine gb_forF (fun i => (241, nI i, gb_mk I (gth J o i))) 6 (by decide) ?_ ?_
  · intro i hi k
    simp only [fbX11_gathers_199]
    rw [if_neg (show ¬ (6 : Int32) ≤ nI i from nI_ge (b := 6) hi (by omega)), m_gath210 hi ho hO]
  · intro k
    simp only [fbX11_gathers_199]
    rw [if_pos (show (6 : Int32) ≤ nI 6 by decide)]
theorem m_gath179 : lpX11_gathers_179 gb_FU 241 0 (gb_mk I J) = lpX11_gathers_199 gb_FU 241 0 (gb_mk I (gth J o 0)) := by
  unfold lpX11_gathers_179
  refine gb_forF (fun i => (241, nI i, gb_mk I (gc4 J (fun _ => 0) i))) 4 (by decide) ?_ ?_
  · intro i hi k
    simp only [fbX11_gathers_179]
    rw [if_neg (show ¬ (4 : Int32) ≤ nI i from nI_ge (b := 4) hi (by omega)), gk241, gb_gd_t, gr241_31, gb_rd_s, gk258, gb_gd_t, gi258 hi, gb_gd_t, gb_lt_d, gb_sL_mk, gb_lt_d, nI_1, nI_clamp (by omega)]
    rfl
  · intro k
    simp only [fbX11_gathers_179]
    rw [if_pos (show (4 : Int32) ≤ nI 4 by decide)]
    rfl
end GATH
