section DOES3
variable {I I' I1 I2 : gb_FI} {J J' J1 J2 : gb_FJ} {p : gb_P} {o a room g w j W : Nat}
def gz0 (J : gb_FJ) : Nat → gb_FJ
  | 0 => J
  | i + 1 => gb_u (gz0 J i) 253 i 0
theorem gz0_ne {x : Nat} (h : x ≠ 253) : ∀ i, gz0 J i x = J x
  | 0 => rfl
  | i + 1 => by
    show gb_u (gz0 J i) 253 i 0 x = J x
    rw [gb_u_row _ _ h, gz0_ne h i]
theorem gz0_i {k : Nat} : ∀ i, k < i → gz0 J i 253 k = 0
  | 0, h => absurd h (by omega)
  | i + 1, h => by
    show gb_u (gz0 J i) 253 i 0 253 k = 0
    by_cases e : k = i
    · subst e; rw [gb_u_s]
    · rw [gb_u_nk _ _ e, gz0_i i (by omega)]
def gcp1 (J : gb_FJ) : Nat → gb_FJ
  | 0 => J
  | i + 1 => gb_u (gcp1 J i) 251 i (J 253 i)
theorem gcp1_ne {x : Nat} (h : x ≠ 251) : ∀ i, gcp1 J i x = J x
  | 0 => rfl
  | i + 1 => by
    show gb_u (gcp1 J i) 251 i _ x = J x
    rw [gb_u_row _ _ h, gcp1_ne h i]
theorem gcp1_i {k : Nat} : ∀ i, k < i → gcp1 J i 251 k = J 253 k
  | 0, h => absurd h (by omega)
  | i + 1, h => by
    show gb_u (gcp1 J i) 251 i _ 251 k = J 253 k
    by_cases e : k = i
    · subst e; rw [gb_u_s]
    · rw [gb_u_nk _ _ e, gcp1_i i (by omega)]
theorem m_does169 (hg : I 241 23 = nI g) (g3 : g ≤ 3) (hj : j < g) (hW : I 241 24 = nI W) (W4 : W ≤ 4096) {v2 : Int32} {k157 : Nat → Nat → Int32 → Int32 → gb_H → Option (Unit × gb_H)} : lpX11_does_169 k157 gb_FU 241 o v2 (nI j) 0 (gb_mk I J) = lpX11_does_205 k157 gb_FU 241 o v2 (nI j) (nI (16 ^ (g - 1 - j))) 0 (gb_mk I (gz0 J (4 * W))) := by
  have e4 : (4 : Int32) * nI W = nI (4 * W) := gb_nI_mul 4 W
  conv => lhs; unfold lpX11_does_169
  refine gb_forF (fun i => (241, o, v2, nI j, nI i, gb_mk I (gz0 J i))) (4 * W) (by omega) ?_ ?_
  · intro i hi k
    simp only [fbX11_does_169]
    rw [gk241, gb_gd_t, gb_I_mk, hW, e4, if_neg (show ¬ nI (4 * W) ≤ nI i from nI_ge hi (by omega)), gb_gd_t, gr241_22, gb_rd_s, gk253, gb_gd_t, gi253 (by omega), gb_gd_t, gb_lt_d, nI_clamp (by omega), gb_sL_mk, gb_lt_d, nI_1]
    rfl
  · intro k
    simp only [fbX11_does_169]
    rw [gk241, gb_gd_t, gb_I_mk, hW, e4, if_pos (show nI (4 * W) ≤ nI (4 * W) from nI_le (Nat.le_refl _) (by omega)), gb_gd_t, m_placeAt hg g3 hj, gb_bd_s]
theorem m_does359 (hW : I 241 24 = nI W) (W4 : W ≤ 4096) {v2 : Int32} {k157 : Nat → Nat → Int32 → Int32 → gb_H → Option (Unit × gb_H)} : lpX11_does_359 k157 gb_FU 241 o v2 (nI j) 0 (gb_mk I J) = k157 241 o v2 (nI (j + 1)) (gb_mk I (gcp1 J (4 * W))) := by
  have e4 : (4 : Int32) * nI W = nI (4 * W) := gb_nI_mul 4 W
  unfold lpX11_does_359
  refine gb_forF (fun i => (241, o, v2, nI j, nI i, gb_mk I (gcp1 J i))) (4 * W) (by omega) ?_ ?_
  · intro i hi k
    have n3 : gcp1 J i 253 i = J 253 i := by rw [gcp1_ne (by decide)]
    simp only [fbX11_does_359]
    rw [gk241, gb_gd_t, gb_I_mk, hW, e4, if_neg (show ¬ nI (4 * W) ≤ nI i from nI_ge hi (by omega))]
    simp (disch := omega) only [gb_lt_d, gb_gd_t, gb_rd_s, gb_bd_s, gb_I_mk, gb_L_mk, gb_sI_mk, gb_sL_mk, gk241, gk242, gk243, gk244, gk245, gk246, gk247, gk248, gk249, gk250, gk251, gk252, gk253, gk254, gk255, gk256, gk257, gk258, gk259, gk260, gk261, gk262, gk263, gk264, gk265, gk266, gk267, gk268, gr241_2, gr241_3, gr241_4, gr241_5, gr241_7, gr241_8, gr241_11, gr241_12, gr241_13, gr241_20, gr241_21, gr241_22, gr241_26, gr241_27, gr241_28, gr241_29, gr241_31, gr241_32, gr241_33, gr241_38, gr241_39, gr241_40, gr241_41, gr241_42, gr241_43, gr241_44, gr241_45, gi251, gi253, nI_clamp, nI_1, n3]
    rfl
  · intro k
    simp only [fbX11_does_359]
    rw [gk241, gb_gd_t, gb_I_mk, hW, e4, if_pos (show nI (4 * W) ≤ nI (4 * W) from nI_le (Nat.le_refl _) (by omega)), gb_lt_d, nI_1]
theorem rq_cp (hw : w < W) : rq (gcp1 J (4 * W)) 251 w = rq J 253 w := by
  unfold rq
  rw [gcp1_i _ (by omega), gcp1_i _ (by omega), gcp1_i _ (by omega), gcp1_i _ (by omega)]
theorem rq_z (hw : w < W) : rq (gz0 J (4 * W)) 253 w = qZ := by
  unfold rq qZ
  rw [gz0_i _ (by omega), gz0_i _ (by omega), gz0_i _ (by omega), gz0_i _ (by omega)]
theorem gP_w4 {V : gb_q} {F : Nat → gb_q} {x : Nat} (hx : x < W) : gP W (rq (gb_w4 J 253 x V) 253) F = gP W (rq J 253) F + q4 V (F x) := by
  rw [← gP_upd hx]
  refine gP_congr (fun i _ => ?_) (fun _ _ => rfl)
  by_cases e : i = x
  · subst e; rw [rq_w4, if_pos rfl]
  · rw [rq_w4n e, if_neg e]
/-- the word with the grain j at the seat s -/
def gw_s (g w j s : Nat) : Nat := w - gw_m g w j * 16 ^ (g - 1 - j) + (s - 1) * 16 ^ (g - 1 - j)
theorem gw_s_m : gw_m g w j * 16 ^ (g - 1 - j) ≤ w := by
  unfold gw_m
  exact Nat.le_trans (Nat.mul_le_mul_right _ (Nat.mod_le _ _)) (Nat.div_mul_le_self _ _)
theorem gw_s_1 : gw_s g w j (gw_m g w j + 1) = w := by
  have := gw_s_m (g := g) (w := w) (j := j)
  unfold gw_s
  rw [Nat.add_sub_cancel]
  omega
theorem gw_s_b {t : Nat} (g3 : g ≤ 3) (hj : j < g) (hw : w < 16 ^ g) (ht : t < 16) : gw_s g w j (t + 1) < 16 ^ g := by
  unfold gw_s gw_m
  rw [Nat.add_sub_cancel]
  match g, g3, j, hj with
  | 1, _, 0, _ => simp at *; omega
  | 2, _, 0, _ => simp at *; omega
  | 2, _, 1, _ => simp at *; omega
  | 3, _, 0, _ => simp at *; omega
  | 3, _, 1, _ => simp at *; omega
  | 3, _, 2, _ => simp at *; omega
end DOES3
