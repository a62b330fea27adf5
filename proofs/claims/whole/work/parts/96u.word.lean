section WORD
variable {I I' I1 I2 : gb_FI} {J J' J1 J2 : gb_FJ} {g w j x : Nat}
theorem gw_d16' : ∀ q, q < 64 → ∀ r, r < 64 → nI (64 * q + r) / 16 = nI ((64 * q + r) / 16) ∧ nI (64 * q + r) - nI (64 * q + r) / 16 * 16 = nI ((64 * q + r) % 16) := by decide +kernel
theorem gw_d16 (w : Nat) (h : w < 4096) : nI w / 16 = nI (w / 16) ∧ nI w - nI w / 16 * 16 = nI (w % 16) := by
  have t := gw_d16' (w / 64) (by omega) (w % 64) (by omega)
  rw [show 64 * (w / 64) + w % 64 = w by omega] at t
  exact t
def gw_sh (w : Nat) : Nat → Nat
  | 0 => w
  | i + 1 => gw_sh w i / 16
theorem gw_sh_e (w : Nat) : ∀ i, gw_sh w i = w / 16 ^ i
  | 0 => by rw [Nat.pow_zero, Nat.div_one]; rfl
  | i + 1 => by rw [gw_sh, gw_sh_e w i, Nat.div_div_eq_div_mul, ← Nat.pow_succ]
theorem gw_sh_b (w : Nat) (h : w < 4096) (i : Nat) : gw_sh w i < 4096 := by
  rw [gw_sh_e]
  exact Nat.lt_of_le_of_lt (Nat.div_le_self _ _) h
theorem gw_d2 : ∀ m, m < 16 → nI m / 2 = nI (m / 2) := by decide
/-- the mode of the grain j in the word w of g grains -/
def gw_m (g w j : Nat) : Nat := w / 16 ^ (g - 1 - j) % 16
theorem gw_m_b : gw_m g w j < 16 := Nat.mod_lt _ (by decide)
theorem gw_div (w i : Nat) (h : w < 4096) : w / 16 ^ i < 4096 := Nat.lt_of_le_of_lt (Nat.div_le_self _ _) h
theorem m_modeAt (hg : I 241 23 = nI g) (g3 : g ≤ 3) (hj : j < g) (hw : w < 4096) : fnX11_modeAt 241 (nI w) (nI j) (gb_mk I J) = some (nI (gw_m g w j), gb_mk I J) := by
  have e0 : nI g - 1 = nI (g - 1) := gb_nI_sub (b := 1) (by omega)
  unfold fnX11_modeAt
  rw [gk241, gb_gd_t, gb_lt_d, gb_I_mk, hg, e0]
  unfold lpX11_modeAt_10
  refine gb_forF (fun i => (nI j, nI (gw_sh w i), nI (g - 1 - i), gb_mk I J)) (g - 1 - j) (by omega) ?_ ?_
  · intro i hi k
    simp only [fbX11_modeAt_10]
    rw [if_neg (show ¬ nI (g - 1 - i) ≤ nI j from nI_ge (by omega) (by omega)), show gb_nz (16 : Int32) = true from rfl, gb_gd_t, gb_lt_d, gb_lt_d, (gw_d16 _ (gw_sh_b w hw i)).1, sb_m1 (by omega), show g - 1 - i - 1 = g - 1 - (i + 1) by omega]
    rfl
  · intro k
    simp only [fbX11_modeAt_10]
    rw [if_pos (show nI (g - 1 - (g - 1 - j)) ≤ nI j from nI_le (by omega) (by omega)), show gb_nz (16 : Int32) = true from rfl, gb_gd_t, (gw_d16 _ (gw_sh_b w hw _)).2, gw_sh_e]
    rfl
theorem m_placeAt (hg : I 241 23 = nI g) (g3 : g ≤ 3) (hj : j < g) : fnX11_placeAt 241 (nI j) (gb_mk I J) = some (nI (16 ^ (g - 1 - j)), gb_mk I J) := by
  have e0 : nI g - 1 = nI (g - 1) := gb_nI_sub (b := 1) (by omega)
  unfold fnX11_placeAt
  rw [gk241, gb_gd_t, gb_I_mk, hg, e0, gb_nI_sub (show j ≤ g - 1 by omega), show (16 : Int64) = lN 16 from rfl, m_power (by omega), gb_bd_s, lN_i]
/-- how many of the first i grains are in the path x -/
def gw_in (g w x : Nat) : Nat → Nat
  | 0 => 0
  | i + 1 => gw_in g w x i + (if gw_m g w i / 2 = x then 1 else 0)
theorem gw_in_b : ∀ i, gw_in g w x i ≤ i
  | 0 => Nat.le_refl _
  | i + 1 => by
    have := gw_in_b i
    show gw_in g w x i + _ ≤ i + 1
    split <;> omega
theorem m_inPath (hg : I 241 23 = nI g) (g3 : g ≤ 3) (hw : w < 4096) (hx : x < 100) : fnX11_inPath 241 (nI w) (nI x) (gb_mk I J) = some (nI (gw_in g w x g), gb_mk I J) := by
  unfold fnX11_inPath lpX11_inPath_5
  refine gb_forF (fun i => (241, nI w, nI x, nI (gw_in g w x i), nI i, gb_mk I J)) g (by omega) ?_ ?_
  · intro i hi k
    have mb := gw_m_b (g := g) (w := w) (j := i)
    simp only [fbX11_inPath_5, fbX11_inPath_33]
    rw [gk241, gb_gd_t, gb_I_mk, hg, if_neg (show ¬ nI g ≤ nI i from nI_ge hi (by omega)), gb_gd_t, m_modeAt hg g3 hi hw, gb_bd_s, show gb_nz (2 : Int32) = true from rfl, gb_gd_t, gw_d2 _ mb]
    show _ = k (241, nI w, nI x, nI (gw_in g w x i + (if gw_m g w i / 2 = x then 1 else 0)), nI (i + 1), gb_mk I J)
    by_cases e : gw_m g w i / 2 = x
    · rw [if_pos (show nI (gw_m g w i / 2) = nI x by rw [e]), if_pos e, gb_lt_d, gb_lt_d, nI_1, nI_1]
    · rw [if_neg (show ¬ nI (gw_m g w i / 2) = nI x from fun z => e ((nI_eq (by omega) (by omega)).mp z)), if_neg e, gb_lt_d, gb_lt_d, nI_1, show (0 : Int32) = nI 0 from rfl, nI_add]
  · intro k
    simp only [fbX11_inPath_5]
    rw [gk241, gb_gd_t, gb_I_mk, hg, if_pos (show nI g ≤ nI g from nI_le (Nat.le_refl _) (by omega))]
/-- the product of a word -/
def gw_k (g w : Nat) : Nat := if g = 0 then gb_ky 0 0 0 else if g = 1 then gb_ky 0 0 (gw_m 1 w 0 + 1) else if g = 2 then gb_ky 0 (gw_m 2 w 0 + 1) (gw_m 2 w 1 + 1) else gb_ky (gw_m 3 w 0 + 1) (gw_m 3 w 1 + 1) (gw_m 3 w 2 + 1)
theorem gb_gi_ky {x y z t : Nat} (hx : x < 17) (hy : y < 17) (hz : z < 17) : gb_gi (gb_ky x y z) t = (if gb_pa x = t then 1 else 0) + (if gb_pa y = t then 1 else 0) + (if gb_pa z = t then 1 else 0) := by
  obtain ⟨_, a, b, c⟩ := gb_ky_s hx hy hz
  unfold gb_gi
  rw [a, b, c]
  have key : ∀ f : Nat → Nat, f (gb_mi x y z) + f (x + y + z - gb_mi x y z - gb_ma x y z) + f (gb_ma x y z) = f x + f y + f z := by
    intro f
    by_cases h1 : x ≤ y
    · by_cases h2 : y ≤ z
      · rw [show gb_mi x y z = x by unfold gb_mi; omega, show gb_ma x y z = z by unfold gb_ma; omega, show x + y + z - x - z = y by omega]
      · by_cases h3 : x ≤ z
        · rw [show gb_mi x y z = x by unfold gb_mi; omega, show gb_ma x y z = y by unfold gb_ma; omega, show x + y + z - x - y = z by omega]; omega
        · rw [show gb_mi x y z = z by unfold gb_mi; omega, show gb_ma x y z = y by unfold gb_ma; omega, show x + y + z - z - y = x by omega]; omega
    · by_cases h2 : x ≤ z
      · rw [show gb_mi x y z = y by unfold gb_mi; omega, show gb_ma x y z = z by unfold gb_ma; omega, show x + y + z - y - z = x by omega]; omega
      · by_cases h3 : y ≤ z
        · rw [show gb_mi x y z = y by unfold gb_mi; omega, show gb_ma x y z = x by unfold gb_ma; omega, show x + y + z - y - x = z by omega]; omega
        · rw [show gb_mi x y z = z by unfold gb_mi; omega, show gb_ma x y z = x by unfold gb_ma; omega, show x + y + z - z - x = y by omega]; omega
  exact key (fun s => if gb_pa s = t then 1 else 0)
theorem gb_pa_m : ∀ m, m < 16 → ∀ x, x < 5 → (gb_pa (m + 1) = x + 1 ↔ m / 2 = x) := by decide
theorem gw_gi (g3 : g ≤ 3) (hx : x < 5) : gb_gi (gw_k g w) (x + 1) = gw_in g w x g := by
  have b : ∀ g j, gw_m g w j + 1 < 17 := fun g j => by have := gw_m_b (g := g) (w := w) (j := j); omega
  have e : ∀ g j, (gb_pa (gw_m g w j + 1) = x + 1 ↔ gw_m g w j / 2 = x) := fun g j => gb_pa_m _ gw_m_b x hx
  have z0 : ¬ gb_pa 0 = x + 1 := by
    have : gb_pa 0 = 0 := rfl
    omega
  unfold gw_k
  match g, g3 with
  | 0, _ => rw [if_pos rfl, gb_gi_ky (by decide) (by decide) (by decide), if_neg z0]; rfl
  | 1, _ =>
    rw [if_neg (by decide), if_pos rfl, gb_gi_ky (by decide) (by decide) (b 1 0), if_neg z0]
    show 0 + 0 + _ = 0 + _
    simp only [e]
  | 2, _ =>
    rw [if_neg (by decide), if_neg (by decide), if_pos rfl, gb_gi_ky (by decide) (b 2 0) (b 2 1), if_neg z0]
    show 0 + _ + _ = 0 + _ + _
    simp only [e]
  | 3, _ =>
    rw [if_neg (by decide), if_neg (by decide), if_neg (by decide), gb_gi_ky (b 3 0) (b 3 1) (b 3 2)]
    show _ + _ + _ = 0 + _ + _ + _
    simp only [e]
    omega
end WORD
