section MFAC
variable {I I' I1 I2 : gb_FI} {J J' J1 J2 : gb_FJ} {g w i j x : Nat}
theorem m_isSorted_s (hg : I 241 23 = nI g) (g3 : g ≤ 3) (hw : w < 4096) (h1 : 1 ≤ i) (h4 : i < 5) (F : Nat) : lpX11_isSorted_2 (F + 1) 241 (nI w) (nI i) (gb_mk I J) = if g ≤ i then some (1, gb_mk I J) else if gw_m g w (i - 1) ≤ gw_m g w i then lpX11_isSorted_2 F 241 (nI w) (nI (i + 1)) (gb_mk I J) else some (0, gb_mk I J) := by
  rw [show lpX11_isSorted_2 (F + 1) 241 (nI w) (nI i) (gb_mk I J) = fbX11_isSorted_2 (fun v0 v1 v2 h => lpX11_isSorted_2 F v0 v1 v2 h) 241 (nI w) (nI i) (gb_mk I J) from rfl]
  unfold fbX11_isSorted_2
  rw [gk241, gb_gd_t, gb_I_mk, hg]
  by_cases c : g ≤ i
  · rw [if_pos (nI_le c (by omega)), if_pos c]
  · rw [if_neg (nI_ge (by omega) (by omega)), if_neg c, gb_gd_t, m_modeAt hg g3 (by omega) hw, gb_bd_s, gk241, gb_gd_t, show nI i - (1 : Int32) = nI (i - 1) from gb_nI_sub (b := 1) h1, m_modeAt hg g3 (by omega) hw, gb_bd_s]
    have b1 := gw_m_b (g := g) (w := w) (j := i)
    have b2 := gw_m_b (g := g) (w := w) (j := i - 1)
    by_cases d : gw_m g w (i - 1) ≤ gw_m g w i
    · rw [if_pos (nI_le d (by omega)), if_pos d, gb_lt_d, nI_1]
    · rw [if_neg (nI_ge (by omega) (by omega)), if_neg d]
theorem m_isSorted (hg : I 241 23 = nI g) (g3 : g ≤ 3) (hw : w < 4096) : fnX11_isSorted 241 (nI w) (gb_mk I J) = some (if gw_so g w = true then 1 else 0, gb_mk I J) := by
  unfold fnX11_isSorted
  rw [show gb_FU = 999997 + 1 + 1 + 1 from rfl, show (1 : Int32) = nI 1 from rfl, m_isSorted_s hg g3 hw (by decide) (by decide)]
  have e : gw_so g w = decide ((2 ≤ g → gw_m g w 0 ≤ gw_m g w 1) ∧ (3 ≤ g → gw_m g w 1 ≤ gw_m g w 2)) := rfl
  by_cases c1 : g ≤ 1
  · rw [if_pos c1, if_pos (by rw [e]; exact decide_eq_true ⟨fun z => by omega, fun z => by omega⟩)]
    rfl
  · rw [if_neg c1]
    by_cases d1 : gw_m g w 0 ≤ gw_m g w 1
    · rw [if_pos d1, m_isSorted_s hg g3 hw (by decide) (by decide)]
      by_cases c2 : g ≤ 2
      · rw [if_pos c2, if_pos (by rw [e]; exact decide_eq_true ⟨fun z => d1, fun z => by omega⟩)]
        rfl
      · rw [if_neg c2]
        by_cases d2 : gw_m g w 1 ≤ gw_m g w 2
        · rw [if_pos d2, m_isSorted_s hg g3 hw (by decide) (by decide), if_pos (by omega), if_pos (by rw [e]; exact decide_eq_true ⟨fun z => d1, fun z => d2⟩)]
          rfl
        · rw [if_neg d2, if_neg (by rw [e]; exact fun z => d2 ((of_decide_eq_true z).2 (by omega)))]
    · rw [if_neg d1, if_neg (by rw [e]; exact fun z => d1 ((of_decide_eq_true z).1 (by omega)))]
theorem m_changed (hg : I 241 23 = nI g) (g3 : g ≤ 3) (hw : w < 4096) (hi : i < g) (hj : j < g) : fnX11_changed 241 (nI w) (nI i) (nI j) (gb_mk I J) = some (nI w + (nI (gw_m g w j) - nI (gw_m g w i)) * nI (16 ^ (g - 1 - i)) + (nI (gw_m g w i) - nI (gw_m g w j)) * nI (16 ^ (g - 1 - j)), gb_mk I J) := by
  unfold fnX11_changed
  rw [gk241, gb_gd_t, m_modeAt hg g3 hi hw, gb_bd_s, gk241, gb_gd_t, m_modeAt hg g3 hj hw, gb_bd_s, gk241, gb_gd_t, m_placeAt hg g3 hi, gb_bd_s, gk241, gb_gd_t, m_placeAt hg g3 hj, gb_bd_s]
/-- how often a number comes -/
def gti (n : Nat) : Nat := if n < 2 then 1 else if n = 2 then 2 else 6
theorem m_times {n : Nat} (h : n < 100) (h' : gb_H) : fnX11_times (nI n) h' = some (lN (gti n), h') := by
  unfold fnX11_times fbX11_times_23 gti
  by_cases a : n < 2
  · rw [if_neg (show ¬ (2 : Int32) ≤ nI n from nI_ge (a := n) (b := 2) a (by omega)), if_pos a]
    rfl
  · rw [if_pos (show (2 : Int32) ≤ nI n from nI_le (a := 2) (by omega) (by omega)), if_neg a]
    by_cases b : n = 2
    · rw [if_pos (show nI n = 2 by rw [b]; rfl), if_pos b]
      rfl
    · rw [if_neg (show ¬ nI n = 2 from fun z => b ((nI_eq (b := 2) (by omega) (by omega)).mp z)), if_neg b]
      rfl
/-- how many of the first i grains have the mode m -/
def gw_n (g w m : Nat) : Nat → Nat
  | 0 => 0
  | i + 1 => gw_n g w m i + (if gw_m g w i = m then 1 else 0)
theorem gw_n_b {m : Nat} : ∀ i, gw_n g w m i ≤ i
  | 0 => Nat.le_refl _
  | i + 1 => by
    have := gw_n_b (m := m) i
    show gw_n g w m i + _ ≤ i + 1
    split <;> omega
def gw_f (g w : Nat) : Nat → Nat
  | 0 => 1
  | m + 1 => gw_f g w m * gti (gw_n g w m g)
theorem m_fact18 (hg : I 241 23 = nI g) (g3 : g ≤ 3) (hw : w < 4096) {m : Nat} (hm : m < 16) (f : Nat) (k5 : Nat → Int32 → Int64 → Int32 → gb_H → Option (Int64 × gb_H)) : lpX11_factorials_18 k5 gb_FU 241 (nI w) (lN f) (nI m) 0 0 (gb_mk I J) = k5 241 (nI w) (lN (f * gti (gw_n g w m g))) (nI (m + 1)) (gb_mk I J) := by
  unfold lpX11_factorials_18
  refine gb_forF (fun i => (241, nI w, lN f, nI m, nI (gw_n g w m i), nI i, gb_mk I J)) g (by omega) ?_ ?_
  · intro i hi k
    have mb := gw_m_b (g := g) (w := w) (j := i)
    simp only [fbX11_factorials_18, fbX11_factorials_46]
    rw [gk241, gb_gd_t, gb_I_mk, hg, if_neg (show ¬ nI g ≤ nI i from nI_ge hi (by omega)), gb_gd_t, m_modeAt hg g3 hi hw, gb_bd_s]
    show _ = k (241, nI w, lN f, nI m, nI (gw_n g w m i + (if gw_m g w i = m then 1 else 0)), nI (i + 1), gb_mk I J)
    by_cases e : gw_m g w i = m
    · rw [if_pos (show nI (gw_m g w i) = nI m by rw [e]), if_pos e, gb_lt_d, gb_lt_d, nI_1, nI_1]
    · rw [if_neg (show ¬ nI (gw_m g w i) = nI m from fun z => e ((nI_eq (by omega) (by omega)).mp z)), if_neg e, gb_lt_d, gb_lt_d, nI_1, show (0 : Int32) = nI 0 from rfl, nI_add]
  · intro k
    have nb := gw_n_b (g := g) (w := w) (m := m) g
    simp only [fbX11_factorials_18]
    rw [gk241, gb_gd_t, gb_I_mk, hg, if_pos (show nI g ≤ nI g from nI_le (Nat.le_refl _) (by omega)), m_times (by omega), gb_bd_s, gb_lt_d, gb_lt_d, nI_1, lN_mul]
/-- the product of the times of three marks -/
def gf3 (c : Nat → Nat) : Nat → Nat
  | 0 => 1
  | m + 1 => gf3 c m * gti (c m)
theorem gf3_congr {c c' : Nat → Nat} (h : ∀ m, c m = c' m) : ∀ n, gf3 c n = gf3 c' n
  | 0 => rfl
  | n + 1 => by rw [gf3, gf3, gf3_congr h n, h n]
theorem gf3_3 : ∀ a, a < 16 → ∀ b, b < 16 → ∀ c, c < 16 → gf3 (fun m => (if a = m then 1 else 0) + (if b = m then 1 else 0) + (if c = m then 1 else 0)) 16 = gb_od (gb_ky (a + 1) (b + 1) (c + 1)) := by decide +kernel
theorem gf3_2 : ∀ a, a < 16 → ∀ b, b < 16 → gf3 (fun m => (if a = m then 1 else 0) + (if b = m then 1 else 0)) 16 = gb_od (gb_ky 0 (a + 1) (b + 1)) := by decide +kernel
theorem gf3_1 : ∀ a, a < 16 → gf3 (fun m => (if a = m then 1 else 0)) 16 = gb_od (gb_ky 0 0 (a + 1)) := by decide +kernel
theorem gw_f_e : ∀ n, gw_f g w n = gf3 (fun m => gw_n g w m g) n
  | 0 => rfl
  | n + 1 => by rw [gw_f, gf3, gw_f_e n]
theorem gw_f_od (g3 : g ≤ 3) : gw_f g w 16 = gb_od (gw_k g w) := by
  rw [gw_f_e]
  match g, g3 with
  | 0, _ =>
    show gf3 (fun _ => 0) 16 = gb_od (gb_ky 0 0 0)
    decide +kernel
  | 1, _ =>
    rw [← show gb_od (gb_ky 0 0 (gw_m 1 w 0 + 1)) = gb_od (gw_k 1 w) from rfl, ← gf3_1 _ gw_m_b]
    exact gf3_congr (fun m => Nat.zero_add _) 16
  | 2, _ =>
    rw [← show gb_od (gb_ky 0 (gw_m 2 w 0 + 1) (gw_m 2 w 1 + 1)) = gb_od (gw_k 2 w) from rfl, ← gf3_2 _ gw_m_b _ gw_m_b]
    exact gf3_congr (fun m => by show 0 + _ + _ = _; rw [Nat.zero_add]) 16
  | 3, _ =>
    rw [← show gb_od (gb_ky (gw_m 3 w 0 + 1) (gw_m 3 w 1 + 1) (gw_m 3 w 2 + 1)) = gb_od (gw_k 3 w) from rfl, ← gf3_3 _ gw_m_b _ gw_m_b _ gw_m_b]
    exact gf3_congr (fun m => by show 0 + _ + _ + _ = _; rw [Nat.zero_add]) 16
theorem m_factorials (hg : I 241 23 = nI g) (g3 : g ≤ 3) (hw : w < 4096) : fnX11_factorials 241 (nI w) (gb_mk I J) = some (lN (gb_od (gw_k g w)), gb_mk I J) := by
  unfold fnX11_factorials lpX11_factorials_5
  refine gb_forF (fun m => (241, nI w, lN (gw_f g w m), nI m, gb_mk I J)) 16 (by decide) ?_ ?_
  · intro m hm k
    simp only [fbX11_factorials_5]
    rw [if_neg (show ¬ (16 : Int32) ≤ nI m from nI_ge (b := 16) hm (by omega)), m_fact18 hg g3 hw hm]
    rfl
  · intro k
    simp only [fbX11_factorials_5]
    rw [if_pos (show (16 : Int32) ≤ nI 16 by decide), gw_f_od g3]
end MFAC
