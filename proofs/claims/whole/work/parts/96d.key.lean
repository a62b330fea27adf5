section KEY
variable {I I' I1 I2 : gb_FI} {J J' : gb_FJ} {x y z : Nat}
/-- a product of three seats, rising -/
def gb_mi (x y z : Nat) : Nat := min (min x y) z
def gb_ma (x y z : Nat) : Nat := max (max x y) z
def gb_ky (x y z : Nat) : Nat := gb_mi x y z + 32 * (x + y + z - gb_mi x y z - gb_ma x y z) + 1024 * gb_ma x y z
def gb_sk (k : Nat) : Prop := k % 32 ≤ k / 32 % 32 ∧ k / 32 % 32 ≤ k / 1024 ∧ k / 1024 < 17
theorem gb_ky_s (hx : x < 17) (hy : y < 17) (hz : z < 17) : gb_sk (gb_ky x y z) ∧ gb_ky x y z % 32 = gb_mi x y z ∧ gb_ky x y z / 32 % 32 = x + y + z - gb_mi x y z - gb_ma x y z ∧ gb_ky x y z / 1024 = gb_ma x y z := by
  unfold gb_sk gb_ky gb_mi gb_ma
  omega
theorem gb_ky_of {k : Nat} (h : gb_sk k) : gb_ky (k % 32) (k / 32 % 32) (k / 1024) = k := by
  unfold gb_sk at h
  unfold gb_ky gb_mi gb_ma
  omega
theorem gb_ky_12 : gb_ky x y z = gb_ky y x z := by
  unfold gb_ky gb_mi gb_ma
  rw [Nat.min_comm x y, Nat.max_comm x y, Nat.add_comm x y]
theorem gb_ky_23 : gb_ky x y z = gb_ky x z y := by
  unfold gb_ky gb_mi gb_ma
  rw [show min (min x y) z = min (min x z) y by omega, show max (max x y) z = max (max x z) y by omega, show x + y + z = x + z + y by omega]
theorem gb_or3 : ∀ z, z < 17 → ∀ y, y < 17 → ∀ x, x < 17 → (nI x ||| (nI y <<< ((5 : Int32) &&& 31))) ||| (nI z <<< ((10 : Int32) &&& 31)) = nI (x + 32 * y + 1024 * z) := by decide +kernel
theorem x_keyOf (hx : x < 17) (hy : y < 17) (hz : z < 17) (h : gb_H) : fnX0_keyOf (nI x) (nI y) (nI z) h = some (nI (gb_ky x y z), h) := by
  have e1 : (if nI y < nI x then nI y else nI x) = nI (min x y) := by
    by_cases a : y < x
    · rw [if_pos (nI_lt a (by omega)), Nat.min_eq_right (by omega)]
    · rw [if_neg (nI_nlt (by omega) (by omega)), Nat.min_eq_left (by omega)]
  have e2 : (if nI z < nI (min x y) then nI z else nI (min x y)) = nI (gb_mi x y z) := by
    unfold gb_mi
    by_cases a : z < min x y
    · rw [if_pos (nI_lt a (by omega)), show min (min x y) z = z by omega]
    · rw [if_neg (nI_nlt (by omega) (by omega)), show min (min x y) z = min x y by omega]
  have e3 : (if nI x < nI y then nI y else nI x) = nI (max x y) := by
    by_cases a : x < y
    · rw [if_pos (nI_lt a (by omega)), Nat.max_eq_right (by omega)]
    · rw [if_neg (nI_nlt (by omega) (by omega)), Nat.max_eq_left (by omega)]
  have e4 : (if nI (max x y) < nI z then nI z else nI (max x y)) = nI (gb_ma x y z) := by
    unfold gb_ma
    by_cases a : max x y < z
    · rw [if_pos (nI_lt a (by omega)), show max (max x y) z = z by omega]
    · rw [if_neg (nI_nlt (by omega) (by omega)), show max (max x y) z = max x y by omega]
  have m1 : gb_mi x y z ≤ x + y + z := by unfold gb_mi; omega
  have m2 : gb_ma x y z ≤ x + y + z - gb_mi x y z := by unfold gb_mi gb_ma; omega
  have m3 : x + y + z - gb_mi x y z - gb_ma x y z < 17 := by unfold gb_mi gb_ma; omega
  have m4 : gb_mi x y z < 17 := by unfold gb_mi; omega
  have m5 : gb_ma x y z < 17 := by unfold gb_ma; omega
  unfold fnX0_keyOf
  rw [gb_lt_d, e1, gb_lt_d, e2, gb_lt_d, e3, gb_lt_d, e4, nI_add, nI_add, gb_nI_sub m1, gb_nI_sub m2, gb_or3 _ m5 _ m3 _ m4]
  rfl
theorem gb_lo3 : ∀ z, z < 17 → ∀ y, y < 17 → ∀ x, x < 17 → nI (x + 32 * y + 1024 * z) &&& (31 : Int32) = nI x ∧ (nI (x + 32 * y + 1024 * z) >>> ((5 : Int32) &&& 31)) &&& (31 : Int32) = nI y ∧ (nI (x + 32 * y + 1024 * z) >>> ((10 : Int32) &&& 31)) &&& (31 : Int32) = nI z := by decide +kernel
theorem gb_key3 {k : Nat} (h : gb_sk k) : nI k &&& (31 : Int32) = nI (k % 32) ∧ (nI k >>> ((5 : Int32) &&& 31)) &&& (31 : Int32) = nI (k / 32 % 32) ∧ (nI k >>> ((10 : Int32) &&& 31)) &&& (31 : Int32) = nI (k / 1024) := by
  have := gb_lo3 (k / 1024) h.2.2 (k / 32 % 32) (by unfold gb_sk at h; omega) (k % 32) (by unfold gb_sk at h; omega)
  rw [show k % 32 + 32 * (k / 32 % 32) + 1024 * (k / 1024) = k by omega] at this
  exact this
theorem gb_sk_b {k : Nat} (h : gb_sk k) : k % 32 < 17 ∧ k / 32 % 32 < 17 ∧ k / 1024 < 17 ∧ k < 32768 ∧ k / 1024 % 32 = k / 1024 := by
  unfold gb_sk at h
  omega
theorem gb_pl3 : ∀ z, z < 17 → ∀ y, y < 17 → ∀ x, x < 17 → (nI x + nI y * (nI y + 1) / 2) + (nI z * (nI z + 1)) * (nI z + 2) / 6 = nI (x + y * (y + 1) / 2 + z * (z + 1) * (z + 2) / 6) := by decide +kernel
theorem x_place {k : Nat} (h : gb_sk k) (h' : gb_H) : fnX0_placeOfKey (nI k) h' = some (nI (gb_kp k), h') := by
  obtain ⟨a, b, c⟩ := gb_key3 h
  obtain ⟨b1, b2, b3, b4, b5⟩ := gb_sk_b h
  unfold fnX0_placeOfKey
  rw [gb_lt_d, a, gb_lt_d, b, gb_lt_d, c, show gb_nz (2 : Int32) = true from rfl, gb_gd_t, show gb_nz (6 : Int32) = true from rfl, gb_gd_t, gb_pl3 _ b3 _ b2 _ b1]
  unfold gb_kp
  rw [b5]
theorem x_low {k : Nat} (h : gb_sk k) (h' : gb_H) : fnX0_low (nI k) h' = some (nI (k % 32), h') := by
  unfold fnX0_low
  rw [(gb_key3 h).1]
theorem x_mid {k : Nat} (h : gb_sk k) (h' : gb_H) : fnX0_mid (nI k) h' = some (nI (k / 32 % 32), h') := by
  unfold fnX0_mid
  rw [(gb_key3 h).2.1]
theorem x_high {k : Nat} (h : gb_sk k) (h' : gb_H) : fnX0_high (nI k) h' = some (nI (k / 1024), h') := by
  unfold fnX0_high
  rw [(gb_key3 h).2.2]
/-- the path of a seat, from 1; 0 for none -/
def gb_pa (s : Nat) : Nat := if 11 ≤ s then 0 else (s + 1) / 2
theorem gb_half17 : ∀ s, s < 11 → (nI s + 1) / 2 = nI ((s + 1) / 2) := by decide
theorem x_pathOf {s : Nat} (hs : s < 17) (h : gb_H) : fnX0_pathOf (nI s) h = some (nI (gb_pa s), h) := by
  unfold fnX0_pathOf fbX0_pathOf_15 gb_pa
  by_cases a : 11 ≤ s
  · rw [if_pos (show (11 : Int32) ≤ nI s from nI_le (a := 11) a (by omega)), if_pos a]
    rfl
  · rw [if_neg (show ¬ (11 : Int32) ≤ nI s from nI_ge (a := s) (b := 11) (by omega) (by omega)), if_neg a, show gb_nz (2 : Int32) = true from rfl, gb_gd_t, gb_half17 s (by omega)]
def gb_gi (k t : Nat) : Nat := (if gb_pa (k % 32) = t then 1 else 0) + (if gb_pa (k / 32 % 32) = t then 1 else 0) + (if gb_pa (k / 1024) = t then 1 else 0)
theorem gb_pa_b (s : Nat) : gb_pa s ≤ 5 := by unfold gb_pa; split <;> omega
theorem x_grainsIn {k t : Nat} (h : gb_sk k) (ht : t < 100) (h' : gb_H) : fnX0_grainsIn (nI k) (nI t) h' = some (nI (gb_gi k t), h') := by
  obtain ⟨b1, b2, b3, b4, b5⟩ := gb_sk_b h
  have e : ∀ s, (nI (gb_pa s) = nI t ↔ gb_pa s = t) := fun s => nI_eq (by have := gb_pa_b s; omega) (by omega)
  have p0 : nI 0 + nI 0 = nI 0 := by decide
  unfold gb_gi
  simp only [fnX0_grainsIn, fbX0_grainsIn_16, fbX0_grainsIn_34, fbX0_grainsIn_53, x_low h, x_mid h, x_high h, x_pathOf b1, x_pathOf b2, x_pathOf b3, gb_bd_s, gb_lt_d, e]
  split <;> split <;> split <;> rfl
theorem gb_kp_b {k : Nat} (h : gb_sk k) : gb_kp k < 969 := by
  obtain ⟨b1, b2, b3, b4, b5⟩ := gb_sk_b h
  have : ∀ z, z < 17 → ∀ y, y ≤ z → ∀ x, x ≤ y → x + y * (y + 1) / 2 + z * (z + 1) * (z + 2) / 6 < 969 := by
    intro z hz y hy x hx
    have y2 : y * (y + 1) ≤ z * (z + 1) := Nat.mul_le_mul hy (by omega)
    have zz : ∀ z, z < 17 → z + z * (z + 1) / 2 + z * (z + 1) * (z + 2) / 6 < 969 := by decide
    have := zz z hz
    have : y * (y + 1) / 2 ≤ z * (z + 1) / 2 := Nat.div_le_div_right y2
    omega
  unfold gb_kp
  rw [b5]
  exact this _ b3 _ h.2.1 _ h.1
/-- the key of a place -/
def gb_t3 (t : Nat) : Nat := t * (t + 1) * (t + 2) / 6
def gb_dz (p : Nat) : Nat → Nat
  | 0 => 0
  | t + 1 => if gb_t3 (t + 1) ≤ p then t + 1 else gb_dz p t
def gb_dy (p : Nat) : Nat → Nat
  | 0 => 0
  | t + 1 => if (t + 1) * (t + 2) / 2 ≤ p then t + 1 else gb_dy p t
def gb_un (p : Nat) : Nat := (p - gb_t3 (gb_dz p 16) - gb_dy (p - gb_t3 (gb_dz p 16)) 16 * (gb_dy (p - gb_t3 (gb_dz p 16)) 16 + 1) / 2) + 32 * gb_dy (p - gb_t3 (gb_dz p 16)) 16 + 1024 * gb_dz p 16
theorem gb_un_ok : ∀ z, z < 17 → ∀ y, y < 17 → ∀ x, x < 17 → x ≤ y → y ≤ z → gb_un (x + y * (y + 1) / 2 + z * (z + 1) * (z + 2) / 6) = x + 32 * y + 1024 * z := by decide +kernel
theorem gb_kp_inj {k k' : Nat} (h : gb_sk k) (h' : gb_sk k') (e : gb_kp k = gb_kp k') : k = k' := by
  have f : ∀ k, gb_sk k → gb_un (gb_kp k) = k := fun k h => by
    obtain ⟨b1, b2, b3, b4, b5⟩ := gb_sk_b h
    have := gb_un_ok (k / 1024) b3 (k / 32 % 32) b2 (k % 32) b1 h.1 h.2.1
    unfold gb_kp
    rw [b5, this]
    omega
  rw [← f k h, ← f k' h', e]
/-- at most so many numbers below n -/
def gb_cnt (n : Nat) (f : Nat → Bool) : Nat := match n with
  | 0 => 0
  | n + 1 => gb_cnt n f + (if f n = true then 1 else 0)
theorem gb_cnt_le (f : Nat → Bool) : ∀ n, gb_cnt n f ≤ n
  | 0 => Nat.le_refl _
  | n + 1 => by
    have := gb_cnt_le f n
    rw [gb_cnt]
    split <;> omega
theorem gb_cnt_up {f g : Nat → Bool} {a : Nat} (h : ∀ p, p ≠ a → f p = g p) (h1 : f a = true) (h2 : g a = false) : ∀ n, gb_cnt n f = gb_cnt n g + (if a < n then 1 else 0)
  | 0 => by rw [if_neg (by omega)]; rfl
  | n + 1 => by
    rw [gb_cnt, gb_cnt, gb_cnt_up h h1 h2 n]
    by_cases e : n = a
    · subst e
      rw [h1, h2, if_neg (by omega), if_pos rfl, if_neg (by decide), if_pos (by omega)]
    · rw [h n e]
      by_cases q : a < n
      · rw [if_pos q, if_pos (show a < n + 1 by omega)]; omega
      · rw [if_neg q, if_neg (show ¬ a < n + 1 by omega)]
        omega
theorem gb_pig (n : Nat) : ∀ l : List Nat, (∀ (i j a : Nat), l[i]? = some a → l[j]? = some a → i = j) → (∀ a ∈ l, a < n) → gb_cnt n (fun p => decide (p ∈ l)) = l.length
  | [], _, _ => by
    have : ∀ n, gb_cnt n (fun p => decide (p ∈ ([] : List Nat))) = 0 := by
      intro n
      induction n with
      | zero => rfl
      | succ n ih => rw [gb_cnt, ih]; simp
    exact this n
  | a :: l, h, hb => by
    have na : a ∉ l := fun w => by
      obtain ⟨i, hi⟩ := List.mem_iff_getElem?.mp w
      have := h 0 (i + 1) a (by simp) (by simpa using hi)
      omega
    have ih := gb_pig n l (fun i j b hi hj => by
      have := h (i + 1) (j + 1) b (by simpa using hi) (by simpa using hj)
      omega) (fun b hb' => hb b (List.mem_cons_of_mem _ hb'))
    rw [gb_cnt_up (f := fun p => decide (p ∈ a :: l)) (g := fun p => decide (p ∈ l)) (a := a) (fun p hp => by simp [hp]) (by simp) (by simp [na]) n, ih, if_pos (hb a (by simp))]
    rfl
end KEY
