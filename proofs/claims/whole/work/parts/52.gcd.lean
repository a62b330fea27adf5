section GCD
theorem gL_toInt {n : Nat} (h : n < 2 ^ 63) : (lN n).toInt = (n : Int) := lg_ofNat_toInt h
theorem gL_le0 {n : Nat} (h : n < 2 ^ 63) : lN n ≤ 0 ↔ n = 0 := by
  rw [Int64.le_iff_toInt_le, gL_toInt h, show Int64.toInt 0 = 0 from rfl]
  omega
theorem gL_eq0 {n : Nat} (h : n < 2 ^ 63) : lN n = 0 ↔ n = 0 := by
  rw [← Int64.toInt_inj, gL_toInt h, show Int64.toInt 0 = 0 from rfl]
  omega
theorem gL_div {x y : Nat} (hx : x < 2 ^ 63) (hy : y < 2 ^ 63) : lN x / lN y = lN (x / y) := by
  have hq : x / y < 2 ^ 63 := Nat.lt_of_le_of_lt (Nat.div_le_self x y) hx
  apply Int64.toInt_inj.mp
  rw [Int64.toInt_div, gL_toInt hx, gL_toInt hy, gL_toInt hq, ← Int.ofNat_tdiv]
  generalize x / y = q at hq
  apply Int.bmod_eq_of_le
  · omega
  · omega
theorem gL_mod {x y : Nat} (hx : x < 2 ^ 63) (hy : y < 2 ^ 63) : lN x - lN x / lN y * lN y = lN (x % y) := by
  rw [gL_div hx hy, lN_mul, lN_sub (Nat.div_mul_le_self x y)]
  congr 1
  have := Nat.div_add_mod x y
  rw [Nat.mul_comm] at this
  omega
theorem gb_half {y r : Nat} (hr : 0 < r) (hy : r < y) {n : Nat} (h : y < 2 ^ (n + 1)) : y % r < 2 ^ n := by
  have a : y % r < r := Nat.mod_lt _ hr
  have b : y % r ≤ y - r := by
    rw [Nat.mod_eq_sub_mod (Nat.le_of_lt hy)]
    exact Nat.mod_le _ _
  rw [Nat.pow_succ] at h
  omega
theorem gb_gcd_s {x y : Nat} : Nat.gcd y (x % y) = Nat.gcd x y := by
  rw [Nat.gcd_comm x y, Nat.gcd_rec y x, Nat.gcd_comm]
theorem m_gcdN (h : gb_H) : ∀ (n k x y : Nat), x < 2 ^ 63 → y < 2 ^ 63 → y < 2 ^ n → 2 * n + 2 ≤ k → lpX11_divisor_28 k (lN x) (lN y) h = some (lN (Nat.gcd x y), h) := by
  have ex : ∀ k x, lpX11_divisor_28 (k + 1) (lN x) (lN 0) h = some (lN (Nat.gcd x 0), h) := by
    intro k x
    show fbX11_divisor_28 (fun v4 v6 h => lpX11_divisor_28 k v4 v6 h) (lN x) (lN 0) h = _
    simp only [fbX11_divisor_28]
    rw [if_pos ((gL_le0 (by decide)).mpr rfl), Nat.gcd_zero_right]
  have st : ∀ k x y, x < 2 ^ 63 → y < 2 ^ 63 → y ≠ 0 → lpX11_divisor_28 (k + 1) (lN x) (lN y) h = lpX11_divisor_28 k (lN y) (lN (x % y)) h := by
    intro k x y hx hy h0
    show fbX11_divisor_28 (fun v4 v6 h => lpX11_divisor_28 k v4 v6 h) (lN x) (lN y) h = _
    simp only [fbX11_divisor_28]
    rw [if_neg (fun q => h0 ((gL_le0 hy).mp q)), gL_mod hx hy, gb_nzL_of (fun q => h0 ((gL_eq0 hy).mp q))]
    rfl
  intro n
  induction n with
  | zero =>
    intro k x y hx hy hn hk
    have e : y = 0 := by simp at hn; exact hn
    subst e
    obtain ⟨k', rfl⟩ : ∃ k', k = k' + 1 := ⟨k - 1, by omega⟩
    exact ex k' x
  | succ n ih =>
    intro k x y hx hy hn hk
    obtain ⟨k', rfl⟩ : ∃ k', k = k' + 1 + 1 := ⟨k - 2, by omega⟩
    by_cases h0 : y = 0
    · subst h0
      exact ex _ x
    · have hr : x % y < y := Nat.mod_lt _ (by omega)
      rw [st _ x y hx hy h0, ← gb_gcd_s]
      by_cases h1 : x % y = 0
      · rw [h1]
        exact ex _ y
      · rw [st _ y (x % y) hy (by omega) h1, ← gb_gcd_s]
        have hr2 : y % (x % y) < x % y := Nat.mod_lt _ (by omega)
        exact ih k' (x % y) _ (by omega) (by omega) (gb_half (by omega) hr hn) (by omega)
theorem x_gcdN (h : gb_H) : ∀ (n k x y c : Nat), x < 2 ^ 63 → y < 2 ^ 63 → y < 2 ^ n → 2 * n + 2 ≤ k → c + 2 * n ≤ 199 → lpX8_divisor_9 k (lN x) (lN y) (nI c) h = some (lN (Nat.gcd x y), h) := by
  have ex : ∀ k x c, lpX8_divisor_9 (k + 1) (lN x) (lN 0) (nI c) h = some (lN (Nat.gcd x 0), h) := by
    intro k x c
    show fbX8_divisor_9 (fun v4 v6 v8 h => lpX8_divisor_9 k v4 v6 v8 h) (lN x) (lN 0) (nI c) h = _
    simp only [fbX8_divisor_9, fbX8_divisor_45]
    rw [if_pos (show lN 0 = 0 from rfl), Nat.gcd_zero_right]
    by_cases q : (200 : Int32) ≤ nI c
    · rw [if_pos q]
    · rw [if_neg q]
  have st : ∀ k x y c, x < 2 ^ 63 → y < 2 ^ 63 → y ≠ 0 → c < 200 → lpX8_divisor_9 (k + 1) (lN x) (lN y) (nI c) h = lpX8_divisor_9 k (lN y) (lN (x % y)) (nI (c + 1)) h := by
    intro k x y c hx hy h0 hc
    show fbX8_divisor_9 (fun v4 v6 v8 h => lpX8_divisor_9 k v4 v6 v8 h) (lN x) (lN y) (nI c) h = _
    simp only [fbX8_divisor_9]
    rw [if_neg (show ¬ (200 : Int32) ≤ nI c from nI_ge (show c < 200 from hc) (by decide)), if_neg (fun q => h0 ((gL_eq0 hy).mp q)), gL_mod hx hy, gb_nzL_of (fun q => h0 ((gL_eq0 hy).mp q)), gb_lit 1, nI_add]
    rfl
  intro n
  induction n with
  | zero =>
    intro k x y c hx hy hn hk hc
    have e : y = 0 := by simp at hn; exact hn
    subst e
    obtain ⟨k', rfl⟩ : ∃ k', k = k' + 1 := ⟨k - 1, by omega⟩
    exact ex k' x c
  | succ n ih =>
    intro k x y c hx hy hn hk hc
    obtain ⟨k', rfl⟩ : ∃ k', k = k' + 1 + 1 := ⟨k - 2, by omega⟩
    by_cases h0 : y = 0
    · subst h0
      exact ex _ x c
    · have hr : x % y < y := Nat.mod_lt _ (by omega)
      rw [st _ x y c hx hy h0 (by omega), ← gb_gcd_s]
      by_cases h1 : x % y = 0
      · rw [h1]
        exact ex _ y _
      · rw [st _ y (x % y) _ hy (by omega) h1 (by omega), ← gb_gcd_s]
        have hr2 : y % (x % y) < x % y := Nat.mod_lt _ (by omega)
        exact ih k' (x % y) _ _ (by omega) (by omega) (gb_half (by omega) hr hn) (by omega) (by omega)
theorem x_gcd {x y : Nat} (hx : x < 2 ^ 63) (hy : y < 2 ^ 63) (h : gb_H) : fnX8_divisor (lN x) (lN y) h = some (lN (Nat.gcd x y), h) :=
  x_gcdN h 63 gb_FU x y 0 hx hy hy (by decide) (by decide)
/-- a whole number as a long -/
def iL (z : Int) : Int64 := Int64.ofInt z
theorem iL_toInt {z : Int} (h : z.natAbs < 2 ^ 63) : (iL z).toInt = z := by
  unfold iL
  rw [Int64.toInt_ofInt]
  apply Int.bmod_eq_of_le
  · simp; omega
  · simp; omega
theorem iL_abs {z : Int} (h : z.natAbs < 2 ^ 63) : (if (0 : Int64) ≤ iL z then iL z else -(iL z)) = lN z.natAbs := by
  apply Int64.toInt_inj.mp
  rw [gL_toInt h]
  by_cases c : (0 : Int64) ≤ iL z
  · rw [if_pos c, iL_toInt h]
    rw [Int64.le_iff_toInt_le, iL_toInt h, show Int64.toInt 0 = 0 from rfl] at c
    omega
  · rw [if_neg c, Int64.toInt_neg, iL_toInt h]
    rw [Int64.le_iff_toInt_le, iL_toInt h, show Int64.toInt 0 = 0 from rfl] at c
    rw [show ((z.natAbs : Nat) : Int) = -z by omega]
    apply Int.bmod_eq_of_le
    · simp; omega
    · simp; omega
theorem m_gcd {a b : Int} (ha : a.natAbs < 2 ^ 63) (hb : b.natAbs < 2 ^ 63) (h : gb_H) : fnX11_divisor (iL a) (iL b) h = some (lN (Int.gcd a b), h) := by
  have e : fnX11_divisor (iL a) (iL b) h = lpX11_divisor_28 gb_FU (if (0 : Int64) ≤ iL a then iL a else -(iL a)) (if (0 : Int64) ≤ iL b then iL b else -(iL b)) h := by
    simp only [fnX11_divisor, fbX11_divisor_12, fbX11_divisor_26]
    by_cases c : (0 : Int64) ≤ iL a
    · rw [if_pos c, if_pos c]
      by_cases c2 : (0 : Int64) ≤ iL b
      · rw [if_pos c2, if_pos c2]
      · rw [if_neg c2, if_neg c2]
    · rw [if_neg c, if_neg c]
      by_cases c2 : (0 : Int64) ≤ iL b
      · rw [if_pos c2, if_pos c2]
      · rw [if_neg c2, if_neg c2]
  rw [e, iL_abs ha, iL_abs hb]
  exact m_gcdN h 63 gb_FU _ _ ha hb hb (by decide)
end GCD
