section SIGNE
variable {I I' : gb_FI} {J J' : gb_FJ}
theorem x_sign72s {w r c : Nat} (hw : w < 2 ^ 61) (hr : r < 2 ^ 61) (hc : c < 200) (F : Nat) (s : Int32) (h : gb_H) : lpX8_signOf_72 (F + 1) s (lN w) (lN r) (nI c) h = if w < 2 * r then (if r < w then lpX8_signOf_72 F (-s) (lN (2 * r - w)) (lN (w - r)) (nI (c + 1)) h else some (-s, h)) else some (s, h) := by
  rw [show lpX8_signOf_72 (F + 1) s (lN w) (lN r) (nI c) h = fbX8_signOf_72 (fun v4 v5 v7 v9 h => lpX8_signOf_72 F v4 v5 v7 v9 h) s (lN w) (lN r) (nI c) h from rfl]
  have lt : ∀ {a b : Nat}, a < 2 ^ 63 → b < 2 ^ 63 → (lN a < lN b ↔ a < b) := fun {a b} ha hb => by
    rw [lN_iL, lN_iL, iL_lt (by omega) (by omega)]
    omega
  unfold fbX8_signOf_72
  rw [if_neg (show ¬ (200 : Int32) ≤ nI c from nI_ge (b := 200) hc (by omega)), show (2 : Int64) = lN 2 from rfl, lN_mul]
  by_cases a : w < 2 * r
  · rw [if_pos ((lt (by omega) (by omega)).mpr a), if_pos a]
    by_cases b : r < w
    · rw [if_pos ((lt (by omega) (by omega)).mpr b), if_pos b, gb_lt_d, gb_lt_d, gb_lt_d, gb_lt_d, nI_1, lN_sub (by omega), lN_sub (by omega)]
    · rw [if_neg (fun q => b ((lt (by omega) (by omega)).mp q)), if_neg b]
  · rw [if_neg (fun q => a ((lt (by omega) (by omega)).mp q)), if_neg a]
/-- one step down turns the sign -/
theorem gdown {w r : Nat} (h1 : r < w) (h2 : w < 2 * r) : (2 * ((w - r) * (w - r)) < (2 * r - w) * (2 * r - w) ↔ ¬ 2 * (r * r) < w * w) := by
  obtain ⟨a, rfl⟩ : ∃ a, w = r + a := ⟨w - r, by omega⟩
  obtain ⟨b, rfl⟩ : ∃ b, r = a + b := ⟨r - a, by omega⟩
  rw [show a + b + a - (a + b) = a by omega, show 2 * (a + b) - (a + b + a) = b by omega]
  have ne : ¬ b * b = 2 * (a * a) := fun q => by
    have := girr a b a (Nat.le_refl _) q
    omega
  have e1 : (a + b) * (a + b) = a * a + 2 * (a * b) + b * b := by
    rw [Nat.add_mul, Nat.mul_add, Nat.mul_add, Nat.mul_comm b a]
    omega
  have e2 : (a + b + a) * (a + b + a) = 4 * (a * a) + 4 * (a * b) + b * b := by
    rw [show a + b + a = 2 * a + b by omega, Nat.add_mul, Nat.mul_add, Nat.mul_add, Nat.mul_mul_mul_comm, Nat.mul_assoc 2 a b, Nat.mul_comm b (2 * a), Nat.mul_assoc 2 a b]
    omega
  rw [e1, e2]
  omega
theorem gnn (s : Int32) : - -s = s := by grind
theorem x_sign72 (h : gb_H) : ∀ n w r c F s, 0 < r → 0 < w → r < 2 ^ n → w < 2 ^ 61 → r < 2 ^ 61 → c + n + 2 ≤ 200 → n + 2 ≤ F → lpX8_signOf_72 F s (lN w) (lN r) (nI c) h = some (if 2 * (r * r) < w * w then s else -s, h) := by
  have big : ∀ w r, 0 < r → ¬ w < 2 * r → 2 * (r * r) < w * w := fun w r h0 hb => by
    have : 2 * r * (2 * r) ≤ w * w := Nat.mul_le_mul (by omega) (by omega)
    rw [Nat.mul_mul_mul_comm] at this
    have : 0 < r * r := Nat.mul_pos h0 h0
    omega
  have small : ∀ w r, 0 < r → ¬ r < w → ¬ 2 * (r * r) < w * w := fun w r h0 hb => by
    have : w * w ≤ r * r := Nat.mul_le_mul (by omega) (by omega)
    have : 0 < r * r := Nat.mul_pos h0 h0
    omega
  intro n
  induction n with
  | zero => intro w r c F s h0 _ h1; exact absurd h1 (by simp; omega)
  | succ n ih =>
    intro w r c F s r0 w0 hr hw hr' hc hF
    obtain ⟨F, rfl⟩ : ∃ f, F = f + 1 := ⟨F - 1, by omega⟩
    rw [x_sign72s hw hr' (by omega)]
    by_cases a : w < 2 * r
    · rw [if_pos a]
      by_cases b : r < w
      · rw [if_pos b]
        have dn := gdown b a
        have key : lpX8_signOf_72 F (-s) (lN (2 * r - w)) (lN (w - r)) (nI (c + 1)) h = some (if 2 * ((w - r) * (w - r)) < (2 * r - w) * (2 * r - w) then -s else - -s, h) := by
          by_cases d : w - r < 2 * r - w
          · refine ih (2 * r - w) (w - r) (c + 1) F (-s) (by omega) (by omega) ?_ (by omega) (by omega) (by omega) (by omega)
            rw [Nat.pow_succ] at hr
            omega
          · obtain ⟨F, rfl⟩ : ∃ f, F = f + 1 := ⟨F - 1, by omega⟩
            rw [x_sign72s (by omega) (by omega) (by omega), if_pos (by omega), if_neg d, if_neg (small _ _ (by omega) d)]
        rw [key, gnn]
        by_cases q : 2 * (r * r) < w * w
        · rw [if_neg (fun z => dn.mp z q), if_pos q]
        · rw [if_pos (dn.mpr q), if_neg q]
      · rw [if_neg b, if_neg (small w r r0 b)]
    · rw [if_neg a, if_pos (big w r r0 a)]
def gsgn (z : Int) : Int32 := if 0 < z then 1 else if z = 0 then 0 else -1
theorem x_signOf {x y : Int} (hx : x.natAbs ≤ 1000000000000000) (hy : y.natAbs ≤ 1000000000000000) (h : gb_H) : fnX8_signOf (iL x) (iL y) h = some (gsgn (gph x y), h) := by
  have z0 : (0 : Int64) = iL 0 := rfl
  have lx0 : iL x < 0 ↔ x < 0 := by rw [z0]; exact iL_lt (by omega) (by decide)
  have ly0 : iL y < 0 ↔ y < 0 := by rw [z0]; exact iL_lt (by omega) (by decide)
  have gx0 : 0 < iL x ↔ 0 < x := by rw [z0]; exact iL_lt (by decide) (by omega)
  have gy0 : 0 < iL y ↔ 0 < y := by rw [z0]; exact iL_lt (by decide) (by omega)
  have ex0 : iL x ≤ 0 ↔ x ≤ 0 := by rw [z0]; exact iL_le (by omega) (by decide)
  have qx0 : iL x = 0 ↔ x = 0 := by rw [z0]; exact iL_eq (by omega) (by decide)
  have qy0 : iL y = 0 ↔ y = 0 := by rw [z0]; exact iL_eq (by omega) (by decide)
  have ax := iL_abs' (z := x) (by omega)
  have ay := iL_abs' (z := y) (by omega)
  have mix : (x < 0 ∧ 0 < y) ∨ (0 < x ∧ y < 0) → fbX8_signOf_44 (iL x) (iL y) h = some (gsgn (gph x y), h) := fun hm => by
    have run : ∀ s, fbX8_signOf_55 (iL x) (iL y) s h = some (if 2 * (y.natAbs * y.natAbs) < x.natAbs * x.natAbs then s else -s, h) := fun s => by
      unfold fbX8_signOf_55
      rw [gb_lt_d, gb_lt_d, ax, ay]
      exact x_sign72 h 50 x.natAbs y.natAbs 0 gb_FU s (by omega) (by omega) (by omega) (by omega) (by omega) (by decide) (by decide)
    unfold fbX8_signOf_44 gsgn
    rw [run, run]
    rcases hm with ⟨hx', hy'⟩ | ⟨hx', hy'⟩
    · have g := gph_mp hx' hy' hy
      rw [if_pos (ex0.mpr (by omega))]
      by_cases c : 2 * (y.natAbs * y.natAbs) < x.natAbs * x.natAbs
      · rw [if_pos c, if_neg (fun q => g.1.mp q c), if_neg g.2]
      · rw [if_neg c, if_pos (g.1.mpr c)]
        rfl
    · have g := gph_pm hx' hy' hy
      rw [if_neg (fun q => by have := ex0.mp q; omega)]
      by_cases c : 2 * (y.natAbs * y.natAbs) < x.natAbs * x.natAbs
      · rw [if_pos c, if_pos (g.1.mpr c)]
      · rw [if_neg c, if_neg (fun q => c (g.1.mp q)), if_neg g.2]
  have neg : x ≤ 0 → y ≤ 0 → (x < 0 ∨ y < 0) → gsgn (gph x y) = -1 := fun h1 h2 h3 => by
    have := (gph_np h1 h2).2.mpr h3
    unfold gsgn
    rw [if_neg (by omega), if_neg (by omega)]
  have pos : 0 ≤ x → 0 ≤ y → (0 < x ∨ 0 < y) → gsgn (gph x y) = 1 := fun h1 h2 h3 => by
    have := (gph_nn h1 h2).mpr h3
    unfold gsgn
    rw [if_pos this]
  unfold fnX8_signOf fbX8_signOf_30 fbX8_signOf_28 fbX8_signOf_29
  by_cases c1 : x < 0
  · rw [if_pos (lx0.mpr c1), if_neg (fun q => by have := gx0.mp q; omega)]
    by_cases c2 : 0 < y
    · rw [if_pos (gy0.mpr c2)]
      exact mix (Or.inl ⟨c1, c2⟩)
    · rw [if_neg (fun q => c2 (gy0.mp q)), neg (by omega) (by omega) (Or.inl c1)]
  · rw [if_neg (fun q => c1 (lx0.mp q))]
    by_cases c2 : y < 0
    · rw [if_pos (ly0.mpr c2)]
      by_cases c3 : 0 < x
      · rw [if_pos (gx0.mpr c3)]
        exact mix (Or.inr ⟨c3, c2⟩)
      · rw [if_neg (fun q => c3 (gx0.mp q)), if_neg (fun q => by have := gy0.mp q; omega), neg (by omega) (by omega) (Or.inr c2)]
    · rw [if_neg (fun q => c2 (ly0.mp q))]
      by_cases c3 : x = 0
      · rw [if_pos (qx0.mpr c3)]
        by_cases c4 : y = 0
        · rw [if_pos (qy0.mpr c4), show gsgn (gph x y) = 0 by unfold gsgn; rw [if_neg (by have := (gph_0 (x := x) (y := y) hy).mpr ⟨c3, c4⟩; omega), if_pos ((gph_0 hy).mpr ⟨c3, c4⟩)]]
        · rw [if_neg (fun q => c4 (qy0.mp q)), pos (by omega) (by omega) (Or.inr (by omega))]
      · rw [if_neg (fun q => c3 (qx0.mp q)), pos (by omega) (by omega) (Or.inl (by omega))]
theorem x_compare {o o' : Nat} (hk : ∀ I J, gb_k (gb_mk I J) o 8 = true) (hk' : ∀ I J, gb_k (gb_mk I J) o' 8 = true) {u v u' v' : Int} {w w' : Nat} (e0 : J o 0 = iL u) (e1 : J o 1 = iL v) (e2 : J o 2 = lN w) (f0 : J o' 0 = iL u') (f1 : J o' 1 = iL v') (f2 : J o' 2 = lN w') (w0 : 0 < w) (w0' : 0 < w') (hw : w < 2 ^ 63) (hw' : w' < 2 ^ 63)
    (bx : (u * (w' / Nat.gcd w w' : Nat) - u' * (w / Nat.gcd w w' : Nat)).natAbs ≤ 1000000000000000) (by' : (v * (w' / Nat.gcd w w' : Nat) - v' * (w / Nat.gcd w w' : Nat)).natAbs ≤ 1000000000000000) :
    fnX8_compareShare o o' (gb_mk I J) = some (gsgn (gph (u * (w' / Nat.gcd w w' : Nat) - u' * (w / Nat.gcd w w' : Nat)) (v * (w' / Nat.gcd w w' : Nat) - v' * (w / Nat.gcd w w' : Nat))), gb_mk I J) := by
  have g0 : 0 < Nat.gcd w w' := Nat.gcd_pos_of_pos_left _ w0
  have gl : Nat.gcd w w' < 2 ^ 63 := gb_gcd_lt hw hw'
  have z : gb_nzL (lN (Nat.gcd w w')) = true := gb_nzL_of (fun q => by have := (gL_eq0 gl).mp q; omega)
  have sb : ∀ x y : Int, iL x - iL y = iL (x - y) := fun x y => by rw [Int64.sub_eq_add_neg, iL_neg, iL_add, Int.sub_eq_add_neg]
  unfold fnX8_compareShare
  rw [hk, gb_gd_t, hk', gb_gd_t, gb_L_mk, e2, f2, x_gcd hw hw', gb_bd_s, if_pos (show (0 : Int64) < lN (Nat.gcd w w') by rw [Int64.lt_iff_toInt_lt, gL_toInt gl, show Int64.toInt 0 = 0 from rfl]; omega), hk', gb_gd_t, z, gb_gd_t, gb_lt_d, hk, gb_gd_t, gb_gd_t, gb_lt_d, gb_gd_t, gb_gd_t, gb_gd_t, gb_gd_t, gb_L_mk, e2, f2, gL_div hw' gl, gL_div hw gl, e0, e1, f0, f1, lN_iL, lN_iL, iL_mul, iL_mul, iL_mul, iL_mul, sb, sb, x_signOf bx by', gb_bd_s]
end SIGNE
