section SIGND
variable {I I' : gb_FI} {J J' : gb_FJ}
/-- the reference's square in two halves -/
def gsqJ (J : gb_FJ) (z : Int64) (v : Nat) : gb_FJ := gb_u (gb_u (gb_u J 241 56 z) 241 55 (lN (v * v / 1125899906842624))) 241 56 (lN (v * v % 1125899906842624))
theorem gsq_a (hh m ll : Nat) : hh + m / 33554432 + (ll + m % 33554432 * 33554432) / 1125899906842624 = (1125899906842624 * hh + 33554432 * m + ll) / 1125899906842624 := by
  have e : 1125899906842624 * hh + 33554432 * m + ll = 1125899906842624 * (hh + m / 33554432) + (ll + m % 33554432 * 33554432) := by omega
  rw [e, Nat.mul_add_div (by decide)]
theorem gsq_b (hh m ll : Nat) : (ll + m % 33554432 * 33554432) % 1125899906842624 = (1125899906842624 * hh + 33554432 * m + ll) % 1125899906842624 := by
  have e : 1125899906842624 * hh + 33554432 * m + ll = 1125899906842624 * (hh + m / 33554432) + (ll + m % 33554432 * 33554432) := by omega
  rw [e, Nat.mul_add_mod]
theorem gsq_c (B : Nat) : 2 * (B / 1125899906842624) + 2 * (B % 1125899906842624) / 1125899906842624 = 2 * B / 1125899906842624 ∧ 2 * (B % 1125899906842624) % 1125899906842624 = 2 * B % 1125899906842624 := by
  have e : 2 * B = 1125899906842624 * (2 * (B / 1125899906842624)) + 2 * (B % 1125899906842624) := by omega
  exact ⟨by rw [e, Nat.mul_add_div (by decide)], by rw [e, Nat.mul_add_mod]⟩
theorem gsq_d (A B : Nat) : (A / 1125899906842624 = B / 1125899906842624 → (B < A ↔ B % 1125899906842624 < A % 1125899906842624)) ∧ (A / 1125899906842624 ≠ B / 1125899906842624 → (B < A ↔ B / 1125899906842624 < A / 1125899906842624)) := by
  have e1 := Nat.div_add_mod A 1125899906842624
  have e2 := Nat.div_add_mod B 1125899906842624
  have l1 := Nat.mod_lt A (show 1125899906842624 > 0 by decide)
  have l2 := Nat.mod_lt B (show 1125899906842624 > 0 by decide)
  generalize A / 1125899906842624 = qa at *
  generalize B / 1125899906842624 = qb at *
  generalize A % 1125899906842624 = ra at *
  generalize B % 1125899906842624 = rb at *
  omega
theorem m_squares {v : Nat} (hv : v < 1125899906842624) : ∃ z, fnX11_squares 241 (lN v) (gb_mk I J) = some ((), gb_mk I (gsqJ J z v)) := by
  obtain ⟨h, l, hl, hh, rfl⟩ : ∃ h l, l < 33554432 ∧ h < 33554432 ∧ v = 33554432 * h + l := ⟨v / 33554432, v % 33554432, by omega, by omega, by omega⟩
  have q1 : (33554432 * h + l) / 33554432 = h := by omega
  have q2 : (33554432 * h + l) % 33554432 = l := by omega
  have b1 : h * l ≤ 33554431 * 33554431 := Nat.mul_le_mul (by omega) (by omega)
  have b2 : l * l ≤ 33554431 * 33554431 := Nat.mul_le_mul (by omega) (by omega)
  have b3 : h * h ≤ 33554431 * 33554431 := Nat.mul_le_mul (by omega) (by omega)
  have e : (33554432 * h + l) * (33554432 * h + l) = 1125899906842624 * (h * h) + 33554432 * (2 * (h * l)) + l * l := by
    rw [Nat.add_mul, Nat.mul_add, Nat.mul_add, Nat.mul_mul_mul_comm, Nat.mul_assoc 33554432 h l, Nat.mul_comm l (33554432 * h), Nat.mul_assoc 33554432 h l]
    omega
  have e2 : 2 * h * l = 2 * (h * l) := Nat.mul_assoc _ _ _
  refine ⟨lN (l * l + 2 * (h * l) % 33554432 * 33554432), ?_⟩
  unfold fnX11_squares gsqJ
  rw [gb_lt_d, gb_lt_d, gb_lt_d, gL_s25 (by omega), gL_m25 (by omega), q1, q2, show (2 : Int64) = lN 2 from rfl, lN_mul 2 h, lN_mul (2 * h) l, e2, gk241, gb_gd_t, gb_lt_d, gb_sL_mk, gL_m25 (by omega), gL_l25 (by omega), lN_mul l l, lN_add, gk241, gb_gd_t, gb_gd_t, gb_lt_d, gb_sL_mk, gb_L_mk, gb_u_s, gL_s25 (by omega), gL_s50 (by omega), lN_mul h h, lN_add, lN_add, gk241, gb_gd_t, gb_gd_t, gb_lt_d, gb_sL_mk, gb_L_mk, gb_u_nk _ _ (show 56 ≠ 55 by decide), gb_u_s, gL_m50 (by omega), e]
  generalize h * h = hh2 at *
  generalize h * l = hl2 at *
  generalize l * l = ll2 at *
  rw [gsq_a hh2 (2 * hl2) ll2, gsq_b hh2 (2 * hl2) ll2]
theorem gsqJ_v {z : Int64} {v : Nat} : gsqJ J z v 241 55 = lN (v * v / 1125899906842624) ∧ gsqJ J z v 241 56 = lN (v * v % 1125899906842624) ∧ ∀ x k, ¬ (x = 241 ∧ (k = 55 ∨ k = 56)) → gsqJ J z v x k = J x k := by
  unfold gsqJ
  refine ⟨by rw [gb_u_nk _ _ (by decide), gb_u_s], gb_u_s _ _ _ _, fun x k h => ?_⟩
  rw [gb_u1, if_neg (fun z => h ⟨z.1, Or.inr z.2⟩), gb_u1, if_neg (fun z => h ⟨z.1, Or.inl z.2⟩), gb_u1, if_neg (fun z => h ⟨z.1, Or.inr z.2⟩)]
def gm_fS (J J' : gb_FJ) : Prop := ∀ x k, ¬ (x = 241 ∧ (k = 55 ∨ k = 56)) → J' x k = J x k
theorem gL_le {a b : Nat} (ha : a < 2 ^ 63) (hb : b < 2 ^ 63) : lN a ≤ lN b ↔ a ≤ b := by
  rw [lN_iL, lN_iL, iL_le (by omega) (by omega)]
  omega
theorem gL_eq {a b : Nat} (ha : a < 2 ^ 63) (hb : b < 2 ^ 63) : lN a = lN b ↔ a = b := by
  rw [lN_iL, lN_iL, iL_eq (by omega) (by omega)]
  omega
/-- the mixed case: a and b are the sizes -/
theorem m_above57 {a b : Nat} (ha : a ≤ 1000000000000000) (hb : b ≤ 1000000000000000) {x y : Int64} (hy : (if (0 : Int64) ≤ y then y else -y) = lN b) : ∃ J', fbX11_isAbove_57 241 x y 241 (lN a) (gb_mk I J) = fbX11_isAbove_159 x y (if 2 * (b * b) < a * a then 1 else 0) (gb_mk I J') ∧ gm_fS J J' := by
  obtain ⟨z1, s1⟩ := m_squares (I := I) (J := J) (v := a) (by omega)
  obtain ⟨z2, s2⟩ := m_squares (I := I) (J := gsqJ J z1 a) (v := b) (by omega)
  obtain ⟨a1, a2, a3⟩ := gsqJ_v (J := J) (z := z1) (v := a)
  obtain ⟨b1, b2, b3⟩ := gsqJ_v (J := gsqJ J z1 a) (z := z2) (v := b)
  refine ⟨gsqJ (gsqJ J z1 a) z2 b, ?_, fun x k h => (b3 x k h).trans (a3 x k h)⟩
  have aa : a * a ≤ 1000000000000000 * 1000000000000000 := Nat.mul_le_mul ha ha
  have bb : b * b ≤ 1000000000000000 * 1000000000000000 := Nat.mul_le_mul hb hb
  unfold fbX11_isAbove_57
  rw [gk241, gb_gd_t, s1, gb_bd_s, gk241, gb_gd_t, gb_lt_d, gb_gd_t, gb_lt_d, gb_L_mk, a1, a2]
  have r : ∀ v3, v3 = lN b → fbX11_isAbove_85 241 x y (lN (a * a / 1125899906842624)) (lN (a * a % 1125899906842624)) 241 v3 (gb_mk I (gsqJ J z1 a)) = fbX11_isAbove_159 x y (if 2 * (b * b) < a * a then 1 else 0) (gb_mk I (gsqJ (gsqJ J z1 a) z2 b)) := fun v3 hv => by
    subst hv
    generalize a * a = A at *
    unfold fbX11_isAbove_85
    rw [gk241, gb_gd_t, s2, gb_bd_s, gk241, gb_gd_t, gb_lt_d, gb_gd_t, gb_lt_d, gb_lt_d, gb_L_mk, b1, b2]
    generalize b * b = B at *
    rw [show (2 : Int64) = lN 2 from rfl, lN_mul, lN_mul, gL_s50 (Nat.lt_of_lt_of_le (show 2 * (B % 1125899906842624) < 2 * 1125899906842624 from Nat.mul_lt_mul_of_pos_left (Nat.mod_lt _ (by decide)) (by decide)) (by decide)), gL_m50 (Nat.lt_of_lt_of_le (show 2 * (B % 1125899906842624) < 2 * 1125899906842624 from Nat.mul_lt_mul_of_pos_left (Nat.mod_lt _ (by decide)) (by decide)) (by decide)), lN_add]
    rw [(gsq_c B).1, (gsq_c B).2]
    have dd := gsq_d A (2 * B)
    have x1 : A / 1125899906842624 < 2 ^ 63 := Nat.lt_of_le_of_lt (Nat.div_le_div_right aa) (by decide)
    have x2 : 2 * B / 1125899906842624 < 2 ^ 63 := Nat.lt_of_le_of_lt (Nat.div_le_div_right (show 2 * B ≤ 2 * (1000000000000000 * 1000000000000000) by omega)) (by decide)
    have x3 : A % 1125899906842624 < 2 ^ 63 := Nat.lt_of_lt_of_le (Nat.mod_lt _ (by decide)) (by decide)
    have x4 : 2 * B % 1125899906842624 < 2 ^ 63 := Nat.lt_of_lt_of_le (Nat.mod_lt _ (by decide)) (by decide)
    by_cases c : A / 1125899906842624 = 2 * B / 1125899906842624
    · have d1 := dd.1 c
      rw [if_pos (show lN (A / 1125899906842624) = lN (2 * B / 1125899906842624) by rw [c])]
      by_cases d : A % 1125899906842624 ≤ 2 * B % 1125899906842624
      · rw [if_pos ((gL_le x3 x4).mpr d), if_neg (fun q => Nat.lt_irrefl _ (Nat.lt_of_lt_of_le (d1.mp q) d))]
      · rw [if_neg (fun q => d ((gL_le x3 x4).mp q)), if_pos (d1.mpr (Nat.lt_of_not_le d))]
    · have d1 := dd.2 c
      rw [if_neg (fun q => c ((gL_eq x1 x2).mp q))]
      by_cases d : A / 1125899906842624 ≤ 2 * B / 1125899906842624
      · rw [if_pos ((gL_le x1 x2).mpr d), if_neg (fun q => Nat.lt_irrefl _ (Nat.lt_of_lt_of_le (d1.mp q) d))]
      · rw [if_neg (fun q => d ((gL_le x1 x2).mp q)), if_pos (d1.mpr (Nat.lt_of_not_le d))]
  by_cases c : (0 : Int64) ≤ y
  · rw [if_pos c] at hy ⊢
    exact r y hy
  · rw [if_neg c] at hy ⊢
    exact r (-y) hy
theorem m_isAbove {x y : Int} (hx : x.natAbs ≤ 1000000000000000) (hy : y.natAbs ≤ 1000000000000000) : ∃ J', fnX11_isAbove 241 (iL x) (iL y) (gb_mk I J) = some (if 0 < gph x y then 1 else 0, gb_mk I J') ∧ gm_fS J J' := by
  have z0 : (0 : Int64) = iL 0 := rfl
  have lx0 : iL x < 0 ↔ x < 0 := by rw [z0]; exact iL_lt (by omega) (by decide)
  have ly0 : iL y < 0 ↔ y < 0 := by rw [z0]; exact iL_lt (by omega) (by decide)
  have gx0 : 0 < iL x ↔ 0 < x := by rw [z0]; exact iL_lt (by decide) (by omega)
  have gy0 : 0 < iL y ↔ 0 < y := by rw [z0]; exact iL_lt (by decide) (by omega)
  have ex0 : iL x ≤ 0 ↔ x ≤ 0 := by rw [z0]; exact iL_le (by omega) (by decide)
  have ey0 : iL y ≤ 0 ↔ y ≤ 0 := by rw [z0]; exact iL_le (by omega) (by decide)
  have ax := iL_abs (z := x) (by omega)
  have ay := iL_abs (z := y) (by omega)
  have mix : (x < 0 ∧ 0 < y) ∨ (0 < x ∧ y < 0) → ∃ J', fbX11_isAbove_44 241 (iL x) (iL y) (gb_mk I J) = some (if 0 < gph x y then 1 else 0, gb_mk I J') ∧ gm_fS J J' := fun hm => by
    obtain ⟨J', s1, s2⟩ := m_above57 (I := I) (J := J) (a := x.natAbs) (b := y.natAbs) (x := iL x) hx hy ay
    refine ⟨J', ?_, s2⟩
    have e44 : fbX11_isAbove_44 241 (iL x) (iL y) (gb_mk I J) = fbX11_isAbove_57 241 (iL x) (iL y) 241 (lN x.natAbs) (gb_mk I J) := by
      unfold fbX11_isAbove_44
      rw [← ax]
      split <;> rfl
    rw [e44, s1]
    unfold fbX11_isAbove_159 fbX11_isAbove_191
    rw [gb_b_0, gb_b_1, gb_gd_t, gb_gd_t]
    rcases hm with ⟨hx', hy'⟩ | ⟨hx', hy'⟩
    · have g := (gph_mp hx' hy' hy).1
      by_cases c : 2 * (y.natAbs * y.natAbs) < x.natAbs * x.natAbs
      · rw [if_pos c, if_neg gb_n10, if_pos (ex0.mpr (by omega)), if_neg (fun q => g.mp q c)]
      · rw [if_neg c, if_pos (show (0 : Int32) = 0 from rfl), if_neg (fun q => by have := ey0.mp q; omega), if_pos (g.mpr c)]
    · have g := (gph_pm hx' hy' hy).1
      by_cases c : 2 * (y.natAbs * y.natAbs) < x.natAbs * x.natAbs
      · rw [if_pos c, if_neg gb_n10, if_neg (fun q => by have := ex0.mp q; omega), if_pos (g.mpr c)]
      · rw [if_neg c, if_pos (show (0 : Int32) = 0 from rfl), if_pos (ey0.mpr (by omega)), if_neg (fun q => c (g.mp q))]
  have neg : x ≤ 0 → y ≤ 0 → ∃ J', (some ((0 : Int32), gb_mk I J) : Option (Int32 × gb_H)) = some (if 0 < gph x y then 1 else 0, gb_mk I J') ∧ gm_fS J J' := fun h1 h2 => ⟨J, by rw [if_neg (by have := (gph_np h1 h2).1; omega)], fun _ _ _ => rfl⟩
  unfold fnX11_isAbove fbX11_isAbove_30 fbX11_isAbove_24 fbX11_isAbove_29
  rw [gb_b_0, gb_b_1, gb_gd_t, gb_gd_t]
  by_cases c1 : x < 0
  · rw [if_pos (lx0.mpr c1), if_neg (fun q => by have := gx0.mp q; omega)]
    by_cases c2 : 0 < y
    · rw [if_pos (gy0.mpr c2)]
      exact mix (Or.inl ⟨c1, c2⟩)
    · rw [if_neg (fun q => c2 (gy0.mp q))]
      exact neg (by omega) (by omega)
  · rw [if_neg (fun q => c1 (lx0.mp q))]
    by_cases c2 : y < 0
    · rw [if_pos (ly0.mpr c2)]
      by_cases c3 : 0 < x
      · rw [if_pos (gx0.mpr c3)]
        exact mix (Or.inr ⟨c3, c2⟩)
      · rw [if_neg (fun q => c3 (gx0.mp q)), if_neg (fun q => by have := gy0.mp q; omega)]
        exact neg (by omega) (by omega)
    · rw [if_neg (fun q => c2 (ly0.mp q))]
      have nn := gph_nn (x := x) (y := y) (by omega) (by omega)
      by_cases c3 : 0 < x
      · rw [if_pos (gx0.mpr c3)]
        exact ⟨J, by rw [if_pos (nn.mpr (Or.inl c3))], fun _ _ _ => rfl⟩
      · rw [if_neg (fun q => c3 (gx0.mp q))]
        by_cases c4 : y ≤ 0
        · rw [if_pos (ey0.mpr c4)]
          exact ⟨J, by rw [if_neg (fun q => by have := nn.mp q; omega)], fun _ _ _ => rfl⟩
        · rw [if_neg (fun q => c4 (ey0.mp q))]
          exact ⟨J, by rw [if_pos (nn.mpr (Or.inr (by omega)))], fun _ _ _ => rfl⟩
end SIGND
