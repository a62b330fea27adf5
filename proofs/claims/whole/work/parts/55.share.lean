section SHARE
variable {I I' : gb_FI} {J J' : gb_FJ}
theorem iL_abs' {z : Int} (h : z.natAbs < 2 ^ 63) : (if (0 : Int64) < iL z then iL z else -(iL z)) = lN z.natAbs := by
  apply Int64.toInt_inj.mp
  rw [gL_toInt h]
  by_cases c : (0 : Int64) < iL z
  · rw [if_pos c, iL_toInt h]
    rw [Int64.lt_iff_toInt_lt, iL_toInt h, show Int64.toInt 0 = 0 from rfl] at c
    omega
  · rw [if_neg c, Int64.toInt_neg, iL_toInt h]
    rw [Int64.lt_iff_toInt_lt, iL_toInt h, show Int64.toInt 0 = 0 from rfl] at c
    rw [show ((z.natAbs : Nat) : Int) = -z by omega]
    apply Int.bmod_eq_of_le
    · simp; omega
    · simp; omega
/-- the divisor of three -/
def gb_g3 (u v : Int) (w : Nat) : Nat := Nat.gcd (Nat.gcd u.natAbs v.natAbs) w
theorem gb_g3_pos {u v : Int} {w : Nat} (hw : 0 < w) : 0 < gb_g3 u v w := Nat.gcd_pos_of_pos_right _ hw
theorem gb_g3_le {u v : Int} {w : Nat} (hw : 0 < w) : gb_g3 u v w ≤ w := Nat.gcd_le_right _ hw
theorem gb_gcd_lt {x y : Nat} (hx : x < 2 ^ 63) (hy : y < 2 ^ 63) : Nat.gcd x y < 2 ^ 63 := by
  rcases Nat.eq_zero_or_pos y with e | e
  · subst e; rw [Nat.gcd_zero_right]; exact hx
  · exact Nat.lt_of_le_of_lt (Nat.gcd_le_right _ e) hy
theorem x_put {p0 : Nat} (hk : ∀ I J, gb_k (gb_mk I J) p0 8 = true) {u v : Int} {w : Nat} (hu : u.natAbs < 2 ^ 63) (hv : v.natAbs < 2 ^ 63) (hw : w < 2 ^ 63) (hw0 : 0 < w) :
    fnX8_put p0 (iL u) (iL v) (lN w) (gb_mk I J) = some ((), gb_mk I (gb_u (gb_u (gb_u J p0 0 (iL (u.tdiv (gb_g3 u v w)))) p0 1 (iL (v.tdiv (gb_g3 u v w)))) p0 2 (lN (w / gb_g3 u v w)))) := by
  have hg := gb_g3_pos (u := u) (v := v) hw0
  have hl := gb_g3_le (u := u) (v := v) hw0
  have a := gb_gcd_lt hu hv
  have d1 : iL u / lN (gb_g3 u v w) = iL (u.tdiv (gb_g3 u v w)) := by rw [lN_iL, iL_div hu (by omega)]
  have d2 : iL v / lN (gb_g3 u v w) = iL (v.tdiv (gb_g3 u v w)) := by rw [lN_iL, iL_div hv (by omega)]
  have d3 : lN w / lN (gb_g3 u v w) = lN (w / gb_g3 u v w) := gL_div hw (by omega)
  have z : gb_nzL (lN (gb_g3 u v w)) = true := gb_nzL_of (fun q => by have := (gL_eq0 (by omega)).mp q; omega)
  simp only [fnX8_put, iL_abs' hu, iL_abs' hv, x_gcd hu hv, gb_lt_d, gb_gd_t, gb_rd_s, gb_bd_s, gb_I_mk, gb_L_mk, gb_sI_mk, gb_sL_mk, x_gcd a hw]
  rw [show Nat.gcd (Nat.gcd u.natAbs v.natAbs) w = gb_g3 u v w from rfl]
  rw [if_pos (show (0 : Int64) < lN (gb_g3 u v w) by rw [Int64.lt_iff_toInt_lt, gL_toInt (by omega), show Int64.toInt 0 = 0 from rfl]; omega)]
  simp only [gb_lt_d, gb_gd_t, gb_rd_s, gb_bd_s, gb_I_mk, gb_L_mk, gb_sI_mk, gb_sL_mk, hk, z, d1, d2, d3]
end SHARE
