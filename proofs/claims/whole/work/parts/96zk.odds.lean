section ODDS2
variable {I I' I1 I2 : gb_FI} {J J' J1 J2 : gb_FJ} {o n k : Nat}
theorem gb_od_b (k : Nat) : 1 ≤ gb_od k ∧ gb_od k ≤ 6 := by
  unfold gb_od
  split <;> split <;> decide
/-- the size squared of a number: its whole part, its root's part -/
def qU (X : gb_q) : Int64 := X.1 * X.1 + 2 * X.2.1 * X.2.1 + X.2.2.1 * X.2.2.1 + 2 * X.2.2.2 * X.2.2.2
def qV (X : gb_q) : Int64 := 2 * (X.1 * X.2.1 + X.2.2.1 * X.2.2.2)
theorem x_wU (hB : gb_BM o n) (hk : gb_sk k) (hp : gb_kp k < n) : fnX0_weightWhole o (nI k) (gb_mk I J) = some (qU (gq J o (gb_kp k)) * lN (gb_od k), gb_mk I J) := by
  obtain ⟨hn, hO⟩ := hB
  have k0 : ∀ (I : gb_FI) (J : gb_FJ), gb_k (gb_mk I J) o 0 = true := fun I J => (hO I J).1
  have r2 : ∀ (I : gb_FI) (J : gb_FJ), gb_R (gb_mk I J) o 2 = some (o + 3) := fun I J => (hO I J).2.2.2.1
  have r3 : ∀ (I : gb_FI) (J : gb_FJ), gb_R (gb_mk I J) o 3 = some (o + 4) := fun I J => (hO I J).2.2.2.2.1
  have r4 : ∀ (I : gb_FI) (J : gb_FJ), gb_R (gb_mk I J) o 4 = some (o + 5) := fun I J => (hO I J).2.2.2.2.2.1
  have r5 : ∀ (I : gb_FI) (J : gb_FJ), gb_R (gb_mk I J) o 5 = some (o + 6) := fun I J => (hO I J).2.2.2.2.2.2.1
  have d3 : ∀ (I : gb_FI) (J : gb_FJ), gb_kd (gb_mk I J) (o + 3) = (23, n) := fun I J => (hO I J).2.2.2.2.2.2.2.2.2.1
  have d4 : ∀ (I : gb_FI) (J : gb_FJ), gb_kd (gb_mk I J) (o + 4) = (23, n) := fun I J => (hO I J).2.2.2.2.2.2.2.2.2.2.1
  have d5 : ∀ (I : gb_FI) (J : gb_FJ), gb_kd (gb_mk I J) (o + 5) = (23, n) := fun I J => (hO I J).2.2.2.2.2.2.2.2.2.2.2.1
  have d6 : ∀ (I : gb_FI) (J : gb_FJ), gb_kd (gb_mk I J) (o + 6) = (23, n) := fun I J => (hO I J).2.2.2.2.2.2.2.2.2.2.2.2
  have kk3 : ∀ (I : gb_FI) (J : gb_FJ), gb_k (gb_mk I J) (o + 3) 23 = true := fun I J => by simp [gb_k, d3]
  have kk4 : ∀ (I : gb_FI) (J : gb_FJ), gb_k (gb_mk I J) (o + 4) 23 = true := fun I J => by simp [gb_k, d4]
  have kk5 : ∀ (I : gb_FI) (J : gb_FJ), gb_k (gb_mk I J) (o + 5) 23 = true := fun I J => by simp [gb_k, d5]
  have kk6 : ∀ (I : gb_FI) (J : gb_FJ), gb_k (gb_mk I J) (o + 6) 23 = true := fun I J => by simp [gb_k, d6]
  have i3 : ∀ (I : gb_FI) (J : gb_FJ), gb_in (gb_mk I J) (o + 3) (nI (gb_kp k)) = true := fun I J => gb_in_k (by rw [d3]) hp (by omega)
  have i4 : ∀ (I : gb_FI) (J : gb_FJ), gb_in (gb_mk I J) (o + 4) (nI (gb_kp k)) = true := fun I J => gb_in_k (by rw [d4]) hp (by omega)
  have i5 : ∀ (I : gb_FI) (J : gb_FJ), gb_in (gb_mk I J) (o + 5) (nI (gb_kp k)) = true := fun I J => gb_in_k (by rw [d5]) hp (by omega)
  have i6 : ∀ (I : gb_FI) (J : gb_FJ), gb_in (gb_mk I J) (o + 6) (nI (gb_kp k)) = true := fun I J => gb_in_k (by rw [d6]) hp (by omega)
  have ob := gb_od_b k
  unfold fnX0_weightWhole qU gq
  simp (disch := omega) only [x_place hk, gb_lt_d, gb_gd_t, gb_rd_s, gb_bd_s, gb_I_mk, gb_L_mk, gb_sI_mk, gb_sL_mk, k0, r2, r3, r4, r5, kk3, kk4, kk5, kk6, i3, i4, i5, i6, nI_clamp, x_orders hk, nI_L]
theorem x_wV (hB : gb_BM o n) (hk : gb_sk k) (hp : gb_kp k < n) : fnX0_weightRoot o (nI k) (gb_mk I J) = some (qV (gq J o (gb_kp k)) * lN (gb_od k), gb_mk I J) := by
  obtain ⟨hn, hO⟩ := hB
  have k0 : ∀ (I : gb_FI) (J : gb_FJ), gb_k (gb_mk I J) o 0 = true := fun I J => (hO I J).1
  have r2 : ∀ (I : gb_FI) (J : gb_FJ), gb_R (gb_mk I J) o 2 = some (o + 3) := fun I J => (hO I J).2.2.2.1
  have r3 : ∀ (I : gb_FI) (J : gb_FJ), gb_R (gb_mk I J) o 3 = some (o + 4) := fun I J => (hO I J).2.2.2.2.1
  have r4 : ∀ (I : gb_FI) (J : gb_FJ), gb_R (gb_mk I J) o 4 = some (o + 5) := fun I J => (hO I J).2.2.2.2.2.1
  have r5 : ∀ (I : gb_FI) (J : gb_FJ), gb_R (gb_mk I J) o 5 = some (o + 6) := fun I J => (hO I J).2.2.2.2.2.2.1
  have d3 : ∀ (I : gb_FI) (J : gb_FJ), gb_kd (gb_mk I J) (o + 3) = (23, n) := fun I J => (hO I J).2.2.2.2.2.2.2.2.2.1
  have d4 : ∀ (I : gb_FI) (J : gb_FJ), gb_kd (gb_mk I J) (o + 4) = (23, n) := fun I J => (hO I J).2.2.2.2.2.2.2.2.2.2.1
  have d5 : ∀ (I : gb_FI) (J : gb_FJ), gb_kd (gb_mk I J) (o + 5) = (23, n) := fun I J => (hO I J).2.2.2.2.2.2.2.2.2.2.2.1
  have d6 : ∀ (I : gb_FI) (J : gb_FJ), gb_kd (gb_mk I J) (o + 6) = (23, n) := fun I J => (hO I J).2.2.2.2.2.2.2.2.2.2.2.2
  have kk3 : ∀ (I : gb_FI) (J : gb_FJ), gb_k (gb_mk I J) (o + 3) 23 = true := fun I J => by simp [gb_k, d3]
  have kk4 : ∀ (I : gb_FI) (J : gb_FJ), gb_k (gb_mk I J) (o + 4) 23 = true := fun I J => by simp [gb_k, d4]
  have kk5 : ∀ (I : gb_FI) (J : gb_FJ), gb_k (gb_mk I J) (o + 5) 23 = true := fun I J => by simp [gb_k, d5]
  have kk6 : ∀ (I : gb_FI) (J : gb_FJ), gb_k (gb_mk I J) (o + 6) 23 = true := fun I J => by simp [gb_k, d6]
  have i3 : ∀ (I : gb_FI) (J : gb_FJ), gb_in (gb_mk I J) (o + 3) (nI (gb_kp k)) = true := fun I J => gb_in_k (by rw [d3]) hp (by omega)
  have i4 : ∀ (I : gb_FI) (J : gb_FJ), gb_in (gb_mk I J) (o + 4) (nI (gb_kp k)) = true := fun I J => gb_in_k (by rw [d4]) hp (by omega)
  have i5 : ∀ (I : gb_FI) (J : gb_FJ), gb_in (gb_mk I J) (o + 5) (nI (gb_kp k)) = true := fun I J => gb_in_k (by rw [d5]) hp (by omega)
  have i6 : ∀ (I : gb_FI) (J : gb_FJ), gb_in (gb_mk I J) (o + 6) (nI (gb_kp k)) = true := fun I J => gb_in_k (by rw [d6]) hp (by omega)
  have ob := gb_od_b k
  unfold fnX0_weightRoot qV gq
  simp (disch := omega) only [x_place hk, gb_lt_d, gb_gd_t, gb_rd_s, gb_bd_s, gb_I_mk, gb_L_mk, gb_sI_mk, gb_sL_mk, k0, r2, r3, r4, r5, kk3, kk4, kk5, kk6, i3, i4, i5, i6, nI_clamp, x_orders hk, nI_L]
end ODDS2
