section SCALE
variable {I I' I1 I2 : gb_FI} {J J' J1 J2 : gb_FJ} {o n : Nat} {kl : List Nat}
/-- a number behind quarter turns; a number times a factor, roots and quarter turns -/
def gtu (B : gb_q) (u : Nat) : gb_q := if u = 0 then B else if u = 1 then (-B.2.2.1, -B.2.2.2, B.1, B.2.1) else if u = 2 then (-B.1, -B.2.1, -B.2.2.1, -B.2.2.2) else (B.2.2.1, B.2.2.2, -B.1, -B.2.1)
def gyr (X : gb_q) (T : Int64) (r : Nat) : gb_q := if r % 2 = 1 then (T * (2 * X.2.1), T * X.1, T * (2 * X.2.2.2), T * X.2.2.1) else (T * X.1, T * X.2.1, T * X.2.2.1, T * X.2.2.2)
def gy (X : gb_q) (f : Int64) (r t : Nat) : gb_q := gtu (gyr X (if r < 2 then f else 2 * f) r) (t % 4)
theorem gy_F (X F : gb_q) (f : Int64) {r : Nat} (hr : r ≤ 3) (t : Nat) : q4 (gy X f r t) F = q4 X (qM f r t F) := by
  unfold qM
  rw [qIn_mod t F]
  unfold gy gtu gyr
  have ht : t % 4 < 4 := Nat.mod_lt _ (by decide)
  generalize t % 4 = u at *
  match r, hr, u, ht with
  | 0, _, 0, _ => simp [q4, qS, qRn, qIn]; grind
  | 0, _, 1, _ => simp [q4, qS, qRn, qIn, qI]; grind
  | 0, _, 2, _ => simp [q4, qS, qRn, qIn, qI]; grind
  | 0, _, 3, _ => simp [q4, qS, qRn, qIn, qI]; grind
  | 1, _, 0, _ => simp [q4, qS, qRn, qIn, qR]; grind
  | 1, _, 1, _ => simp [q4, qS, qRn, qIn, qI, qR]; grind
  | 1, _, 2, _ => simp [q4, qS, qRn, qIn, qI, qR]; grind
  | 1, _, 3, _ => simp [q4, qS, qRn, qIn, qI, qR]; grind
  | 2, _, 0, _ => simp [q4, qS, qRn, qIn, qR]; grind
  | 2, _, 1, _ => simp [q4, qS, qRn, qIn, qI, qR]; grind
  | 2, _, 2, _ => simp [q4, qS, qRn, qIn, qI, qR]; grind
  | 2, _, 3, _ => simp [q4, qS, qRn, qIn, qI, qR]; grind
  | 3, _, 0, _ => simp [q4, qS, qRn, qIn, qR]; grind
  | 3, _, 1, _ => simp [q4, qS, qRn, qIn, qI, qR]; grind
  | 3, _, 2, _ => simp [q4, qS, qRn, qIn, qI, qR]; grind
  | 3, _, 3, _ => simp [q4, qS, qRn, qIn, qI, qR]; grind
theorem gb_and3 : ∀ t, t < 32 → nI t &&& (3 : Int32) = nI (t % 4) := by decide
theorem gb_bdu {f : Option (Unit × gb_H)} : (gb_bd f fun _ h => some ((), h)) = f := by
  cases f with
  | none => rfl
  | some x => obtain ⟨⟨⟩, h⟩ := x; rfl
theorem x_addScaled {o' n' k p r t : Nat} (hB : gb_BM o n) (hB' : gb_BM o' n') (hk : gb_sk k) (hp : p < n) (hr : r ≤ 3) (ht : t < 32) (f : Int64) : fnX0_addScaled o' (nI k) f (nI r) (nI t) o (nI p) (gb_mk I J) = fnX0_add o' (nI k) (nI (gb_kp k)) (gy (gq J o p) f r t).1 (gy (gq J o p) f r t).2.1 (gy (gq J o p) f r t).2.2.1 (gy (gq J o p) f r t).2.2.2 (gb_mk I J) := by
  have k0' : ∀ (I : gb_FI) (J : gb_FJ), gb_k (gb_mk I J) o' 0 = true := fun I J => (hB'.2 I J).1
  obtain ⟨hn, hO⟩ := hB
  have k0 : ∀ (I : gb_FI) (J : gb_FJ), gb_k (gb_mk I J) o 0 = true := fun I J => (hO I J).1
  have r2 : ∀ (I : gb_FI) (J : gb_FJ), gb_R (gb_mk I J) o 2 = some (o + 3) := fun I J => (hO I J).2.2.2.1
  have r3 : ∀ (I : gb_FI) (J : gb_FJ), gb_R (gb_mk I J) o 3 = some (o + 4) := fun I J => (hO I J).2.2.2.2.1
  have r4 : ∀ (I : gb_FI) (J : gb_FJ), gb_R (gb_mk I J) o 4 = some (o + 5) := fun I J => (hO I J).2.2.2.2.2.1
  have r5 : ∀ (I : gb_FI) (J : gb_FJ), gb_R (gb_mk I J) o 5 = some (o + 6) := fun I J => (hO I J).2.2.2.2.2.2.1
  have d3 : ∀ (I : gb_FI) (J : gb_FJ), gb_kd (gb_mk I J) (o + 3) = (23, n) := fun I J => (hO I J).2.2.2.2.2.2.2.2.2.1
  have d4 : ∀ (I : gb_FI) (J : gb_FJ), gb_kd (gb_mk I J) (o + 4) = (23, n) := fun I J => (hO I J).2.2.2.2.2.2.2.2.2.2.1
  have d5 : ∀ (I : gb_FI) (J : gb_FJ), gb_kd (gb_mk I J) (o + 5) = (23, n) := fun I J => (hO I J).2.2.2.2.2.2.2.2.2.2.2.1
  have d6 : ∀ (I : gb_FI) (J : gb_FJ), gb_kd (gb_mk I J) (o + 6) = (23, n) := fun I J => (hO I J).2.2.2.2.2.2.2.2.2.2.2.2
  have kk3 : ∀ (I : gb_FI) (J : gb_FJ), gb_k (gb_mk I J) (o + 3) 23 = true := fun I J => by simp [gb_k, d3]
  have kk4 : ∀ (I : gb_FI) (J : gb_FJ), gb_k (gb_mk I J) (o + 4) 23 = true := fun I J => by simp [gb_k, d4]
  have kk5 : ∀ (I : gb_FI) (J : gb_FJ), gb_k (gb_mk I J) (o + 5) 23 = true := fun I J => by simp [gb_k, d5]
  have kk6 : ∀ (I : gb_FI) (J : gb_FJ), gb_k (gb_mk I J) (o + 6) 23 = true := fun I J => by simp [gb_k, d6]
  have i3 : ∀ (I : gb_FI) (J : gb_FJ), gb_in (gb_mk I J) (o + 3) (nI p) = true := fun I J => gb_in_k (by rw [d3]) hp (by omega)
  have i4 : ∀ (I : gb_FI) (J : gb_FJ), gb_in (gb_mk I J) (o + 4) (nI p) = true := fun I J => gb_in_k (by rw [d4]) hp (by omega)
  have i5 : ∀ (I : gb_FI) (J : gb_FJ), gb_in (gb_mk I J) (o + 5) (nI p) = true := fun I J => gb_in_k (by rw [d5]) hp (by omega)
  have i6 : ∀ (I : gb_FI) (J : gb_FJ), gb_in (gb_mk I J) (o + 6) (nI p) = true := fun I J => gb_in_k (by rw [d6]) hp (by omega)
  have l159 : ∀ A B C s0 s1, fbX0_addScaled_159 o' (nI k) (nI t) (nI (gb_kp k)) A B C s0 s1 (gb_mk I J) = fnX0_add o' (nI k) (nI (gb_kp k)) (gtu (A, B, C, s0 * s1) (t % 4)).1 (gtu (A, B, C, s0 * s1) (t % 4)).2.1 (gtu (A, B, C, s0 * s1) (t % 4)).2.2.1 (gtu (A, B, C, s0 * s1) (t % 4)).2.2.2 (gb_mk I J) := by
    intro A B C s0 s1
    have u4 : t % 4 < 4 := Nat.mod_lt _ (by decide)
    unfold fbX0_addScaled_159 fbX0_addScaled_269
    rw [gb_lt_d, gb_lt_d, gb_and3 t ht, k0', gb_gd_t, gb_gd_t, gb_gd_t, gb_gd_t, gb_bdu, gb_bdu, gb_bdu, gb_bdu]
    unfold gtu
    generalize t % 4 = u at *
    match u, u4 with
    | 0, _ => rfl
    | 1, _ => rfl
    | 2, _ => rfl
    | 3, _ => rfl
  have fin : ∀ (T : Int64), fbX0_addScaled_21 o' (nI k) (nI r) (nI t) o (nI p) (nI (gb_kp k)) T (gb_mk I J) = fnX0_add o' (nI k) (nI (gb_kp k)) (gtu (gyr (gq J o p) T r) (t % 4)).1 (gtu (gyr (gq J o p) T r) (t % 4)).2.1 (gtu (gyr (gq J o p) T r) (t % 4)).2.2.1 (gtu (gyr (gq J o p) T r) (t % 4)).2.2.2 (gb_mk I J) := by
    intro T
    have ro : ∀ r, r ≤ 3 → ((nI r &&& (1 : Int32) = 1) ↔ r % 2 = 1) := by
      intro r hr
      match r, hr with
      | 0, _ => decide
      | 1, _ => decide
      | 2, _ => decide
      | 3, _ => decide
    have c : (nI p).toNatClampNeg = p := nI_clamp (by omega)
    unfold fbX0_addScaled_21 gyr
    by_cases q : r % 2 = 1
    · rw [if_pos ((ro r hr).mpr q), if_pos q]
      unfold fbX0_addScaled_36
      rw [if_neg gb_n10, k0, gb_gd_t, r3, gb_rd_s, kk4, gb_gd_t, i4, gb_gd_t, gb_L_mk, c]
      unfold fbX0_addScaled_68
      rw [gb_lt_d, if_neg gb_n10, k0, gb_gd_t, r2, gb_rd_s, kk3, gb_gd_t, i3, gb_gd_t, gb_L_mk, c]
      unfold fbX0_addScaled_97
      rw [gb_lt_d, if_neg gb_n10, k0, gb_gd_t, r5, gb_rd_s, kk6, gb_gd_t, i6, gb_gd_t, gb_L_mk, c]
      unfold fbX0_addScaled_130
      rw [gb_lt_d, if_neg gb_n10, k0, gb_gd_t, r4, gb_rd_s, kk5, gb_gd_t, i5, gb_gd_t, gb_L_mk, c, l159]
      rfl
    · rw [if_neg (fun w => q ((ro r hr).mp w)), if_neg q]
      unfold fbX0_addScaled_36
      rw [if_pos (show (0 : Int32) = 0 from rfl), k0, gb_gd_t, r2, gb_rd_s, kk3, gb_gd_t, i3, gb_gd_t, gb_L_mk, c]
      unfold fbX0_addScaled_68
      rw [gb_lt_d, if_pos (show (0 : Int32) = 0 from rfl), k0, gb_gd_t, r3, gb_rd_s, kk4, gb_gd_t, i4, gb_gd_t, gb_L_mk, c]
      unfold fbX0_addScaled_97
      rw [gb_lt_d, if_pos (show (0 : Int32) = 0 from rfl), k0, gb_gd_t, r4, gb_rd_s, kk5, gb_gd_t, i5, gb_gd_t, gb_L_mk, c]
      unfold fbX0_addScaled_130
      rw [gb_lt_d, if_pos (show (0 : Int32) = 0 from rfl), k0, gb_gd_t, r5, gb_rd_s, kk6, gb_gd_t, i6, gb_gd_t, gb_L_mk, c, l159]
      rfl
  unfold fnX0_addScaled gy
  rw [x_place hk, gb_bd_s]
  by_cases q : r < 2
  · rw [if_pos (show nI r < 2 from nI_lt (a := r) (b := 2) q (by omega)), fin f, if_pos q]
  · rw [if_neg (show ¬ nI r < 2 from nI_nlt (a := r) (b := 2) (by omega) (by omega)), fin (2 * f), if_neg q]
theorem x_isZero {p : Nat} (hB : gb_BM o n) (hp : p < n) : fnX0_isZero o (nI p) (gb_mk I J) = some (if gq J o p = qZ then 1 else 0, gb_mk I J) := by
  obtain ⟨hn, hO⟩ := hB
  have k0 : ∀ (I : gb_FI) (J : gb_FJ), gb_k (gb_mk I J) o 0 = true := fun I J => (hO I J).1
  have r2 : ∀ (I : gb_FI) (J : gb_FJ), gb_R (gb_mk I J) o 2 = some (o + 3) := fun I J => (hO I J).2.2.2.1
  have r3 : ∀ (I : gb_FI) (J : gb_FJ), gb_R (gb_mk I J) o 3 = some (o + 4) := fun I J => (hO I J).2.2.2.2.1
  have r4 : ∀ (I : gb_FI) (J : gb_FJ), gb_R (gb_mk I J) o 4 = some (o + 5) := fun I J => (hO I J).2.2.2.2.2.1
  have r5 : ∀ (I : gb_FI) (J : gb_FJ), gb_R (gb_mk I J) o 5 = some (o + 6) := fun I J => (hO I J).2.2.2.2.2.2.1
  have d3 : ∀ (I : gb_FI) (J : gb_FJ), gb_kd (gb_mk I J) (o + 3) = (23, n) := fun I J => (hO I J).2.2.2.2.2.2.2.2.2.1
  have d4 : ∀ (I : gb_FI) (J : gb_FJ), gb_kd (gb_mk I J) (o + 4) = (23, n) := fun I J => (hO I J).2.2.2.2.2.2.2.2.2.2.1
  have d5 : ∀ (I : gb_FI) (J : gb_FJ), gb_kd (gb_mk I J) (o + 5) = (23, n) := fun I J => (hO I J).2.2.2.2.2.2.2.2.2.2.2.1
  have d6 : ∀ (I : gb_FI) (J : gb_FJ), gb_kd (gb_mk I J) (o + 6) = (23, n) := fun I J => (hO I J).2.2.2.2.2.2.2.2.2.2.2.2
  have kk3 : ∀ (I : gb_FI) (J : gb_FJ), gb_k (gb_mk I J) (o + 3) 23 = true := fun I J => by simp [gb_k, d3]
  have kk4 : ∀ (I : gb_FI) (J : gb_FJ), gb_k (gb_mk I J) (o + 4) 23 = true := fun I J => by simp [gb_k, d4]
  have kk5 : ∀ (I : gb_FI) (J : gb_FJ), gb_k (gb_mk I J) (o + 5) 23 = true := fun I J => by simp [gb_k, d5]
  have kk6 : ∀ (I : gb_FI) (J : gb_FJ), gb_k (gb_mk I J) (o + 6) 23 = true := fun I J => by simp [gb_k, d6]
  have i3 : ∀ (I : gb_FI) (J : gb_FJ), gb_in (gb_mk I J) (o + 3) (nI p) = true := fun I J => gb_in_k (by rw [d3]) hp (by omega)
  have i4 : ∀ (I : gb_FI) (J : gb_FJ), gb_in (gb_mk I J) (o + 4) (nI p) = true := fun I J => gb_in_k (by rw [d4]) hp (by omega)
  have i5 : ∀ (I : gb_FI) (J : gb_FJ), gb_in (gb_mk I J) (o + 5) (nI p) = true := fun I J => gb_in_k (by rw [d5]) hp (by omega)
  have i6 : ∀ (I : gb_FI) (J : gb_FJ), gb_in (gb_mk I J) (o + 6) (nI p) = true := fun I J => gb_in_k (by rw [d6]) hp (by omega)
  have c : (nI p).toNatClampNeg = p := nI_clamp (by omega)
  unfold fnX0_isZero fbX0_isZero_48 fbX0_isZero_49
  rw [k0, gb_gd_t, r2, gb_rd_s, kk3, gb_gd_t, i3, gb_gd_t, c, gb_gd_t, r3, gb_rd_s, kk4, gb_gd_t, i4, gb_gd_t, gb_gd_t, r4, gb_rd_s, kk5, gb_gd_t, i5, gb_gd_t, gb_gd_t, r5, gb_rd_s, kk6, gb_gd_t, i6, gb_gd_t]
  rw [gb_L_mk]
  unfold gq qZ
  by_cases a : J (o + 3) p = 0
  · rw [if_pos a]
    by_cases b : J (o + 4) p = 0
    · rw [if_pos b]
      by_cases d : J (o + 5) p = 0
      · rw [if_pos d]
        by_cases e : J (o + 6) p = 0
        · rw [if_pos e, if_pos (by rw [a, b, d, e])]
          rfl
        · rw [if_neg e, if_neg (fun w => e (by injection w with _ w; injection w with _ w; injection w))]
          rfl
      · rw [if_neg d, if_neg (fun w => d (by injection w with _ w; injection w with _ w; injection w))]
        rfl
    · rw [if_neg b, if_neg (fun w => b (by injection w with _ w; injection w))]
      rfl
  · rw [if_neg a, if_neg (fun w => a (by injection w))]
    rfl
end SCALE
