section DOES4
variable {I I' I1 I2 : gb_FI} {J J' J1 J2 : gb_FJ} {p : gb_P} {o a room g w j W cs ls x : Nat}
/-- the branches of the grain j of a word -/
def gw_A (p : gb_P) (g j : Nat) (F : Nat → gb_q) (w : Nat) : gb_q := gb_A (gb_tb p 2 (gw_m g w j + 1)) (fun s => F (gw_s g w j s))
theorem gw_ix {m t : Nat} (hw : w < 4096) (h : m * x ≤ w) : nI w + (nI t - nI m) * nI x = nI (w - m * x + t * x) := by
  have e : nI w = nI (w - m * x) + nI m * nI x := by rw [gb_nI_mul, nI_add, show w - m * x + m * x = w by omega]
  rw [e, ← nI_add, ← gb_nI_mul]
  grind
theorem m_does279 (ko : ∀ (I : gb_FI) (J : gb_FJ), gb_k (gb_mk I J) o 20 = true) (ki : ∀ j, j < room → ∀ (I : gb_FI) (J : gb_FJ), gb_in (gb_mk I J) o (nI j) = true) (ho : o ≠ 241) (hr : room ≤ 512) (ha : a + 8 ≤ room) (hp : mP (I o) a p) (wp : gb_wp cs ls p) (h5 : p.1 ≠ 5) (hg : I 241 23 = nI g) (g3 : g ≤ 3) (hj : j < g) (hw : w < 16 ^ g)
    {k157 : Nat → Nat → Int32 → Int32 → gb_H → Option (Unit × gb_H)} (k205 : Nat → Nat → Int32 → Int32 → Int32 → Int32 → gb_H → Option (Unit × gb_H)) :
    ∃ I' J', fbX11_does_279 k157 k205 241 o (nI a) (nI j) (nI (16 ^ (g - 1 - j))) (nI w) (gb_mk I J) = k205 241 o (nI a) (nI j) (nI (16 ^ (g - 1 - j))) (nI (w + 1)) (gb_mk I' J') ∧ (∀ x k, ¬ (x = 241 ∧ k = 25) → I' x k = I x k) ∧ (∀ x, x ≠ 253 → x ≠ 254 → x ≠ 255 → J' x = J x) ∧ ∀ F, gP (16 ^ g) (rq J' 253) F = gP (16 ^ g) (rq J 253) F + q4 (rq J 251 w) (gw_A p g j F w) := by
  have w4 : (16 : Nat) ^ g ≤ 4096 := Nat.le_trans (Nat.pow_le_pow_right (by decide) g3) (by decide)
  have mb := gw_m_b (g := g) (w := w) (j := j)
  have f0 : (4 : Int32) * nI w = nI (4 * w) := gb_nI_mul 4 w
  obtain ⟨I1, J1, oth, Sx, G, a1, ⟨a2, a3, a4, a5, a6⟩, a7, a8⟩ := m_acts (J := J) ko ki ho hr ha hp wp h5 mb
  have wb : gw_s g w j (oth + 1) < 16 ^ g := gw_s_b g3 hj hw a7
  have r1 : rq J1 251 w = rq J 251 w := by unfold rq; rw [a4 251 (by decide) (by decide)]
  have r3 : ∀ v, rq J1 253 v = rq J 253 v := fun v => by unfold rq; rw [a4 253 (by decide) (by decide)]
  refine ⟨I1, gb_w4 (gb_w4 J1 253 w (qmul (rq J 251 w) Sx)) 253 (gw_s g w j (oth + 1)) (qmul (rq J 251 w) G), ?_, a3, fun x x1 x2 x3 => ?_, fun F => ?_⟩
  · have d1 := m_adds (I := I1) (J := J1) (w := w) (v := w) (s := 254) (by omega) (by omega) (Or.inl rfl)
    rw [r1, a5] at d1
    have d2 := m_adds (I := I1) (J := gb_w4 J1 253 w (qmul (rq J 251 w) Sx)) (w := gw_s g w j (oth + 1)) (v := w) (s := 255) (by omega) (by omega) (Or.inr rfl)
    rw [show rq (gb_w4 J1 253 w (qmul (rq J 251 w) Sx)) 251 w = rq J 251 w by unfold rq; rw [gb_w4_ne (by decide)]; exact r1, show pq (gb_w4 J1 253 w (qmul (rq J 251 w) Sx)) 255 = G by unfold pq; rw [gb_w4_ne (by decide)]; exact a6] at d2
    have ix : nI w + (nI oth - nI (gw_m g w j)) * nI (16 ^ (g - 1 - j)) = nI (gw_s g w j (oth + 1)) := by
      rw [gw_ix (by omega) gw_s_m]
      unfold gw_s
      rw [Nat.add_sub_cancel]
    unfold fbX11_does_279 fbX11_does_350
    rw [gk241, gb_gd_t, m_modeAt hg g3 hj (by omega), gb_bd_s, gk241, gb_gd_t, a1, gb_bd_s, gk241, gb_gd_t, gr241_22, gb_rd_s, gb_gd_t, gr241_20, gb_rd_s, gb_gd_t, gr241_26, gb_rd_s, f0, d1, gb_bd_s, gk241, gb_gd_t, gr241_22, gb_rd_s, gb_gd_t, gb_gd_t, gr241_20, gb_rd_s, gb_gd_t, gr241_27, gb_rd_s, gb_I_mk, a2, ix, d2, gb_bd_s, gb_lt_d, nI_1]
  · rw [gb_w4_ne x1, gb_w4_ne x1]
    exact a4 x x2 x3
  · rw [gP_w4 wb, gP_w4 hw]
    have t := a8 (rq J 251 w) (fun s => F (gw_s g w j s))
    rw [show F (gw_s g w j (gw_m g w j + 1)) = F w by rw [gw_s_1]] at t
    rw [show gP (16 ^ g) (rq J1 253) F = gP (16 ^ g) (rq J 253) F from gP_congr (fun i _ => r3 i) (fun _ _ => rfl)]
    unfold gw_A gb_A
    rw [← t]
    grind
end DOES4
