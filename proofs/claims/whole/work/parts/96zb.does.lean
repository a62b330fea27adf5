section DOES5
variable {I I' I1 I2 : gb_FI} {J J' J1 J2 : gb_FJ} {p : gb_P} {o a room g w j W cs ls x : Nat}
theorem m_does205 (ko : ∀ (I : gb_FI) (J : gb_FJ), gb_k (gb_mk I J) o 20 = true) (ki : ∀ j, j < room → ∀ (I : gb_FI) (J : gb_FJ), gb_in (gb_mk I J) o (nI j) = true) (ho : o ≠ 241) (hr : room ≤ 512) (ha : a + 8 ≤ room) (hp : mP (I o) a p) (wp : gb_wp cs ls p) (h5 : p.1 ≠ 5) (hg : I 241 23 = nI g) (g3 : g ≤ 3) (hj : j < g) (hW : I 241 24 = nI (16 ^ g))
    {k157 : Nat → Nat → Int32 → Int32 → gb_H → Option (Unit × gb_H)} :
    ∀ m i F (I1 : gb_FI) (J1 : gb_FJ), i + m = 16 ^ g → m < F → (∀ x k, ¬ (x = 241 ∧ k = 25) → I1 x k = I x k) → (∀ x, x ≠ 253 → x ≠ 254 → x ≠ 255 → J1 x = J x) → (∀ F, gP (16 ^ g) (rq J1 253) F = gS i (fun v => q4 (rq J 251 v) (gw_A p g j F v))) →
      ∃ I2 J2, lpX11_does_205 k157 F 241 o (nI a) (nI j) (nI (16 ^ (g - 1 - j))) (nI i) (gb_mk I1 J1) = lpX11_does_359 k157 gb_FU 241 o (nI a) (nI j) 0 (gb_mk I2 J2) ∧ (∀ x k, ¬ (x = 241 ∧ k = 25) → I2 x k = I x k) ∧ (∀ x, x ≠ 253 → x ≠ 254 → x ≠ 255 → J2 x = J x) ∧ (∀ F, gP (16 ^ g) (rq J2 253) F = gS (16 ^ g) (fun v => q4 (rq J 251 v) (gw_A p g j F v))) := by
  have w4 : (16 : Nat) ^ g ≤ 4096 := Nat.le_trans (Nat.pow_le_pow_right (by decide) g3) (by decide)
  intro m
  induction m with
  | zero =>
    intro i F I1 J1 hi hF h1 h2 h3
    obtain ⟨F, rfl⟩ : ∃ f, F = f + 1 := ⟨F - 1, by omega⟩
    refine ⟨I1, J1, ?_, h1, h2, fun F => by rw [h3 F, show i = 16 ^ g by omega]⟩
    rw [show lpX11_does_205 k157 (F + 1) 241 o (nI a) (nI j) (nI (16 ^ (g - 1 - j))) (nI i) (gb_mk I1 J1) = fbX11_does_205 k157 (fun v0 v1 v2 v6 v7 v8 h => lpX11_does_205 k157 F v0 v1 v2 v6 v7 v8 h) 241 o (nI a) (nI j) (nI (16 ^ (g - 1 - j))) (nI i) (gb_mk I1 J1) from rfl]
    unfold fbX11_does_205
    rw [gk241, gb_gd_t, if_pos (show gb_I (gb_mk I1 J1) 241 24 ≤ nI i by rw [gb_I_mk, h1 241 24 (by decide), hW]; exact nI_le (by omega) (by omega))]
  | succ m ih =>
    intro i F I1 J1 hi hF h1 h2 h3
    obtain ⟨F, rfl⟩ : ∃ f, F = f + 1 := ⟨F - 1, by omega⟩
    have f0 : (4 : Int32) * nI i = nI (4 * i) := gb_nI_mul 4 i
    have f1 : nI (4 * i) + 1 = nI (4 * i + 1) := nI_1 _
    have f2 : nI (4 * i) + 2 = nI (4 * i + 2) := nI_add _ 2
    have f3 : nI (4 * i) + 3 = nI (4 * i + 3) := nI_add _ 3
    have hp1 : mP (I1 o) a p := by
      have : I1 o = I o := funext (fun k => h1 o k (fun z => ho z.1))
      rw [this]; exact hp
    have j1 : J1 251 = J 251 := h2 251 (by decide) (by decide) (by decide)
    have rj : ∀ v, rq J1 251 v = rq J 251 v := fun v => by unfold rq; rw [j1]
    have nx : ∀ (I2 : gb_FI) (J2 : gb_FJ), (∀ x k, ¬ (x = 241 ∧ k = 25) → I2 x k = I x k) → (∀ x, x ≠ 253 → x ≠ 254 → x ≠ 255 → J2 x = J x) → (∀ F, gP (16 ^ g) (rq J2 253) F = gP (16 ^ g) (rq J1 253) F + q4 (rq J 251 i) (gw_A p g j F i)) → ∃ I3 J3, lpX11_does_205 k157 F 241 o (nI a) (nI j) (nI (16 ^ (g - 1 - j))) (nI (i + 1)) (gb_mk I2 J2) = lpX11_does_359 k157 gb_FU 241 o (nI a) (nI j) 0 (gb_mk I3 J3) ∧ (∀ x k, ¬ (x = 241 ∧ k = 25) → I3 x k = I x k) ∧ (∀ x, x ≠ 253 → x ≠ 254 → x ≠ 255 → J3 x = J x) ∧ (∀ F, gP (16 ^ g) (rq J3 253) F = gS (16 ^ g) (fun v => q4 (rq J 251 v) (gw_A p g j F v))) := fun I2 J2 x1 x2 x3 =>
      ih (i + 1) F I2 J2 (by omega) (by omega) x1 x2 (fun F => by rw [x3 F, h3 F]; rfl)
    obtain ⟨I2, J2, s1, s2, s3, s4⟩ := m_does279 (I := I1) (J := J1) (k157 := k157) ko ki ho hr ha hp1 wp h5 (by rw [h1 241 23 (by decide)]; exact hg) g3 hj (show i < 16 ^ g by omega) (fun v0 v1 v2 v6 v7 v8 h => lpX11_does_205 k157 F v0 v1 v2 v6 v7 v8 h)
    have go := nx I2 J2 (fun x k hx => (s2 x k hx).trans (h1 x k hx)) (fun x x1 x2 x3 => (s3 x x1 x2 x3).trans (h2 x x1 x2 x3)) (fun F => by rw [s4 F, rj])
    rw [show lpX11_does_205 k157 (F + 1) 241 o (nI a) (nI j) (nI (16 ^ (g - 1 - j))) (nI i) (gb_mk I1 J1) = fbX11_does_205 k157 (fun v0 v1 v2 v6 v7 v8 h => lpX11_does_205 k157 F v0 v1 v2 v6 v7 v8 h) 241 o (nI a) (nI j) (nI (16 ^ (g - 1 - j))) (nI i) (gb_mk I1 J1) from rfl]
    unfold fbX11_does_205
    rw [gk241, gb_gd_t, if_neg (show ¬ gb_I (gb_mk I1 J1) 241 24 ≤ nI i by rw [gb_I_mk, h1 241 24 (by decide), hW]; exact nI_ge (by omega) (by omega)), s1]
    simp (disch := omega) only [gb_lt_d, gb_gd_t, gb_rd_s, gb_bd_s, gb_I_mk, gb_L_mk, gb_sI_mk, gb_sL_mk, gk241, gr241_20, gk251, f0, f1, f2, f3, gi251, nI_clamp]
    by_cases c0 : J1 251 (4 * i) = 0
    · rw [if_pos c0]
      by_cases c1 : J1 251 (4 * i + 1) = 0
      · rw [if_pos c1]
        by_cases c2 : J1 251 (4 * i + 2) = 0
        · rw [if_pos c2]
          by_cases c3 : J1 251 (4 * i + 3) = 0
          · rw [if_pos c3]
            unfold fbX11_does_350
            rw [gb_lt_d, nI_1]
            refine nx I1 J1 h1 h2 (fun F => ?_)
            have z : rq J 251 i = qZ := by
              rw [← rj]
              unfold rq qZ
              rw [c0, c1, c2, c3]
            rw [z, q4_Z']
            grind
          · rw [if_neg c3]; exact go
        · rw [if_neg c2]; exact go
      · rw [if_neg c1]; exact go
    · rw [if_neg c0]; exact go
/-- one grain of a part -/
theorem m_grain (ko : ∀ (I : gb_FI) (J : gb_FJ), gb_k (gb_mk I J) o 20 = true) (ki : ∀ j, j < room → ∀ (I : gb_FI) (J : gb_FJ), gb_in (gb_mk I J) o (nI j) = true) (ho : o ≠ 241) (hr : room ≤ 512) (ha : a + 8 ≤ room) (hp : mP (I o) a p) (wp : gb_wp cs ls p) (h5 : p.1 ≠ 5) (hg : I 241 23 = nI g) (g3 : g ≤ 3) (hj : j < g) (hW : I 241 24 = nI (16 ^ g))
    {k157 : Nat → Nat → Int32 → Int32 → gb_H → Option (Unit × gb_H)} :
    ∃ I2 J2, lpX11_does_169 k157 gb_FU 241 o (nI a) (nI j) 0 (gb_mk I J) = k157 241 o (nI a) (nI (j + 1)) (gb_mk I2 J2) ∧ (∀ x k, ¬ (x = 241 ∧ k = 25) → I2 x k = I x k) ∧ (∀ x, x ≠ 251 → x ≠ 253 → x ≠ 254 → x ≠ 255 → J2 x = J x) ∧ (∀ F, gP (16 ^ g) (rq J2 251) F = gP (16 ^ g) (rq J 251) (gw_A p g j F)) := by
  have w4 : (16 : Nat) ^ g ≤ 4096 := Nat.le_trans (Nat.pow_le_pow_right (by decide) g3) (by decide)
  have z51 : gz0 J (4 * 16 ^ g) 251 = J 251 := gz0_ne (by decide) _
  obtain ⟨I2, J2, s1, s2, s3, s4⟩ := m_does205 (I := I) (J := gz0 J (4 * 16 ^ g)) (k157 := k157) ko ki ho hr ha hp wp h5 hg g3 hj hW (16 ^ g) 0 gb_FU I (gz0 J (4 * 16 ^ g)) (by omega) (show 16 ^ g < 1000000 by omega) (fun _ _ _ => rfl) (fun _ _ _ _ => rfl) (fun F => by
    show gS _ _ = 0
    rw [gS_congr _ (g := fun _ => 0) (fun i hi => by rw [rq_z hi, q4_Z']), gS_0])
  refine ⟨I2, gcp1 J2 (4 * 16 ^ g), ?_, s2, fun x x1 x2 x3 x4 => ?_, fun F => ?_⟩
  · rw [m_does169 hg g3 hj hW w4]
    exact s1.trans (m_does359 (by rw [s2 241 24 (by decide)]; exact hW) w4)
  · rw [gcp1_ne x1, s3 x x2 x3 x4]
    exact gz0_ne x2 _
  · rw [gP_congr (Y := rq J2 253) (G := F) (fun i hi => rq_cp hi) (fun _ _ => rfl), s4 F]
    refine gS_congr _ (fun v _ => ?_)
    show q4 (rq (gz0 J (4 * 16 ^ g)) 251 v) _ = q4 (rq J 251 v) _
    unfold rq
    rw [z51]
end DOES5
