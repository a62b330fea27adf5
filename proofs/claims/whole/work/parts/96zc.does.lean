section DOES6
variable {I I' I1 I2 : gb_FI} {J J' J1 J2 : gb_FJ} {p : gb_P} {o a room g w j W cs ls x : Nat}
/-- the branches of the last k grains -/
def gw_B (p : gb_P) (g : Nat) (F : Nat → gb_q) : Nat → Nat → gb_q
  | 0 => F
  | k + 1 => gw_A p g (g - (k + 1)) (gw_B p g F k)
/-- what a part makes of a functional of words -/
def gw_op (p : gb_P) (g : Nat) (F : Nat → gb_q) (w : Nat) : gb_q := if gw_ac p g w = true then gw_B p g F g w else qS (lN (gb_ba p ^ g)) (F w)
def gad (J : gb_FJ) : Nat → gb_FJ
  | 0 => J
  | i + 1 => gb_u (gad J i) 251 i (J 251 i + J 252 i)
theorem gad_ne {x : Nat} (h : x ≠ 251) : ∀ i, gad J i x = J x
  | 0 => rfl
  | i + 1 => by
    show gb_u (gad J i) 251 i _ x = J x
    rw [gb_u_row _ _ h, gad_ne h i]
theorem gad_i {k : Nat} : ∀ i, k < i → gad J i 251 k = J 251 k + J 252 k
  | 0, h => absurd h (by omega)
  | i + 1, h => by
    show gb_u (gad J i) 251 i _ 251 k = _
    by_cases e : k = i
    · subst e; rw [gb_u_s]
    · rw [gb_u_nk _ _ e, gad_i i (by omega)]
theorem gad_o {k : Nat} : ∀ i, i ≤ k → gad J i 251 k = J 251 k
  | 0, _ => rfl
  | i + 1, h => by
    show gb_u (gad J i) 251 i _ 251 k = _
    rw [gb_u_nk _ _ (by omega), gad_o i (by omega)]
theorem rq_ad (hw : w < W) : rq (gad J (4 * W)) 251 w = qA (rq J 251 w) (rq J 252 w) := by
  unfold rq qA
  rw [gad_i _ (by omega), gad_i _ (by omega), gad_i _ (by omega), gad_i _ (by omega)]
theorem m_does399 (hW : I 241 24 = nI W) (W4 : W ≤ 4096) : lpX11_does_399 gb_FU 241 0 (gb_mk I J) = some ((), gb_mk I (gad J (4 * W))) := by
  have e4 : (4 : Int32) * nI W = nI (4 * W) := gb_nI_mul 4 W
  unfold lpX11_does_399
  refine gb_forF (fun i => (241, nI i, gb_mk I (gad J i))) (4 * W) (by omega) ?_ ?_
  · intro i hi k
    have n1 : gad J i 251 i = J 251 i := gad_o i (Nat.le_refl _)
    have n2 : gad J i 252 i = J 252 i := by rw [gad_ne (by decide)]
    simp only [fbX11_does_399]
    rw [gk241, gb_gd_t, gb_I_mk, hW, e4, if_neg (show ¬ nI (4 * W) ≤ nI i from nI_ge hi (by omega))]
    simp (disch := omega) only [gb_lt_d, gb_gd_t, gb_rd_s, gb_bd_s, gb_I_mk, gb_L_mk, gb_sI_mk, gb_sL_mk, gk241, gk242, gk243, gk244, gk245, gk246, gk247, gk248, gk249, gk250, gk251, gk252, gk253, gk254, gk255, gk256, gk257, gk258, gk259, gk260, gk261, gk262, gk263, gk264, gk265, gk266, gk267, gk268, gr241_2, gr241_3, gr241_4, gr241_5, gr241_7, gr241_8, gr241_11, gr241_12, gr241_13, gr241_20, gr241_21, gr241_22, gr241_26, gr241_27, gr241_28, gr241_29, gr241_31, gr241_32, gr241_33, gr241_38, gr241_39, gr241_40, gr241_41, gr241_42, gr241_43, gr241_44, gr241_45, gi251, gi252, nI_clamp, nI_1, n1, n2]
    rfl
  · intro k
    simp only [fbX11_does_399]
    rw [gk241, gb_gd_t, gb_I_mk, hW, e4, if_pos (show nI (4 * W) ≤ nI (4 * W) from nI_le (Nat.le_refl _) (by omega))]
theorem m_does157 (ko : ∀ (I : gb_FI) (J : gb_FJ), gb_k (gb_mk I J) o 20 = true) (ki : ∀ j, j < room → ∀ (I : gb_FI) (J : gb_FJ), gb_in (gb_mk I J) o (nI j) = true) (ho : o ≠ 241) (hr : room ≤ 512) (ha : a + 8 ≤ room) (hp : mP (I o) a p) (wp : gb_wp cs ls p) (h5 : p.1 ≠ 5) (hg : I 241 23 = nI g) (g3 : g ≤ 3) (hW : I 241 24 = nI (16 ^ g)) :
    ∀ k j F (I1 : gb_FI) (J1 : gb_FJ), j + k = g → k < F → (∀ x k, ¬ (x = 241 ∧ k = 25) → I1 x k = I x k) → (∀ x, x ≠ 251 → x ≠ 253 → x ≠ 254 → x ≠ 255 → J1 x = J x) →
      ∃ I2 J2, lpX11_does_157 F 241 o (nI a) (nI j) (gb_mk I1 J1) = lpX11_does_399 gb_FU 241 0 (gb_mk I2 J2) ∧ (∀ x k, ¬ (x = 241 ∧ k = 25) → I2 x k = I x k) ∧ (∀ x, x ≠ 251 → x ≠ 253 → x ≠ 254 → x ≠ 255 → J2 x = J x) ∧ ∀ F, gP (16 ^ g) (rq J2 251) F = gP (16 ^ g) (rq J1 251) (gw_B p g F k) := by
  intro k
  induction k with
  | zero =>
    intro j F I1 J1 hj hF h1 h2
    obtain ⟨F, rfl⟩ : ∃ f, F = f + 1 := ⟨F - 1, by omega⟩
    refine ⟨I1, J1, ?_, h1, h2, fun F => rfl⟩
    rw [show lpX11_does_157 (F + 1) 241 o (nI a) (nI j) (gb_mk I1 J1) = fbX11_does_157 (fun v0 v1 v2 v6 h => lpX11_does_157 F v0 v1 v2 v6 h) 241 o (nI a) (nI j) (gb_mk I1 J1) from rfl]
    unfold fbX11_does_157
    rw [gk241, gb_gd_t, if_pos (show gb_I (gb_mk I1 J1) 241 23 ≤ nI j by rw [gb_I_mk, h1 241 23 (by decide), hg]; exact nI_le (by omega) (by omega))]
  | succ k ih =>
    intro j F I1 J1 hj hF h1 h2
    obtain ⟨F, rfl⟩ : ∃ f, F = f + 1 := ⟨F - 1, by omega⟩
    have hp1 : mP (I1 o) a p := by
      have : I1 o = I o := funext (fun k => h1 o k (fun z => ho z.1))
      rw [this]; exact hp
    obtain ⟨I2, J2, s1, s2, s3, s4⟩ := m_grain (I := I1) (J := J1) (j := j) (k157 := fun v0 v1 v2 v6 h => lpX11_does_157 F v0 v1 v2 v6 h) ko ki ho hr ha hp1 wp h5 (by rw [h1 241 23 (by decide)]; exact hg) g3 (by omega) (by rw [h1 241 24 (by decide)]; exact hW)
    obtain ⟨I3, J3, u1, u2, u3, u4⟩ := ih (j + 1) F I2 J2 (by omega) (by omega) (fun x k hx => (s2 x k hx).trans (h1 x k hx)) (fun x x1 x2 x3 x4 => (s3 x x1 x2 x3 x4).trans (h2 x x1 x2 x3 x4))
    refine ⟨I3, J3, ?_, u2, u3, fun F => ?_⟩
    · rw [show lpX11_does_157 (F + 1) 241 o (nI a) (nI j) (gb_mk I1 J1) = fbX11_does_157 (fun v0 v1 v2 v6 h => lpX11_does_157 F v0 v1 v2 v6 h) 241 o (nI a) (nI j) (gb_mk I1 J1) from rfl]
      unfold fbX11_does_157
      rw [gk241, gb_gd_t, if_neg (show ¬ gb_I (gb_mk I1 J1) 241 23 ≤ nI j by rw [gb_I_mk, h1 241 23 (by decide), hg]; exact nI_ge (by omega) (by omega))]
      exact s1.trans u1
    · rw [u4 F, s4, show gw_B p g F (k + 1) = gw_A p g j (gw_B p g F k) by rw [gw_B, show g - (k + 1) = j by omega]]
/-- a part, by the reference -/
theorem m_does (ko : ∀ (I : gb_FI) (J : gb_FJ), gb_k (gb_mk I J) o 20 = true) (ki : ∀ j, j < room → ∀ (I : gb_FI) (J : gb_FJ), gb_in (gb_mk I J) o (nI j) = true) (ho : o ≠ 241) (hr : room ≤ 512) (ha : a + 8 ≤ room) (hp : mP (I o) a p) (wp : gb_wp cs ls p) (h5 : p.1 ≠ 5) (hg : I 241 23 = nI g) (g3 : g ≤ 3) (hW : I 241 24 = nI (16 ^ g)) :
    ∃ I2 J2, fnX11_does 241 o (nI a) (gb_mk I J) = some ((), gb_mk I2 J2) ∧ (∀ x k, ¬ (x = 241 ∧ k = 25) → I2 x k = I x k) ∧ (∀ x, x < 251 ∨ 255 < x → J2 x = J x) ∧ ∀ F, gP (16 ^ g) (rq J2 251) F = gP (16 ^ g) (rq J 251) (gw_op p g F) := by
  have w4 : (16 : Nat) ^ g ≤ 4096 := Nat.le_trans (Nat.pow_le_pow_right (by decide) g3) (by decide)
  have k3 := wp.1.2.2.2.1
  have p3 : nI a + 3 = nI (a + 3) := nI_add a 3
  have m3 := hp.2.2.2.1
  obtain ⟨J1, a1, a2, a3⟩ := m_does32 (I := I) (J := J) (v4 := lN (gb_ba p ^ g)) ko ki hr ha hp wp.1 hg g3 hW w4 (16 ^ g) 0 gb_FU J (by omega) (show 16 ^ g < 1000000 by omega) (fun w hw => absurd hw (by omega)) (fun _ _ => rfl) (fun _ _ _ => rfl)
  obtain ⟨I2, J2, s1, s2, s3, s4⟩ := m_does157 (I := I) (J := J1) ko ki ho hr ha hp wp h5 hg g3 hW g 0 gb_FU I J1 (by omega) (show g < 1000000 by omega) (fun _ _ _ => rfl) (fun _ _ _ _ _ => rfl)
  have s5 := m_does399 (I := I2) (J := J2) (W := 16 ^ g) (by rw [s2 241 24 (by decide)]; exact hW) w4
  refine ⟨I2, gad J2 (4 * 16 ^ g), ?_, s2, fun x hx => by rw [gad_ne (by omega), s3 x (by omega) (by omega) (by omega) (by omega), a3 x (by omega) (by omega)], fun F => ?_⟩
  · have fin : lpX11_does_32 gb_FU 241 o (nI a) (lN (gb_ba p ^ g)) 0 (gb_mk I J) = some ((), gb_mk I2 (gad J2 (4 * 16 ^ g))) := a1.trans (s1.trans s5)
    unfold fnX11_does fbX11_does_27
    rw [gb_lt_d, p3, ko, gb_gd_t, ki (a + 3) (by omega), gb_gd_t, gb_lt_d, gb_I_mk, nI_clamp (by omega), m3]
    by_cases z : p.2.2.2.1 = 0
    · rw [show gb_ba p = 1 from if_pos z, Nat.one_pow] at fin
      rw [if_pos z, if_pos (show (-1 : Int32) = -1 from rfl)]
      exact fin
    · rw [if_neg z, if_neg (gb_nmi _ (by omega))]
      have b5 := (gb_ba_b p).2
      have me : fnX11_measure (nI (p.2.2.2.1 - 1)) (gb_mk I J) = some (nI (gb_ba p), gb_mk I J) := by
        simp only [fnX11_measure, fbX11_measure_10]
        unfold gb_ba
        rw [if_neg z]
        by_cases y : p.2.2.2.1 = 3
        · rw [y, if_pos (show nI (3 - 1) = 2 from rfl), if_pos rfl]
          rfl
        · rw [if_neg (show ¬ nI (p.2.2.2.1 - 1) = 2 from fun w => by have := (nI_eq (b := 2) (by omega) (by omega)).mp w; omega), if_neg y]
          rfl
      rw [me, gb_bd_s, gk241, gb_gd_t, gb_I_mk, hg, nI_L (show gb_ba p < 2 ^ 31 by omega), m_power (by omega), gb_bd_s]
      exact fin
  · have l52 : ∀ w, rq J2 252 w = rq J1 252 w := fun w => by unfold rq; rw [s3 252 (by decide) (by decide) (by decide) (by decide)]
    rw [gP_congr (Y := fun w => qA (rq J2 251 w) (rq J2 252 w)) (G := F) (fun i hi => rq_ad hi) (fun _ _ => rfl)]
    have e1 : gP (16 ^ g) (fun w => qA (rq J2 251 w) (rq J2 252 w)) F = gP (16 ^ g) (rq J2 251) F + gP (16 ^ g) (rq J1 252) F := by
      unfold gP
      rw [← gS_add]
      exact gS_congr _ (fun i _ => by rw [q4_A', l52])
    rw [e1, s4 F]
    unfold gP
    rw [← gS_add]
    refine gS_congr _ (fun w hw => ?_)
    obtain ⟨b1, b2⟩ := a2 w hw
    rw [b1, b2]
    unfold gw_op
    by_cases c : gw_ac p g w = true
    · rw [if_pos c, if_pos c, if_pos c, q4_Z']
      grind
    · rw [if_neg c, if_neg c, if_neg c, q4_Z', q4_S]
      unfold q4 qS
      grind
end DOES6
