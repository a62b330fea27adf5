section LOOP
variable {S S' : gb_S} {I I' I1 I2 : gb_FI} {J J' J1 J2 : gb_FJ} {X : gb_X} {i : Nat}
theorem law_step (hN : X.1 ≤ 4096) (hi : 8 * i + 8 ≤ X.1) (h : gbR3 S I J) (k18 : Nat → Nat → Int32 → gb_H → Option (Int32 × gb_H)) : ∃ S2 I2 J2, gbR3 S2 I2 J2 ∧ fbL_law_18 X k18 0 241 (nI (8 * i)) (gb_mk I J) = k18 0 241 (nI (8 * i + 8)) (gb_mk I2 J2) := by
  have ix : ∀ j, j < 8 → gb_inX X (nI (8 * i + j)) = true := fun j hj => by
    simp only [gb_inX, nI_clamp (show 8 * i + j < 2 ^ 31 by omega), Bool.and_eq_true, decide_eq_true_eq]
    exact ⟨nI_pos (by omega), by omega⟩
  have x0 : gb_inX X (nI (8 * i)) = true := ix 0 (by decide)
  have x1 := ix 1 (by decide)
  have x2 := ix 2 (by decide)
  have x3 := ix 3 (by decide)
  have x4 := ix 4 (by decide)
  have x5 := ix 5 (by decide)
  have x6 := ix 6 (by decide)
  have x7 := ix 7 (by decide)
  have e1 : nI (8 * i) + (1 : Int32) = nI (8 * i + 1) := nI_add (8 * i) 1
  have e2 : nI (8 * i) + (2 : Int32) = nI (8 * i + 2) := nI_add (8 * i) 2
  have e3 : nI (8 * i) + (3 : Int32) = nI (8 * i + 3) := nI_add (8 * i) 3
  have e4 : nI (8 * i) + (4 : Int32) = nI (8 * i + 4) := nI_add (8 * i) 4
  have e5 : nI (8 * i) + (5 : Int32) = nI (8 * i + 5) := nI_add (8 * i) 5
  have e6 : nI (8 * i) + (6 : Int32) = nI (8 * i + 6) := nI_add (8 * i) 6
  have e7 : nI (8 * i) + (7 : Int32) = nI (8 * i + 7) := nI_add (8 * i) 7
  have e8 : nI (8 * i) + (8 : Int32) = nI (8 * i + 8) := nI_add (8 * i) 8
  have c : ¬ Int32.ofNat X.1 - 8 < nI (8 * i) := by
    rw [show Int32.ofNat X.1 - 8 = nI X.1 - nI 8 from rfl, gb_nI_sub (by omega)]
    exact nI_nlt (by omega) (by omega)
  unfold fbL_law_18 fbL_law_966
  rw [if_neg c]
  simp only [gb_lt_d, e1, e2, e3, e4, e5, e6, e7, e8, x0, x1, x2, x3, x4, x5, x6, x7, gb_gd_t, gk0]
  generalize X.2 (nI (8 * i)).toNatClampNeg &&& 31 = y
  by_cases c0 : y = 0
  · rw [if_pos c0]
    exact gb_brn (fun h => k18 0 241 (nI (8 * i + 8)) h) (gs_grain h _)
  rw [if_neg c0]
  by_cases c1 : y = 1
  · rw [if_pos c1]
    exact gb_brn (fun h => k18 0 241 (nI (8 * i + 8)) h) (gs_clear h)
  rw [if_neg c1]
  by_cases c2 : y = 2
  · rw [if_pos c2]
    exact gb_brn (fun h => k18 0 241 (nI (8 * i + 8)) h) (gs_feed h _ _ _ _ _)
  rw [if_neg c2]
  by_cases c3 : y = 3
  · rw [if_pos c3]
    exact gb_brn (fun h => k18 0 241 (nI (8 * i + 8)) h) (gs_end h _)
  rw [if_neg c3]
  by_cases c4 : y = 4
  · rw [if_pos c4]
    exact gb_brn (fun h => k18 0 241 (nI (8 * i + 8)) h) (gs_bench h _)
  rw [if_neg c4]
  by_cases c5 : y = 5
  · rw [if_pos c5]
    exact gb_brn (fun h => k18 0 241 (nI (8 * i + 8)) h) (gs_shelf h)
  rw [if_neg c5]
  by_cases c6 : y = 6
  · rw [if_pos c6]
    exact gb_brn (fun h => k18 0 241 (nI (8 * i + 8)) h) (gs_fault h)
  rw [if_neg c6]
  by_cases c7 : y = 7
  · rw [if_pos c7]
    exact gb_brn (fun h => k18 0 241 (nI (8 * i + 8)) h) (gs_deep h _)
  rw [if_neg c7]
  by_cases c8 : y = 8
  · rw [if_pos c8]
    exact gb_brn (fun h => k18 0 241 (nI (8 * i + 8)) h) (gs_way h _ _ _ _)
  rw [if_neg c8]
  by_cases c9 : y = 9
  · rw [if_pos c9]
    exact gb_brn (fun h => k18 0 241 (nI (8 * i + 8)) h) (gs_odds h _ _ _ _ _ _ _)
  rw [if_neg c9]
  by_cases c10 : y = 10
  · rw [if_pos c10]
    exact gb_brn (fun h => k18 0 241 (nI (8 * i + 8)) h) (gs_dark h _ _)
  rw [if_neg c10]
  by_cases c11 : y = 11
  · rw [if_pos c11]
    exact gb_brn (fun h => k18 0 241 (nI (8 * i + 8)) h) (gs_clicks h _ _ _)
  rw [if_neg c11]
  by_cases c12 : y = 12
  · rw [if_pos c12]
    exact gb_brn (fun h => k18 0 241 (nI (8 * i + 8)) h) (gs_run h _ _ _)
  rw [if_neg c12]
  by_cases c13 : y = 13
  · rw [if_pos c13]
    exact gb_brn (fun h => k18 0 241 (nI (8 * i + 8)) h) (gs_counted h _ _ _)
  rw [if_neg c13]
  by_cases c14 : y = 14
  · rw [if_pos c14]
    exact gb_brn (fun h => k18 0 241 (nI (8 * i + 8)) h) (gs_wrong h _ _)
  rw [if_neg c14]
  by_cases c15 : y = 15
  · rw [if_pos c15]
    exact gb_brn (fun h => k18 0 241 (nI (8 * i + 8)) h) (gs_misfit h _ _)
  rw [if_neg c15]
  by_cases c16 : y = 16
  · rw [if_pos c16]
    exact gb_brn (fun h => k18 0 241 (nI (8 * i + 8)) h) (gs_fits h _)
  rw [if_neg c16]
  by_cases c17 : y = 17
  · rw [if_pos c17]
    exact gb_brn (fun h => k18 0 241 (nI (8 * i + 8)) h) (gs_pairs h _ _ _)
  rw [if_neg c17]
  by_cases c18 : y = 18
  · rw [if_pos c18]
    exact gb_brn (fun h => k18 0 241 (nI (8 * i + 8)) h) (gs_notes h _ _)
  rw [if_neg c18]
  by_cases c19 : y = 19
  · rw [if_pos c19]
    exact gb_brn (fun h => k18 0 241 (nI (8 * i + 8)) h) (gs_plan h _ _ _ _ _ _)
  rw [if_neg c19]
  by_cases c20 : y = 20
  · rw [if_pos c20]
    exact gb_brn (fun h => k18 0 241 (nI (8 * i + 8)) h) (gs_planned h _)
  rw [if_neg c20]
  by_cases c21 : y = 21
  · rw [if_pos c21]
    exact gb_brn (fun h => k18 0 241 (nI (8 * i + 8)) h) (gs_build h _)
  rw [if_neg c21]
  by_cases c22 : y = 22
  · rw [if_pos c22]
    exact gb_brn (fun h => k18 0 241 (nI (8 * i + 8)) h) (gs_count h _)
  rw [if_neg c22]
  by_cases c23 : y = 23
  · rw [if_pos c23]
    exact gb_brn (fun h => k18 0 241 (nI (8 * i + 8)) h) (gs_status h)
  rw [if_neg c23]
  exact ⟨S, I, J, h, rfl⟩
theorem law_loop (hN : X.1 ≤ 4096) : ∀ k i F (S : gb_S) (I : gb_FI) (J : gb_FJ), i + k = X.1 / 8 → k < F → gbR3 S I J → ∃ I2 J2, lpL_law_18 X F 0 241 (nI (8 * i)) (gb_mk I J) = some (1, gb_mk I2 J2) := by
  intro k
  induction k with
  | zero =>
    intro i F S I J hi hF h
    obtain ⟨F, rfl⟩ : ∃ f, F = f + 1 := ⟨F - 1, by omega⟩
    refine ⟨I, J, ?_⟩
    rw [show ∀ h, lpL_law_18 X (F + 1) 0 241 (nI (8 * i)) h = fbL_law_18 X (fun v1 v2 v3 h => lpL_law_18 X F v1 v2 v3 h) 0 241 (nI (8 * i)) h from fun _ => rfl]
    unfold fbL_law_18
    rw [if_pos]
    by_cases c : 8 ≤ X.1
    · rw [show Int32.ofNat X.1 - 8 = nI X.1 - nI 8 from rfl, gb_nI_sub (by omega)]
      exact nI_lt (by omega) (by omega)
    · have q : ∀ n, n < 8 → Int32.ofNat n - 8 < nI 0 := by decide
      rw [show 8 * i = 0 by omega]
      exact q X.1 (by omega)
  | succ k ih =>
    intro i F S I J hi hF h
    obtain ⟨F, rfl⟩ : ∃ f, F = f + 1 := ⟨F - 1, by omega⟩
    obtain ⟨S2, I2, J2, s1, s2⟩ := law_step (i := i) hN (by omega) h (fun v1 v2 v3 h => lpL_law_18 X F v1 v2 v3 h)
    obtain ⟨I3, J3, t⟩ := ih (i + 1) F S2 I2 J2 (by omega) (by omega) s1
    refine ⟨I3, J3, ?_⟩
    rw [show ∀ h, lpL_law_18 X (F + 1) 0 241 (nI (8 * i)) h = fbL_law_18 X (fun v1 v2 v3 h => lpL_law_18 X F v1 v2 v3 h) 0 241 (nI (8 * i)) h from fun _ => rfl, s2]
    exact t
theorem gb_pure (X : gb_X) (hN : X.1 ≤ 4096) : ∃ h' : gb_H, fnL_law X gb_h0 = some (1, h') ∧ gb_cn h' ≤ 600000 ∧ gb_sl h' ≤ 7302250 := by
  obtain ⟨h4, e1, e2, e3⟩ := gb_ctor_2
  obtain ⟨I2, J2, t⟩ := law_loop hN (X.1 / 8) 0 gb_FU gS1 gI1 gJ1 (by omega) (show X.1 / 8 < 1000000 by omega) g1_R
  refine ⟨gb_mk I2 J2, ?_, by rw [gb_cn_mk, gb_H1_cn]; decide, by rw [gb_sl_mk, gb_H1_sl]; decide⟩
  unfold fnL_law
  rw [gb_lt_d, gb_lt_d, show gb_cn gb_h0 = 0 from rfl, e1, gb_bd_s, gb_lt_d, gb_lt_d, e2, e3, gb_bd_s]
  exact t
end LOOP
