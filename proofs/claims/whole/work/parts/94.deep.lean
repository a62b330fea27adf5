section DEEP
variable {cOK : gb_CP} {S : gb_S} {I I' I1 I2 : gb_FI} {J J' : gb_FJ}
/-- what a part's factors are told through -/
def gb_ba (p : gb_P) : Nat := if p.2.2.2.1 = 0 then 1 else if p.2.2.2.1 = 3 then 2 else 5
theorem gb_ba_b (p : gb_P) : 1 ≤ gb_ba p ∧ gb_ba p ≤ 5 := by
  unfold gb_ba
  split
  · decide
  · split <;> decide
/-- the depth behind i parts -/
def gb_dq (g : Nat) (ps : List gb_P) : Nat → Nat
  | 0 => 1
  | i + 1 => match ps[i]? with
    | none => gb_dq g ps i
    | some p => min (gb_dq g ps i * gb_ba p ^ g) 300001
def gb_dpt (g : Nat) (ps : List gb_P) : Nat := gb_dq g ps ps.length
theorem gb_dq_b {g : Nat} {ps : List gb_P} : ∀ i, 1 ≤ gb_dq g ps i ∧ gb_dq g ps i ≤ 300001
  | 0 => ⟨Nat.le_refl _, by show 1 ≤ 300001; decide⟩
  | i + 1 => by
    have ih := gb_dq_b (g := g) (ps := ps) i
    rw [gb_dq]
    split
    · exact ih
    · rename_i p _
      have : 1 ≤ gb_dq g ps i * gb_ba p ^ g := Nat.mul_pos ih.1 (Nat.pow_pos (gb_ba_b p).1)
      omega
theorem x_base {q : Nat} {p : gb_P} (hk : ∀ (I : gb_FI) (J : gb_FJ), gb_k (gb_mk I J) q 5 = true) (hp : xP (I q) p) (ok : gb_pOK p) : fnX5_base q (gb_mk I J) = some (nI (gb_ba p), gb_mk I J) := by
  have h3 := hp.2.2.2.1
  have k3 := ok.2.2.2.1
  simp only [fnX5_base, fbX5_base_22, gb_lt_d, gb_gd_t, gb_rd_s, gb_bd_s, gb_I_mk, gb_L_mk, gb_sI_mk, gb_sL_mk, hk, h3]
  unfold gb_ba
  by_cases a : p.2.2.2.1 = 0
  · rw [a, if_pos (show nI 0 = 0 from rfl), if_pos rfl]
    rfl
  · rw [if_neg (nI_ne0 (by omega) (by omega)), if_neg a]
    by_cases b : p.2.2.2.1 = 3
    · rw [b, if_pos (show nI 3 = 3 from rfl), if_pos rfl]
      rfl
    · rw [if_neg (show ¬ nI p.2.2.2.1 = 3 from fun w => b ((nI_eq (b := 3) (by omega) (by omega)).mp w)), if_neg b]
      rfl
theorem x_deepenN {b g : Nat} (hb : 1 ≤ b ∧ b ≤ 5) (hg : g < 1000) (h : gb_H) : ∀ k F d i, i + k = g → k < F → d ≤ 1500000 → lpX2_deepen_5 F (nI b) (nI g) (nI d) (nI i) h = some (nI (min (d * b ^ k) 300001), h) := by
  intro k
  induction k with
  | zero =>
    intro F d i hi hF hd
    obtain ⟨F, rfl⟩ : ∃ f, F = f + 1 := ⟨F - 1, by omega⟩
    rw [show lpX2_deepen_5 (F + 1) (nI b) (nI g) (nI d) (nI i) h = fbX2_deepen_5 (fun v1 v2 v3 v4 h => lpX2_deepen_5 F v1 v2 v3 v4 h) (nI b) (nI g) (nI d) (nI i) h from rfl]
    simp only [fbX2_deepen_5, fbX2_deepen_27]
    rw [if_pos (show nI g ≤ nI i from nI_le (by omega) (by omega)), Nat.pow_zero, Nat.mul_one]
    by_cases q : 300001 < d
    · rw [if_pos (show (300001 : Int32) < nI d from nI_lt (a := 300001) q (by omega)), Nat.min_eq_right (by omega)]
      rfl
    · rw [if_neg (show ¬ (300001 : Int32) < nI d from nI_nlt (a := 300001) (by omega) (by omega)), Nat.min_eq_left (by omega)]
  | succ k ih =>
    intro F d i hi hF hd
    obtain ⟨F, rfl⟩ : ∃ f, F = f + 1 := ⟨F - 1, by omega⟩
    rw [show lpX2_deepen_5 (F + 1) (nI b) (nI g) (nI d) (nI i) h = fbX2_deepen_5 (fun v1 v2 v3 v4 h => lpX2_deepen_5 F v1 v2 v3 v4 h) (nI b) (nI g) (nI d) (nI i) h from rfl]
    simp only [fbX2_deepen_5, fbX2_deepen_27]
    rw [if_neg (show ¬ nI g ≤ nI i from nI_ge (by omega) (by omega))]
    by_cases q : 300000 < d
    · rw [if_pos (show (300000 : Int32) < nI d from nI_lt (a := 300000) q (by omega))]
      have : d ≤ d * b ^ (k + 1) := Nat.le_mul_of_pos_right _ (Nat.pow_pos hb.1)
      rw [Nat.min_eq_right (show 300001 ≤ d * b ^ (k + 1) by omega)]
      by_cases e : 300001 < d
      · rw [if_pos (show (300001 : Int32) < nI d from nI_lt (a := 300001) e (by omega))]
        rfl
      · rw [if_neg (show ¬ (300001 : Int32) < nI d from nI_nlt (a := 300001) (by omega) (by omega)), show d = 300001 by omega]
    · rw [if_neg (show ¬ (300000 : Int32) < nI d from nI_nlt (a := 300000) (by omega) (by omega)), gb_lt_d, gb_lt_d, gb_nI_mul, nI_1]
      have m5 : d * b ≤ 300000 * 5 := Nat.mul_le_mul (by omega) hb.2
      rw [ih F (d * b) (i + 1) (by omega) (by omega) (by omega), Nat.pow_succ, Nat.mul_assoc, Nat.mul_comm b]
theorem x_deepen {b g d : Nat} (hb : 1 ≤ b ∧ b ≤ 5) (hg : g < 1000) (hd : d ≤ 300001) (h : gb_H) : fnX2_deepen (nI d) (nI b) (nI g) h = some (nI (min (d * b ^ g) 300001), h) :=
  x_deepenN hb hg h g gb_FU d 0 (by omega) (Nat.lt_of_lt_of_le hg (by decide)) (by omega)
theorem x_depthFor {b g : Nat} {ps : List gb_P} (hb : b < 4) (hg : g < 1000) (hl : ps.length ≤ 16) (h1 : I (24 + 23 * b) 1 = nI ps.length) (hp : ∀ i p, ps[i]? = some p → gb_pOK p ∧ xP (I (26 + 23 * b + i)) p) : fnX2_depthFor (24 + 23 * b) (nI g) (gb_mk I J) = some (nI (gb_dpt g ps), gb_mk I J) := by
  simp only [fnX2_depthFor, lpX2_depthFor_4]
  refine gb_forF (fun i => (24 + 23 * b, nI g, nI (gb_dq g ps i), nI i, gb_mk I J)) ps.length (by omega) ?_ ?_
  · intro j hj k
    have e : ps[j]? = some (ps[j]) := List.getElem?_eq_getElem hj
    obtain ⟨o1, o2⟩ := hp j _ e
    have dq := gb_dq_b (g := g) (ps := ps) j
    simp only [fbX2_depthFor_4, gb_lt_d, gb_gd_t, gb_rd_s, gb_bd_s, gb_I_mk, gb_L_mk, gb_sI_mk, gb_sL_mk, gx_lyk hb, h1]
    rw [if_neg (show ¬ nI ps.length ≤ nI j from nI_ge hj (by omega))]
    have ki : gb_in (gb_mk I J) (25 + 23 * b) (nI j) = true := gb_in_k (by rw [gx_lak hb]) (show j < 16 by omega) (by omega)
    have kk : gb_k (gb_mk I J) (25 + 23 * b) 35 = true := by simp [gb_k, gx_lak hb]
    simp (disch := omega) only [gb_lt_d, gb_gd_t, gb_rd_s, gb_bd_s, gb_I_mk, gb_L_mk, gb_sI_mk, gb_sL_mk, gx_lyk hb, gx_l0 hb, ki, kk, nI_clamp, gx_lr hb (show j < 16 by omega), gx_lk hb (show j < 16 by omega), x_base (gx_lk hb (show j < 16 by omega)) o2 o1, x_deepen (gb_ba_b _) hg dq.2, nI_1]
    rw [gb_dq, e]
  · intro k
    simp only [fbX2_depthFor_4, gb_lt_d, gb_gd_t, gb_rd_s, gb_bd_s, gb_I_mk, gb_L_mk, gb_sI_mk, gb_sL_mk, gx_lyk hb, h1]
    rw [if_pos (show nI ps.length ≤ nI ps.length from nI_le (Nat.le_refl _) (by omega))]
    rfl
theorem m_power {b g : Nat} (hg : g < 1000) (h : gb_H) : fnX11_power (lN b) (nI g) h = some (lN (b ^ g), h) := by
  simp only [fnX11_power, lpX11_power_5]
  refine gb_forF (fun i => (lN b, nI g, lN (b ^ i), nI i, h)) g (by omega) ?_ ?_
  · intro j hj k
    simp only [fbX11_power_5]
    rw [if_neg (show ¬ nI g ≤ nI j from nI_ge hj (by omega)), gb_lt_d, gb_lt_d, lN_mul, nI_1, Nat.pow_succ]
  · intro k
    simp only [fbX11_power_5]
    rw [if_pos (show nI g ≤ nI g from nI_le (Nat.le_refl _) (by omega))]
theorem m_deepN {o a g room : Nat} {ps : List gb_P} (ko : ∀ (I : gb_FI) (J : gb_FJ), gb_k (gb_mk I J) o 20 = true) (ki : ∀ j, j < room → gb_in (gb_mk I J) o (nI j) = true) (hr : room ≤ 512) (hl : a + 8 * ps.length ≤ room) (hg : g ≤ 3) (hp : ∀ i p, ps[i]? = some p → gb_pOK p ∧ mP (I o) (a + 8 * i) p) :
    ∀ k i F, i + k = ps.length → k < F → (i = 0 ∨ gb_dq g ps i ≤ 300000) → lpX11_deepOf_6 F o (nI a) (nI ps.length) (nI g) (lN (gb_dq g ps i)) (nI i) (gb_mk I J) = some (nI (gb_dpt g ps), gb_mk I J) := by
  intro k
  induction k with
  | zero =>
    intro i F hi hF hd
    obtain ⟨F, rfl⟩ : ∃ f, F = f + 1 := ⟨F - 1, by omega⟩
    rw [show lpX11_deepOf_6 (F + 1) o (nI a) (nI ps.length) (nI g) (lN (gb_dq g ps i)) (nI i) (gb_mk I J) = fbX11_deepOf_6 (fun v0 v1 v2 v3 v4 v6 h => lpX11_deepOf_6 F v0 v1 v2 v3 v4 v6 h) o (nI a) (nI ps.length) (nI g) (lN (gb_dq g ps i)) (nI i) (gb_mk I J) from rfl]
    simp only [fbX11_deepOf_6]
    rw [if_pos (show nI ps.length ≤ nI i from nI_le (by omega) (by omega)), lN_i, show i = ps.length by omega]
    rfl
  | succ k ih =>
    intro i F hi hF hd
    obtain ⟨F, rfl⟩ : ∃ f, F = f + 1 := ⟨F - 1, by omega⟩
    have hj : i < ps.length := by omega
    have e : ps[i]? = some (ps[i]) := List.getElem?_eq_getElem hj
    obtain ⟨o1, o2⟩ := hp i _ e
    have dq := gb_dq_b (g := g) (ps := ps) i
    have dle : gb_dq g ps i ≤ 300000 := by
      rcases hd with w | w
      · rw [w]; show 1 ≤ 300000; decide
      · exact w
    rw [show lpX11_deepOf_6 (F + 1) o (nI a) (nI ps.length) (nI g) (lN (gb_dq g ps i)) (nI i) (gb_mk I J) = fbX11_deepOf_6 (fun v0 v1 v2 v3 v4 v6 h => lpX11_deepOf_6 F v0 v1 v2 v3 v4 v6 h) o (nI a) (nI ps.length) (nI g) (lN (gb_dq g ps i)) (nI i) (gb_mk I J) from rfl]
    have p3 : nI a + 8 * nI i + 3 = nI (a + 8 * i + 3) := by rw [gb_lit 8, gb_lit 3, gb_nI_mul, nI_add, nI_add]
    have dn : gb_dq g ps (i + 1) = min (gb_dq g ps i * gb_ba ps[i] ^ g) 300001 := by rw [gb_dq, e]
    have pw : gb_ba ps[i] ^ g ≤ 125 := Nat.le_trans (Nat.pow_le_pow_left (gb_ba_b _).2 g) (Nat.le_trans (Nat.pow_le_pow_right (by decide) hg) (by decide))
    have mle : gb_dq g ps i * gb_ba ps[i] ^ g ≤ 300000 * 125 := Nat.mul_le_mul dle pw
    have nx : ∀ v4, v4 = lN (gb_dq g ps i * gb_ba ps[i] ^ g) → fbX11_deepOf_46 (fun v0 v1 v2 v3 v4 v6 h => lpX11_deepOf_6 F v0 v1 v2 v3 v4 v6 h) o (nI a) (nI ps.length) (nI g) v4 (nI i) (gb_mk I J) = some (nI (gb_dpt g ps), gb_mk I J) := by
      intro v4 hv
      rw [hv]
      simp only [fbX11_deepOf_46]
      by_cases q : gb_dq g ps i * gb_ba ps[i] ^ g ≤ 300000
      · rw [if_pos (show lN _ ≤ (300000 : Int64) from (lN_le (b := 300000) (by omega) (by omega)).mpr q), gb_lt_d, nI_1]
        have := ih (i + 1) F (by omega) (by omega) (Or.inr (by rw [dn]; omega))
        rw [dn, Nat.min_eq_left (by omega)] at this
        exact this
      · rw [if_neg (show ¬ lN _ ≤ (300000 : Int64) from fun w => q ((lN_le (b := 300000) (by omega) (by omega)).mp w))]
        have st : ∀ x, gb_dq g ps (i + 1 + x) = 300001 := by
          intro x
          induction x with
          | zero => rw [Nat.add_zero, dn]; omega
          | succ x ihx =>
            rw [← Nat.add_assoc, gb_dq, ihx]
            split
            · rfl
            · rename_i p _
              have : 1 ≤ gb_ba p ^ g := Nat.pow_pos (gb_ba_b p).1
              have : 300001 ≤ 300001 * gb_ba p ^ g := Nat.le_mul_of_pos_right _ this
              omega
        unfold gb_dpt
        rw [show ps.length = i + 1 + k by omega, st]
        rfl
    have o3 := o2.2.2.2.1
    simp only [fbX11_deepOf_6]
    rw [if_neg (show ¬ nI ps.length ≤ nI i from nI_ge hj (by omega))]
    simp (disch := omega) only [gb_lt_d, gb_gd_t, gb_rd_s, gb_bd_s, gb_I_mk, gb_L_mk, gb_sI_mk, gb_sL_mk, p3, ko, ki (a + 8 * i + 3) (by omega), nI_clamp, o3]
    by_cases z : ps[i].2.2.2.1 = 0
    · rw [if_pos z, if_pos (show (-1 : Int32) = -1 from rfl)]
      refine nx _ ?_
      rw [show gb_ba ps[i] = 1 from if_pos z, Nat.one_pow, Nat.mul_one]
    · rw [if_neg z]
      have k3 := o1.2.2.2.1
      rw [if_neg (gb_nmi (ps[i].2.2.2.1 - 1) (by omega))]
      have me : fnX11_measure (nI (ps[i].2.2.2.1 - 1)) (gb_mk I J) = some (nI (gb_ba ps[i]), gb_mk I J) := by
        simp only [fnX11_measure, fbX11_measure_10]
        unfold gb_ba
        rw [if_neg z]
        by_cases y : ps[i].2.2.2.1 = 3
        · rw [y, if_pos (show nI (3 - 1) = 2 from rfl), if_pos rfl]
          rfl
        · rw [if_neg (show ¬ nI (ps[i].2.2.2.1 - 1) = 2 from fun w => by have := (nI_eq (b := 2) (by omega) (by omega)).mp w; omega), if_neg y]
          rfl
      have b5 := (gb_ba_b ps[i]).2
      simp only [me, gb_lt_d, gb_gd_t, gb_rd_s, gb_bd_s, gb_I_mk, gb_L_mk, gb_sI_mk, gb_sL_mk, nI_L (show gb_ba ps[i] < 2 ^ 31 by omega), m_power (show g < 1000 by omega), lN_mul]
      exact nx _ rfl
theorem m_deepOf {o a g room : Nat} {ps : List gb_P} (ko : ∀ (I : gb_FI) (J : gb_FJ), gb_k (gb_mk I J) o 20 = true) (ki : ∀ j, j < room → gb_in (gb_mk I J) o (nI j) = true) (hr : room ≤ 512) (hl : a + 8 * ps.length ≤ room) (hg : g ≤ 3) (hp : ∀ i p, ps[i]? = some p → gb_pOK p ∧ mP (I o) (a + 8 * i) p) :
    fnX11_deepOf o (nI a) (nI ps.length) (nI g) (gb_mk I J) = some (nI (gb_dpt g ps), gb_mk I J) :=
  m_deepN ko ki hr hl hg hp ps.length 0 gb_FU (by omega) (show ps.length < 1000000 by omega) (Or.inl rfl)
end DEEP
