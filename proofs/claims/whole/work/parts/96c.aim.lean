section AIM
variable {I I' I1 I2 : gb_FI} {J J' : gb_FJ} {o s q : Nat} {p : gb_P}
/-- the path other than x of the two that a part names -/
def gb_oth (p : gb_P) (x : Nat) : Nat := if x = p.2.1 then p.2.2.1 else p.2.1
def gb_hit (p : gb_P) (x : Nat) : Bool := decide (((p.1 = 0 ∨ p.1 = 3) ∧ (x = p.2.1 ∨ x = p.2.2.1)) ∨ ((p.1 = 1 ∨ p.1 = 2 ∨ p.1 = 4) ∧ x = p.2.1))
/-- the branches of a seat that is met: its path x, its mark k -/
def gb_hl (p : gb_P) (x k : Nat) : List gb_br :=
  if p.1 = 0 then [(gb_st' p, gb_ro' p, 0, 2 * x + k + 1), (gb_go' p, gb_ro' p, 1, 2 * gb_oth p x + k + 1)]
  else if p.1 = 1 then [(gb_st' p, gb_ro' p, 0, 2 * x + k + 1), (gb_go' p, gb_ro' p, 2 * k, 2 * x + (1 - k) + 1)]
  else if p.1 = 2 then [(1, 0, if p.2.2.2.2.1 = 2 ∨ p.2.2.2.2.1 = k then p.2.2.2.2.2.1 else 0, 2 * x + k + 1)]
  else if p.1 = 3 then [(1, 0, 0, 2 * gb_oth p x + k + 1)]
  else [(gb_st' p, gb_ro' p, 0, 2 * x + k + 1), (gb_go' p, gb_ro' p, 1, 2 * (5 + p.2.2.2.2.2.2.2.2) + k + 1)]
/-- the branches of the seats, where the marks below m have been looked at -/
def gb_tb (p : gb_P) (m s : Nat) : List gb_br :=
  if s = 0 then [(1, 0, 0, 0)]
  else if (s - 1) % 2 < m ∧ gb_hit p ((s - 1) / 2) = true then gb_hl p ((s - 1) / 2) ((s - 1) % 2)
  else [(gb_ba p, 0, 0, s)]
theorem gb_tb_0 (s : Nat) : gb_tb p 0 s = if s = 0 then [(1, 0, 0, 0)] else [(gb_ba p, 0, 0, s)] := by
  unfold gb_tb
  by_cases a : s = 0
  · rw [if_pos a, if_pos a]
  · rw [if_neg a, if_neg a, if_neg (fun w => by omega)]
theorem gb_tb_k {m : Nat} (h : s = 0 ∨ (s - 1) % 2 ≠ m ∨ ¬ gb_hit p ((s - 1) / 2) = true) : gb_tb p (m + 1) s = gb_tb p m s := by
  unfold gb_tb
  by_cases a : s = 0
  · rw [if_pos a, if_pos a]
  · rw [if_neg a, if_neg a]
    by_cases b : gb_hit p ((s - 1) / 2) = true
    · by_cases c : (s - 1) % 2 < m
      · rw [if_pos ⟨show (s - 1) % 2 < m + 1 by omega, b⟩, if_pos ⟨c, b⟩]
      · have : (s - 1) % 2 ≠ m := by
          rcases h with w | w | w
          · exact absurd w a
          · exact w
          · exact absurd b w
        rw [if_neg (show ¬ ((s - 1) % 2 < m + 1 ∧ gb_hit p ((s - 1) / 2) = true) from fun w => by omega), if_neg (fun w => c w.1)]
    · rw [if_neg (fun w => b w.2), if_neg (fun w => b w.2)]
theorem gb_tb_h {m x : Nat} (hm : m < 2) (h : gb_hit p x = true) : gb_tb p (m + 1) (2 * x + m + 1) = gb_hl p x m := by
  unfold gb_tb
  rw [if_neg (by omega), show 2 * x + m + 1 - 1 = 2 * x + m by omega, show (2 * x + m) / 2 = x by omega, show (2 * x + m) % 2 = m by omega, if_pos ⟨by omega, h⟩]
theorem gb_hit_t {x : Nat} : gb_hit p x = true ↔ (((p.1 = 0 ∨ p.1 = 3) ∧ (x = p.2.1 ∨ x = p.2.2.1)) ∨ ((p.1 = 1 ∨ p.1 = 2 ∨ p.1 = 4) ∧ x = p.2.1)) := by simp [gb_hit]
theorem xP.keep {r r' : Nat → Int32} (h : xP r p) (e : r' = r) : xP r' p := by rw [e]; exact h
/-- one mark looked at -/
theorem x_aim43 (hO : gb_OP o) (hk : ∀ (I : gb_FI) (J : gb_FJ), gb_k (gb_mk I J) q 5 = true) (hp : xP (I q) p) (ok : gb_pOK p) (hne : (p.1 = 0 ∨ p.1 = 3) → p.2.2.1 ≠ p.2.1) (hq : q ≤ o ∨ o + 5 < q) {m : Nat} (hm : m < 2) (h : ∀ s, s < 17 → xOs I o s (gb_tb p m s)) (k : Nat → Nat → Int32 → gb_H → Option (Unit × gb_H)) :
    ∃ I', fbX4_aim_43 k o q (nI m) (gb_mk I J) = k o q (nI (m + 1)) (gb_mk I' J) ∧ (∀ s, s < 17 → xOs I' o s (gb_tb p (m + 1) s)) ∧ ∀ y, y ≤ o ∨ o + 5 < y → I' y = I y := by
  obtain ⟨b0, b1, b2, b3, b4, b5, b6, b7, b8⟩ := ok
  have okk : gb_pOK p := ⟨b0, b1, b2, b3, b4, b5, b6, b7, b8⟩
  have k0 : ∀ (I : gb_FI) (J : gb_FJ), gb_k (gb_mk I J) o 4 = true := fun I J => (hO I J).1
  obtain ⟨f0, f1, f2, f3, f4, f5, f6, f7, f8⟩ := hp
  have hp : xP (I q) p := ⟨f0, f1, f2, f3, f4, f5, f6, f7, f8⟩
  have se : ∀ x y, (2 : Int32) * nI x + nI y + 1 = nI (2 * x + y + 1) := fun x y => by rw [gb_lit 2, gb_nI_mul, nI_add, nI_1]
  have kp : ∀ I', gb_oM o (2 * p.2.1 + m + 1) I I' → xP (I' q) p := fun I' w => hp.keep (w.2 q hq)
  simp only [fbX4_aim_43, fnX4_seatOf]
  rw [if_neg (show ¬ (2 : Int32) ≤ nI m from nI_ge (a := m) (b := 2) hm (by omega))]
  simp only [gb_lt_d, gb_gd_t, gb_rd_s, gb_bd_s, gb_I_mk, gb_L_mk, gb_sI_mk, gb_sL_mk, hk, f0, f1, f2, se]
  by_cases a0 : p.1 = 0
  · rw [a0, if_pos (show nI 0 = 0 from rfl)]
    have ne := hne (Or.inl a0)
    obtain ⟨I1, e1, e2, e3⟩ := x_fork (J := J) (I := I) hO (s := 2 * p.2.1 + m + 1) (by omega) hk hp okk hq 1 (2 * p.2.2.1 + m + 1)
    obtain ⟨I2, d1, d2, d3⟩ := x_fork (J := J) (I := I1) hO (s := 2 * p.2.2.1 + m + 1) (by omega) hk (kp I1 e3) okk hq 1 (2 * p.2.1 + m + 1)
    refine ⟨I2, ?_, fun s hs => ?_, fun y hy => (d3.2 y hy).trans (e3.2 y hy)⟩
    · rw [show nI 1 = 1 from rfl] at e1 d1
      simp only [gb_lt_d, gb_gd_t, gb_rd_s, gb_bd_s, gb_I_mk, gb_L_mk, gb_sI_mk, gb_sL_mk, k0, e1, d1, fbX4_aim_219, nI_1]
    · by_cases s1 : s = 2 * p.2.2.1 + m + 1
      · rw [s1, gb_tb_h hm (gb_hit_t.mpr (Or.inl ⟨Or.inl a0, Or.inr rfl⟩))]
        unfold gb_hl gb_oth
        rw [if_pos a0, if_neg ne]
        exact d2
      · by_cases s2 : s = 2 * p.2.1 + m + 1
        · rw [s2, gb_tb_h hm (gb_hit_t.mpr (Or.inl ⟨Or.inl a0, Or.inl rfl⟩))]
          unfold gb_hl gb_oth
          rw [if_pos a0, if_pos rfl]
          exact d3.1 _ _ (by omega) e2
        · rw [gb_tb_k (by
            by_cases z : s = 0
            · exact Or.inl z
            · by_cases z2 : (s - 1) % 2 = m
              · refine Or.inr (Or.inr (fun w => ?_))
                have := gb_hit_t.mp w
                omega
              · exact Or.inr (Or.inl z2))]
          exact d3.1 _ _ s1 (e3.1 _ _ s2 (h s hs))
  · rw [if_neg (show ¬ nI p.1 = 0 from nI_ne0 (by omega) (by omega))]
    have hk1 : ∀ s, s < 17 → s ≠ 2 * p.2.1 + m + 1 → (p.1 = 3 → s ≠ 2 * p.2.2.1 + m + 1) → gb_tb p (m + 1) s = gb_tb p m s := fun s hs z1 z3 => gb_tb_k (by
      by_cases z : s = 0
      · exact Or.inl z
      · by_cases z2 : (s - 1) % 2 = m
        · refine Or.inr (Or.inr (fun w => ?_))
          have := gb_hit_t.mp w
          omega
        · exact Or.inr (Or.inl z2))
    by_cases a1 : p.1 = 1
    · rw [a1, if_pos (show nI 1 = 1 from rfl)]
      have r1 : (1 : Int32) - nI m = nI (1 - m) := gb_nI_sub (a := 1) (by omega)
      have r2 : (2 : Int32) * nI m = nI (2 * m) := gb_nI_mul 2 m
      obtain ⟨I1, e1, e2, e3⟩ := x_fork (J := J) (I := I) hO (s := 2 * p.2.1 + m + 1) (by omega) hk hp okk hq (2 * m) (2 * p.2.1 + (1 - m) + 1)
      refine ⟨I1, ?_, fun s hs => ?_, e3.2⟩
      · simp only [gb_lt_d, gb_gd_t, gb_rd_s, gb_bd_s, gb_I_mk, gb_L_mk, gb_sI_mk, gb_sL_mk, k0, r1, r2, se, e1, fbX4_aim_219, nI_1]
      · by_cases s2 : s = 2 * p.2.1 + m + 1
        · rw [s2, gb_tb_h hm (gb_hit_t.mpr (Or.inr ⟨Or.inl a1, rfl⟩))]
          unfold gb_hl
          rw [if_neg a0, if_pos a1]
          exact e2
        · rw [hk1 s hs s2 (fun w => by omega)]
          exact e3.1 _ _ s2 (h s hs)
    · rw [if_neg (show ¬ nI p.1 = 1 from fun w => a1 ((nI_eq (b := 1) (by omega) (by omega)).mp w))]
      by_cases a2 : p.1 = 2
      · rw [a2, if_pos (show nI 2 = 2 from rfl)]
        have fin : ∀ t, t = (if p.2.2.2.2.1 = 2 ∨ p.2.2.2.2.1 = m then p.2.2.2.2.2.1 else 0) → ∃ I', fbX4_aim_174 k o q (nI m) o (nI (2 * p.2.1 + m + 1)) (nI (2 * p.2.1 + m + 1)) (nI t) (gb_mk I J) = k o q (nI (m + 1)) (gb_mk I' J) ∧ (∀ s, s < 17 → xOs I' o s (gb_tb p (m + 1) s)) ∧ ∀ y, y ≤ o ∨ o + 5 < y → I' y = I y := by
          intro t ht
          obtain ⟨I1, e1, e2, e3⟩ := x_bend (J := J) (I := I) hO (s := 2 * p.2.1 + m + 1) (by omega) t (2 * p.2.1 + m + 1)
          refine ⟨I1, ?_, fun s hs => ?_, e3.2⟩
          · simp only [fbX4_aim_174, gb_lt_d, gb_gd_t, gb_rd_s, gb_bd_s, gb_I_mk, gb_L_mk, gb_sI_mk, gb_sL_mk, k0, e1, fbX4_aim_219, nI_1]
          · by_cases s2 : s = 2 * p.2.1 + m + 1
            · rw [s2, gb_tb_h hm (gb_hit_t.mpr (Or.inr ⟨Or.inr (Or.inl a2), rfl⟩))]
              unfold gb_hl
              rw [if_neg a0, if_neg a1, if_pos a2, ← ht]
              exact e2
            · rw [hk1 s hs s2 (fun w => by omega)]
              exact e3.1 _ _ s2 (h s hs)
        simp only [fbX4_aim_166, gb_lt_d, gb_gd_t, gb_rd_s, gb_bd_s, gb_I_mk, gb_L_mk, gb_sI_mk, gb_sL_mk, hk, f4, f5]
        by_cases z : p.2.2.2.2.1 = 2
        · rw [show gb_m1 2 p.2.2.2.2.1 = -1 from if_pos z, if_pos (show (-1 : Int32) = -1 from rfl)]
          exact fin _ (if_pos (Or.inl z)).symm
        · rw [show gb_m1 2 p.2.2.2.2.1 = nI p.2.2.2.2.1 from if_neg z, if_neg (gb_nmi _ (by omega))]
          by_cases z2 : p.2.2.2.2.1 = m
          · rw [if_pos (show nI p.2.2.2.2.1 = nI m by rw [z2])]
            exact fin _ (if_pos (Or.inr z2)).symm
          · rw [if_neg (show ¬ nI p.2.2.2.2.1 = nI m from fun w => z2 ((nI_eq (by omega) (by omega)).mp w))]
            exact fin 0 (if_neg (fun w => by omega)).symm
      · rw [if_neg (show ¬ nI p.1 = 2 from fun w => a2 ((nI_eq (b := 2) (by omega) (by omega)).mp w))]
        by_cases a3 : p.1 = 3
        · rw [a3, if_pos (show nI 3 = 3 from rfl)]
          have ne := hne (Or.inr a3)
          obtain ⟨I1, e1, e2, e3⟩ := x_bend (J := J) (I := I) hO (s := 2 * p.2.1 + m + 1) (by omega) 0 (2 * p.2.2.1 + m + 1)
          obtain ⟨I2, d1, d2, d3⟩ := x_bend (J := J) (I := I1) hO (s := 2 * p.2.2.1 + m + 1) (by omega) 0 (2 * p.2.1 + m + 1)
          refine ⟨I2, ?_, fun s hs => ?_, fun y hy => (d3.2 y hy).trans (e3.2 y hy)⟩
          · rw [show nI 0 = 0 from rfl] at e1 d1
            simp only [gb_lt_d, gb_gd_t, gb_rd_s, gb_bd_s, gb_I_mk, gb_L_mk, gb_sI_mk, gb_sL_mk, k0, e1, d1, fbX4_aim_219, nI_1]
          · by_cases s1 : s = 2 * p.2.2.1 + m + 1
            · rw [s1, gb_tb_h hm (gb_hit_t.mpr (Or.inl ⟨Or.inr a3, Or.inr rfl⟩))]
              unfold gb_hl gb_oth
              rw [if_neg a0, if_neg a1, if_neg a2, if_pos a3, if_neg ne]
              exact d2
            · by_cases s2 : s = 2 * p.2.1 + m + 1
              · rw [s2, gb_tb_h hm (gb_hit_t.mpr (Or.inl ⟨Or.inr a3, Or.inl rfl⟩))]
                unfold gb_hl gb_oth
                rw [if_neg a0, if_neg a1, if_neg a2, if_pos a3, if_pos rfl]
                exact d3.1 _ _ (by omega) e2
              · rw [hk1 s hs s2 (fun _ => s1)]
                exact d3.1 _ _ s1 (e3.1 _ _ s2 (h s hs))
        · rw [if_neg (show ¬ nI p.1 = 3 from fun w => a3 ((nI_eq (b := 3) (by omega) (by omega)).mp w))]
          by_cases a4 : p.1 = 4
          · rw [a4, if_pos (show nI 4 = 4 from rfl)]
            have r5 : (5 : Int32) + nI p.2.2.2.2.2.2.2.2 = nI (5 + p.2.2.2.2.2.2.2.2) := nI_add 5 _
            obtain ⟨I1, e1, e2, e3⟩ := x_fork (J := J) (I := I) hO (s := 2 * p.2.1 + m + 1) (by omega) hk hp okk hq 1 (2 * (5 + p.2.2.2.2.2.2.2.2) + m + 1)
            refine ⟨I1, ?_, fun s hs => ?_, e3.2⟩
            · rw [show nI 1 = 1 from rfl] at e1
              simp only [gb_lt_d, gb_gd_t, gb_rd_s, gb_bd_s, gb_I_mk, gb_L_mk, gb_sI_mk, gb_sL_mk, hk, f8, r5, k0, se, e1, fbX4_aim_219, nI_1]
            · by_cases s2 : s = 2 * p.2.1 + m + 1
              · rw [s2, gb_tb_h hm (gb_hit_t.mpr (Or.inr ⟨Or.inr (Or.inr a4), rfl⟩))]
                unfold gb_hl
                rw [if_neg a0, if_neg a1, if_neg a2, if_neg a3]
                exact e2
              · rw [hk1 s hs s2 (fun w => by omega)]
                exact e3.1 _ _ s2 (h s hs)
          · rw [if_neg (show ¬ nI p.1 = 4 from fun w => a4 ((nI_eq (b := 4) (by omega) (by omega)).mp w))]
            refine ⟨I, ?_, fun s hs => ?_, fun _ _ => rfl⟩
            · simp only [fbX4_aim_219, gb_lt_d, gb_gd_t, gb_rd_s, gb_bd_s, gb_I_mk, gb_L_mk, gb_sI_mk, gb_sL_mk, nI_1]
            · rw [gb_tb_k (Or.inr (Or.inr (fun w => by have := gb_hit_t.mp w; omega)))]
              exact h s hs
theorem x_aim (hO : gb_OP o) (hk : ∀ (I : gb_FI) (J : gb_FJ), gb_k (gb_mk I J) q 5 = true) (hp : xP (I q) p) (ok : gb_pOK p) (hne : (p.1 = 0 ∨ p.1 = 3) → p.2.2.1 ≠ p.2.1) (hq : q ≤ o ∨ o + 5 < q) :
    ∃ I', fnX4_aim o q (gb_mk I J) = some ((), gb_mk I' J) ∧ (∀ s, s < 17 → xOs I' o s (gb_tb p 2 s)) ∧ ∀ y, y ≤ o ∨ o + 5 < y → I' y = I y := by
  have k0 : ∀ (I : gb_FI) (J : gb_FJ), gb_k (gb_mk I J) o 4 = true := fun I J => (hO I J).1
  have r0 : ∀ (I : gb_FI) (J : gb_FJ), gb_R (gb_mk I J) o 0 = some (o + 1) := fun I J => (hO I J).2.1
  have d1 : ∀ (I : gb_FI) (J : gb_FJ), gb_kd (gb_mk I J) (o + 1) = (20, 17) := fun I J => (hO I J).2.2.2.2.2.2.1
  have k1 : ∀ (I : gb_FI) (J : gb_FJ), gb_k (gb_mk I J) (o + 1) 20 = true := fun I J => by simp [gb_k, d1]
  have i1 : ∀ s, s < 17 → ∀ (I : gb_FI) (J : gb_FJ), gb_in (gb_mk I J) (o + 1) (nI s) = true := fun s hs I J => gb_in_k (by rw [d1]) hs (by omega)
  have fin : ∀ I1 : gb_FI, (∀ s, s < 17 → xOs I1 o s (gb_tb p 0 s)) → (∀ y, y ≤ o ∨ o + 5 < y → I1 y = I y) → ∃ I', lpX4_aim_43 gb_FU o q 0 (gb_mk I1 J) = some ((), gb_mk I' J) ∧ (∀ s, s < 17 → xOs I' o s (gb_tb p 2 s)) ∧ ∀ y, y ≤ o ∨ o + 5 < y → I' y = I y := by
    intro I1 h1 f1
    obtain ⟨I2, a1, a2, a3⟩ := x_aim43 (J := J) hO hk (hp.keep (f1 q hq)) ok hne hq (m := 0) (by decide) h1 (fun v0 v1 v2 h => lpX4_aim_43 999999 v0 v1 v2 h)
    obtain ⟨I3, b1, b2, b3⟩ := x_aim43 (J := J) hO hk (hp.keep ((a3 q hq).trans (f1 q hq))) ok hne hq (m := 1) (by decide) a2 (fun v0 v1 v2 h => lpX4_aim_43 999998 v0 v1 v2 h)
    refine ⟨I3, ?_, b2, fun y hy => ((b3 y hy).trans (a3 y hy)).trans (f1 y hy)⟩
    rw [show gb_FU = 999999 + 1 from rfl, show lpX4_aim_43 (999999 + 1) o q 0 (gb_mk I1 J) = fbX4_aim_43 (fun v0 v1 v2 h => lpX4_aim_43 999999 v0 v1 v2 h) o q (nI 0) (gb_mk I1 J) from rfl, a1]
    show lpX4_aim_43 (999998 + 1) o q (nI 1) (gb_mk I2 J) = _
    rw [show lpX4_aim_43 (999998 + 1) o q (nI 1) (gb_mk I2 J) = fbX4_aim_43 (fun v0 v1 v2 h => lpX4_aim_43 999998 v0 v1 v2 h) o q (nI 1) (gb_mk I2 J) from rfl, b1]
    show lpX4_aim_43 (999997 + 1) o q (nI 2) (gb_mk I3 J) = _
    rw [show lpX4_aim_43 (999997 + 1) o q (nI 2) (gb_mk I3 J) = fbX4_aim_43 (fun v0 v1 v2 h => lpX4_aim_43 999997 v0 v1 v2 h) o q (nI 2) (gb_mk I3 J) from rfl]
    simp only [fbX4_aim_43]
    rw [if_pos (show (2 : Int32) ≤ nI 2 by decide)]
  have lp : ∀ k i F (I1 : gb_FI), i + k = 17 → k < F → (∀ s, s < i → xOs I1 o s (gb_tb p 0 s)) → (∀ y, y ≤ o ∨ o + 5 < y → I1 y = I y) → ∃ I', lpX4_aim_2 F o q (nI i) (gb_mk I1 J) = some ((), gb_mk I' J) ∧ (∀ s, s < 17 → xOs I' o s (gb_tb p 2 s)) ∧ ∀ y, y ≤ o ∨ o + 5 < y → I' y = I y := by
    intro k
    induction k with
    | zero =>
      intro i F I1 hi hF h1 f1
      obtain ⟨F, rfl⟩ : ∃ f, F = f + 1 := ⟨F - 1, by omega⟩
      rw [show lpX4_aim_2 (F + 1) o q (nI i) (gb_mk I1 J) = fbX4_aim_2 (fun v0 v1 v2 h => lpX4_aim_2 F v0 v1 v2 h) o q (nI i) (gb_mk I1 J) from rfl]
      unfold fbX4_aim_2
      rw [if_pos (show (17 : Int32) ≤ nI i from nI_le (a := 17) (by omega) (by omega))]
      exact fin I1 (fun s hs => h1 s (by omega)) f1
    | succ k ih =>
      intro i F I1 hi hF h1 f1
      obtain ⟨F, rfl⟩ : ∃ f, F = f + 1 := ⟨F - 1, by omega⟩
      have hs : i < 17 := by omega
      rw [show lpX4_aim_2 (F + 1) o q (nI i) (gb_mk I1 J) = fbX4_aim_2 (fun v0 v1 v2 h => lpX4_aim_2 F v0 v1 v2 h) o q (nI i) (gb_mk I1 J) from rfl]
      unfold fbX4_aim_2
      rw [if_neg (show ¬ (17 : Int32) ≤ nI i from nI_ge (a := i) (b := 17) hs (by omega))]
      obtain ⟨c1, c2⟩ := x_clr (I := I1) hO hs
      have nx : ∀ b, [(b, 0, 0, i)] = gb_tb p 0 i → ∃ I', (gb_gd (gb_k (gb_mk (gb_u I1 (o + 1) i 0) J) o 4) <| gb_bd (fnX4_lead o (nI i) (nI i) (nI b) 0 0 (gb_mk (gb_u I1 (o + 1) i 0) J)) fun _ h3 => gb_lt (nI i + 1) fun x4 => lpX4_aim_2 F o q x4 h3) = some ((), gb_mk I' J) ∧ (∀ s, s < 17 → xOs I' o s (gb_tb p 2 s)) ∧ ∀ y, y ≤ o ∨ o + 5 < y → I' y = I y := by
        intro b hb
        have l1 := x_lead (J := J) hO c1 (by decide) hs (b, 0, 0, i)
        have s1 := gb_ld_s c1 (by decide) (b, 0, 0, i)
        have m1 := c2.t (gb_ld_m [] (by decide) (b, 0, 0, i))
        have u := ih (i + 1) F (gb_ld (gb_u I1 (o + 1) i 0) o i 0 (b, 0, 0, i)) (by omega) (by omega) (fun s hs' => by
          by_cases e : s = i
          · rw [e, ← hb]; exact s1
          · exact m1.1 s _ e (h1 s (by omega))) (fun y hy => (m1.2 y hy).trans (f1 y hy))
        rw [k0, gb_gd_t, show fnX4_lead o (nI i) (nI i) (nI b) 0 0 (gb_mk (gb_u I1 (o + 1) i 0) J) = some ((), gb_mk (gb_ld (gb_u I1 (o + 1) i 0) o i 0 (b, 0, 0, i)) J) from l1, gb_bd_s, gb_lt_d, nI_1]
        exact u
      by_cases z : i = 0
      · subst z
        have u := nx 1 (by rw [gb_tb_0, if_pos rfl])
        simp (disch := omega) only [gb_lt_d, gb_gd_t, gb_rd_s, gb_bd_s, gb_I_mk, gb_L_mk, gb_sI_mk, gb_sL_mk, k0, r0, k1, i1 0 hs, nI_clamp, fbX4_aim_30]
        rw [if_pos (show nI 0 = 0 from rfl)]
        simp only [gb_lt_d, gb_gd_t, gb_rd_s, gb_bd_s, gb_I_mk, gb_L_mk, gb_sI_mk, gb_sL_mk, k0] at u
        exact u
      · have u := nx (gb_ba p) (by rw [gb_tb_0, if_neg z])
        have bs := x_base (J := J) hk (show xP (gb_u I1 (o + 1) i 0 q) p from hp.keep ((c2.2 q hq).trans (f1 q hq))) ok
        simp (disch := omega) only [gb_lt_d, gb_gd_t, gb_rd_s, gb_bd_s, gb_I_mk, gb_L_mk, gb_sI_mk, gb_sL_mk, k0, r0, k1, i1 i hs, nI_clamp, fbX4_aim_30, hk, bs]
        rw [if_neg (nI_ne0 (by omega) (by omega))]
        simp only [gb_lt_d, gb_gd_t, gb_rd_s, gb_bd_s, gb_I_mk, gb_L_mk, gb_sI_mk, gb_sL_mk, k0] at u
        exact u
  exact lp 17 0 gb_FU I (by decide) (by decide) (fun s hs => absurd hs (by omega)) (fun _ _ => rfl)
end AIM
