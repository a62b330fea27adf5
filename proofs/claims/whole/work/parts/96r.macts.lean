section MACTS5
variable {I I' I1 I2 : gb_FI} {J J' J1 J2 : gb_FJ} {p : gb_P} {o a room m cs ls : Nat}
theorem gm_rs.t {oth oth' : Nat} {S G S' G' : gb_q} (x : gm_rs I I1 J J1 oth S G) (y : gm_rs I1 I2 J1 J2 oth' S' G') : gm_rs I I2 J J2 oth' S' G' := ⟨y.1, fun a k h => (y.2.1 a k h).trans (x.2.1 a k h), fun a h1 h2 => (y.2.2.1 a h1 h2).trans (x.2.2.1 a h1 h2), y.2.2.2.1, y.2.2.2.2⟩
set_option maxHeartbeats 8000000 in
/-- what the mode m becomes, by the reference -/
theorem m_acts37 (ko : ∀ (I : gb_FI) (J : gb_FJ), gb_k (gb_mk I J) o 20 = true) (ki : ∀ j, j < room → ∀ (I : gb_FI) (J : gb_FJ), gb_in (gb_mk I J) o (nI j) = true) (ho : o ≠ 241) (hr : room ≤ 512) (ha : a + 8 ≤ room) (hp : mP (I o) a p) (w : gb_wp cs ls p) (h5 : p.1 ≠ 5) (hm : m < 16) {v7 : Int32} (h7 : v7 = if p.2.2.2.1 = 0 then -1 else nI (p.2.2.2.1 - 1)) :
    ∃ I' J' oth S G, fbX11_acts_37 241 o (nI a) (nI m) (nI p.1) (nI (m / 2)) (nI (m % 2)) v7 (nI (gb_ba p)) (gb_mk I J) = some ((), gb_mk I' J') ∧ gm_rs I I' J J' oth S G ∧ oth < 16 ∧ ∀ (X : gb_q) (F : Nat → gb_q), q4 (qmul X S) (F (m + 1)) + q4 (qmul X G) (F (oth + 1)) = q4 X (qL (gb_tb p 2 (m + 1)) (fun e => qM (lN e.1) e.2.1 e.2.2.1 (F e.2.2.2))) := by
  obtain ⟨ok, w1, w2, w3, w4, w5, w6⟩ := w
  obtain ⟨c0, c1, c2, c3, c4, c5, c6, c7, c8⟩ := ok
  have okk : gb_pOK p := ⟨c0, c1, c2, c3, c4, c5, c6, c7, c8⟩
  have b5 := (gb_ba_b p).2
  have r1 : gb_ro' p ≤ 1 := by unfold gb_ro'; split <;> omega
  have g0 : gm_rs I (gb_u I 241 25 (nI m)) J (gb_p4 (gb_p4 J 254 (gcf (lN (gb_ba p)) 0 0)) 255 qZ) m (gcf (lN (gb_ba p)) 0 0) qZ := gm_rs.mk'
  have hpK : mP (gb_u I 241 25 (nI m) o) a p := by rw [gb_u_row _ _ ho]; exact hp
  unfold fbX11_acts_37
  rw [gk241, gb_gd_t, gb_lt_d, gb_sI_mk, gk241, gb_gd_t, gr241_26, gb_rd_s, nI_L (show gb_ba p < 2 ^ 31 by omega), show fnX11_puts 254 (lN (gb_ba p)) 0 0 0 (gb_mk (gb_u I 241 25 (nI m)) J) = _ from m_puts (Or.inl rfl) (gcf (lN (gb_ba p)) 0 0), gb_bd_s, gk241, gb_gd_t, gr241_27, gb_rd_s, show fnX11_puts 255 0 0 0 0 (gb_mk (gb_u I 241 25 (nI m)) (gb_p4 J 254 (gcf (lN (gb_ba p)) 0 0))) = _ from m_puts (Or.inr rfl) qZ, gb_bd_s]
  generalize gb_u I 241 25 (nI m) = K at *
  generalize gb_p4 (gb_p4 J 254 (gcf (lN (gb_ba p)) 0 0)) 255 qZ = L at *
  obtain ⟨m0, m1, m2, m3, m4, m5, m6⟩ := hpK
  have hpK : mP (K o) a p := ⟨m0, m1, m2, m3, m4, m5, m6⟩
  have p1 : nI a + 1 = nI (a + 1) := nI_1 a
  have p2 : nI a + 2 = nI (a + 2) := nI_add a 2
  have p4 : nI a + 4 = nI (a + 4) := nI_add a 4
  have dflt : ¬ gb_hit p (m / 2) = true → ∃ I' J' oth S G, (some ((), gb_mk K L) : Option (Unit × gb_H)) = some ((), gb_mk I' J') ∧ gm_rs I I' J J' oth S G ∧ oth < 16 ∧ ∀ (X : gb_q) (F : Nat → gb_q), q4 (qmul X S) (F (m + 1)) + q4 (qmul X G) (F (oth + 1)) = q4 X (qL (gb_tb p 2 (m + 1)) (fun e => qM (lN e.1) e.2.1 e.2.2.1 (F e.2.2.2))) := fun nh =>
    ⟨K, L, m, gcf (lN (gb_ba p)) 0 0, qZ, rfl, g0, hm, fun X F => by rw [gb_tb_no hm nh]; exact gm_one (by decide) rfl X F⟩
  by_cases h4 : m / 2 ≤ 4
  · rw [if_pos (show nI (m / 2) ≤ 4 from nI_le (a := m / 2) (b := 4) h4 (by omega))]
    have i1 := ki (a + 1) (by omega)
    have i2 := ki (a + 2) (by omega)
    have i4 := ki (a + 4) (by omega)
    have eqf : nI (m / 2) = nI p.2.1 ↔ m / 2 = p.2.1 := nI_eq (by omega) (by omega)
    have eqs : nI (m / 2) = nI p.2.2.1 ↔ m / 2 = p.2.2.1 := nI_eq (by omega) (by omega)
    have e2m : 2 * (m / 2) + m % 2 = m := by omega
    by_cases a0 : p.1 = 0
    · have hk : p.2.2.2.1 ≠ 0 := fun z => by have := w5.mp z; omega
      rw [if_neg hk] at h7
      have m2' : K o (a + 2) = nI p.2.2.1 := by rw [m2, if_neg (by omega)]
      rw [if_pos (show nI p.1 = 0 by rw [a0]; rfl), gb_lt_d, p1, ko, gb_gd_t, i1, gb_gd_t, gb_I_mk, nI_clamp (by omega), m1]
      have hit : (m / 2 = p.2.1 ∨ m / 2 = p.2.2.1) → ∃ I' J' oth S G, fbX11_acts_100 241 o (nI a) (nI (m / 2)) (nI (m % 2)) v7 (gb_mk K L) = some ((), gb_mk I' J') ∧ gm_rs I I' J J' oth S G ∧ oth < 16 ∧ ∀ (X : gb_q) (F : Nat → gb_q), q4 (qmul X S) (F (m + 1)) + q4 (qmul X G) (F (oth + 1)) = q4 X (qL (gb_tb p 2 (m + 1)) (fun e => qM (lN e.1) e.2.1 e.2.2.1 (F e.2.2.2))) := by
        intro hh
        obtain ⟨I2, J2, s1, s2⟩ := m_acts100 (I := K) (J := L) ko ki hr ha hpK okk hk a0 (x := m / 2) (t := m % 2) (by omega) (by omega) h7
        refine ⟨I2, J2, _, _, _, s1, g0.t s2, by unfold gb_oth; split <;> omega, fun X F => ?_⟩
        rw [gb_tb_yes hm (gb_hit_t.mpr (Or.inl ⟨Or.inl a0, hh⟩))]
        unfold gb_hl
        rw [if_pos a0, e2m]
        exact gm_two r1 rfl rfl X F
      by_cases e1 : m / 2 = p.2.1
      · rw [if_pos (eqf.mpr e1)]
        exact hit (Or.inl e1)
      · rw [if_neg (fun z => e1 (eqf.mp z)), gb_lt_d, p2, gb_gd_t, i2, gb_gd_t, nI_clamp (by omega), m2']
        by_cases e2 : m / 2 = p.2.2.1
        · rw [if_pos (eqs.mpr e2)]
          exact hit (Or.inr e2)
        · rw [if_neg (fun z => e2 (eqs.mp z))]
          unfold fbX11_acts_159 fbX11_acts_218 fbX11_acts_278 fbX11_acts_361 fbX11_acts_459
          rw [if_neg (show ¬ nI p.1 = 1 by rw [a0]; decide), if_neg (show ¬ nI p.1 = 4 by rw [a0]; decide), if_neg (show ¬ nI p.1 = 3 by rw [a0]; decide), if_neg (show ¬ nI p.1 = 2 by rw [a0]; decide)]
          exact dflt (fun z => by have := gb_hit_t.mp z; omega)
    · rw [if_neg (show ¬ nI p.1 = 0 from nI_ne0 (by omega) (by omega))]
      unfold fbX11_acts_159
      by_cases a1 : p.1 = 1
      · have hk : p.2.2.2.1 ≠ 0 := fun z => by have := w5.mp z; omega
        rw [if_neg hk] at h7
        rw [if_pos (show nI p.1 = 1 by rw [a1]; rfl), gb_lt_d, p1, ko, gb_gd_t, i1, gb_gd_t, gb_I_mk, nI_clamp (by omega), m1]
        by_cases e1 : m / 2 = p.2.1
        · rw [if_pos (eqf.mpr e1), gk241, gb_gd_t, gr241_26, gb_rd_s]
          obtain ⟨x1, x2, x3⟩ := gb_md m hm
          have s1 := (m_two (I := K) (J := L) hk okk (u := 0) (by decide) (sg := 1) (Or.inl rfl) h7).1
          rw [s1, gb_bd_s, gk241, gb_gd_t, gr241_27, gb_rd_s]
          unfold fbX11_acts_205 fbX11_acts_459
          have fin : ∀ t2, t2 = 2 * (m % 2) → ∃ I' J' oth S G, (some ((), gb_mk (gb_u K 241 25 (nI (2 * (m / 2) + (1 - m % 2)))) (gb_p4 (gb_p4 L 254 (gcf (lN (gb_st' p)) (gb_ro' p) 0)) 255 (gcf (lN (gb_go' p)) (gb_ro' p) t2))) : Option (Unit × gb_H)) = some ((), gb_mk I' J') ∧ gm_rs I I' J J' oth S G ∧ oth < 16 ∧ ∀ (X : gb_q) (F : Nat → gb_q), q4 (qmul X S) (F (m + 1)) + q4 (qmul X G) (F (oth + 1)) = q4 X (qL (gb_tb p 2 (m + 1)) (fun e => qM (lN e.1) e.2.1 e.2.2.1 (F e.2.2.2))) := by
            intro t2 ht2
            refine ⟨_, _, 2 * (m / 2) + (1 - m % 2), _, _, rfl, g0.t gm_rs.mk', by omega, fun X F => ?_⟩
            rw [gb_tb_yes hm (gb_hit_t.mpr (Or.inr ⟨Or.inl a1, e1⟩))]
            unfold gb_hl
            rw [if_neg a0, if_pos a1, e2m, ← ht2]
            exact gm_two r1 rfl rfl X F
          by_cases z : m % 2 = 0
          · have s2 := (m_two (I := K) (J := gb_p4 L 254 (gcf (lN (gb_st' p)) (gb_ro' p) 0)) hk okk (u := 0) (by decide) (sg := 1) (Or.inl rfl) h7).2
            rw [if_pos (show nI (m % 2) = 0 by rw [z]; rfl), show fnX11_some 255 v7 0 0 1 _ = _ from s2, gb_bd_s, gk241, gb_gd_t, gb_lt_d, gb_sI_mk, x3]
            exact fin 0 (by omega)
          · have s2 := (m_two (I := K) (J := gb_p4 L 254 (gcf (lN (gb_st' p)) (gb_ro' p) 0)) hk okk (u := 0) (by decide) (sg := -1) (Or.inr ⟨rfl, rfl⟩) h7).2
            rw [if_neg (show ¬ nI (m % 2) = 0 from nI_ne0 (by omega) (by omega)), show fnX11_some 255 v7 0 0 (-1) _ = _ from s2, gb_bd_s, gk241, gb_gd_t, gb_lt_d, gb_sI_mk, x3]
            exact fin 2 (by omega)
        · rw [if_neg (fun z => e1 (eqf.mp z))]
          unfold fbX11_acts_218 fbX11_acts_278 fbX11_acts_361 fbX11_acts_459
          rw [if_neg (show ¬ nI p.1 = 4 by rw [a1]; decide), if_neg (show ¬ nI p.1 = 3 by rw [a1]; decide), if_neg (show ¬ nI p.1 = 2 by rw [a1]; decide)]
          exact dflt (fun z => by have := gb_hit_t.mp z; omega)
      · rw [if_neg (show ¬ nI p.1 = 1 from fun z => a1 ((nI_eq (b := 1) (by omega) (by omega)).mp z))]
        unfold fbX11_acts_218
        by_cases a4 : p.1 = 4
        · have hk : p.2.2.2.1 ≠ 0 := fun z => by have := w5.mp z; omega
          rw [if_neg hk] at h7
          have m2' : K o (a + 2) = nI p.2.2.2.2.2.2.2.2 := by rw [m2, if_pos a4]
          rw [if_pos (show nI p.1 = 4 by rw [a4]; rfl), gb_lt_d, p1, ko, gb_gd_t, i1, gb_gd_t, gb_I_mk, nI_clamp (by omega), m1]
          by_cases e1 : m / 2 = p.2.1
          · have s1 := (m_two (I := K) (J := L) hk okk (u := 1) (by decide) (sg := 1) (Or.inl rfl) h7).1
            have s2 := (m_two (I := K) (J := gb_p4 L 254 (gcf (lN (gb_st' p)) (gb_ro' p) 0)) hk okk (u := 1) (by decide) (sg := 1) (Or.inl rfl) h7).2
            rw [if_pos (eqf.mpr e1), gk241, gb_gd_t, gr241_26, gb_rd_s, s1, gb_bd_s, gk241, gb_gd_t, gr241_27, gb_rd_s, show fnX11_some 255 v7 0 1 1 _ = _ from s2, gb_bd_s, gb_lt_d, p2, ko, gb_gd_t, i2, gb_gd_t, gk241, gb_gd_t, gb_lt_d, gb_sI_mk, gb_I_mk, nI_clamp (by omega), m2', show (2 : Int32) * nI p.2.2.2.2.2.2.2.2 = nI (2 * p.2.2.2.2.2.2.2.2) from gb_nI_mul 2 _, show (10 : Int32) + nI (2 * p.2.2.2.2.2.2.2.2) = nI (10 + 2 * p.2.2.2.2.2.2.2.2) from nI_add 10 _, nI_add]
            refine ⟨_, _, 10 + 2 * p.2.2.2.2.2.2.2.2 + m % 2, _, _, rfl, g0.t gm_rs.mk', by omega, fun X F => ?_⟩
            rw [gb_tb_yes hm (gb_hit_t.mpr (Or.inr ⟨Or.inr (Or.inr a4), e1⟩))]
            unfold gb_hl
            rw [if_neg a0, if_neg a1, if_neg (show ¬ p.1 = 2 by omega), if_neg (show ¬ p.1 = 3 by omega), e2m, show 2 * (5 + p.2.2.2.2.2.2.2.2) + m % 2 + 1 = 10 + 2 * p.2.2.2.2.2.2.2.2 + m % 2 + 1 by omega]
            exact gm_two r1 rfl rfl X F
          · rw [if_neg (fun z => e1 (eqf.mp z))]
            unfold fbX11_acts_278 fbX11_acts_361 fbX11_acts_459
            rw [if_neg (show ¬ nI p.1 = 3 by rw [a4]; decide), if_neg (show ¬ nI p.1 = 2 by rw [a4]; decide)]
            exact dflt (fun z => by have := gb_hit_t.mp z; omega)
        · rw [if_neg (show ¬ nI p.1 = 4 from fun z => a4 ((nI_eq (b := 4) (by omega) (by omega)).mp z))]
          unfold fbX11_acts_278
          by_cases a3 : p.1 = 3
          · have m2' : K o (a + 2) = nI p.2.2.1 := by rw [m2, if_neg (by omega)]
            rw [if_pos (show nI p.1 = 3 by rw [a3]; rfl), gb_lt_d, p1, ko, gb_gd_t, i1, gb_gd_t, gb_I_mk, nI_clamp (by omega), m1]
            have hit : (m / 2 = p.2.1 ∨ m / 2 = p.2.2.1) → ∃ I' J' oth S G, fbX11_acts_304 241 o (nI a) (nI (m / 2)) (nI (m % 2)) (gb_mk K L) = some ((), gb_mk I' J') ∧ gm_rs I I' J J' oth S G ∧ oth < 16 ∧ ∀ (X : gb_q) (F : Nat → gb_q), q4 (qmul X S) (F (m + 1)) + q4 (qmul X G) (F (oth + 1)) = q4 X (qL (gb_tb p 2 (m + 1)) (fun e => qM (lN e.1) e.2.1 e.2.2.1 (F e.2.2.2))) := by
              intro hh
              obtain ⟨I2, J2, s1, s2⟩ := m_acts304 (I := K) (J := L) ko ki hr ha hpK okk a3 (x := m / 2) (t := m % 2) (by omega) (by omega)
              refine ⟨I2, J2, _, _, _, s1, g0.t s2, by unfold gb_oth; split <;> omega, fun X F => ?_⟩
              rw [gb_tb_yes hm (gb_hit_t.mpr (Or.inl ⟨Or.inr a3, hh⟩))]
              unfold gb_hl
              rw [if_neg a0, if_neg a1, if_neg (show ¬ p.1 = 2 by omega), if_pos a3]
              exact gm_swp (by decide) rfl X F
            by_cases e1 : m / 2 = p.2.1
            · rw [if_pos (eqf.mpr e1)]
              exact hit (Or.inl e1)
            · rw [if_neg (fun z => e1 (eqf.mp z)), gb_lt_d, p2, gb_gd_t, i2, gb_gd_t, nI_clamp (by omega), m2']
              by_cases e2 : m / 2 = p.2.2.1
              · rw [if_pos (eqs.mpr e2)]
                exact hit (Or.inr e2)
              · rw [if_neg (fun z => e2 (eqs.mp z))]
                unfold fbX11_acts_361 fbX11_acts_459
                rw [if_neg (show ¬ nI p.1 = 2 by rw [a3]; decide)]
                exact dflt (fun z => by have := gb_hit_t.mp z; omega)
          · rw [if_neg (show ¬ nI p.1 = 3 from fun z => a3 ((nI_eq (b := 3) (by omega) (by omega)).mp z))]
            have a2 : p.1 = 2 := by omega
            have ba1 : gb_ba p = 1 := if_pos (w5.mpr (Or.inl a2))
            obtain ⟨q4', q5⟩ := m4 a2
            unfold fbX11_acts_361
            rw [if_pos (show nI p.1 = 2 by rw [a2]; rfl), gb_lt_d, p1, ko, gb_gd_t, i1, gb_gd_t, gb_I_mk, nI_clamp (by omega), m1]
            by_cases e1 : m / 2 = p.2.1
            · rw [if_pos (eqf.mpr e1), gb_lt_d, p4, gb_gd_t, i4, gb_gd_t, nI_clamp (by omega), q4']
              have tb : ∀ t, t = (if p.2.2.2.2.1 = 2 ∨ p.2.2.2.2.1 = m % 2 then p.2.2.2.2.2.1 else 0) → gb_tb p 2 (m + 1) = [(1, 0, t, m + 1)] := fun t ht => by
                rw [gb_tb_yes hm (gb_hit_t.mpr (Or.inr ⟨Or.inr (Or.inl a2), e1⟩))]
                unfold gb_hl
                rw [if_neg a0, if_neg a1, if_pos a2, e2m, ← ht]
              have act : (p.2.2.2.2.1 = 2 ∨ p.2.2.2.2.1 = m % 2) → ∃ I' J' oth S G, fbX11_acts_396 241 o (nI a) (gb_mk K L) = some ((), gb_mk I' J') ∧ gm_rs I I' J J' oth S G ∧ oth < 16 ∧ ∀ (X : gb_q) (F : Nat → gb_q), q4 (qmul X S) (F (m + 1)) + q4 (qmul X G) (F (oth + 1)) = q4 X (qL (gb_tb p 2 (m + 1)) (fun e => qM (lN e.1) e.2.1 e.2.2.1 (F e.2.2.2))) := by
                intro hh
                refine ⟨K, _, m, gcf (lN 1) 0 p.2.2.2.2.2.1, qZ, m_acts396 (I := K) (J := L) ko ki hr ha c5 q5, ⟨g0.1, g0.2.1, fun x h1 h2 => by rw [gb_p4_ne h1]; exact g0.2.2.1 x h1 h2, pq_p4, by rw [pq_ne (by decide)]; exact g0.2.2.2.2⟩, hm, fun X F => ?_⟩
                rw [tb p.2.2.2.2.2.1 (if_pos hh).symm]
                exact gm_one (by decide) rfl X F
              by_cases z : p.2.2.2.2.1 = 2
              · rw [show gb_m1 2 p.2.2.2.2.1 = -1 from if_pos z, if_pos (show (-1 : Int32) = -1 from rfl)]
                exact act (Or.inl z)
              · rw [show gb_m1 2 p.2.2.2.2.1 = nI p.2.2.2.2.1 from if_neg z, if_neg (gb_nmi _ (by omega))]
                simp (disch := omega) only [gb_lt_d, gb_gd_t, gb_rd_s, gb_bd_s, gb_I_mk, gb_L_mk, gb_sI_mk, gb_sL_mk, p4, ko, i4, nI_clamp, q4', show gb_m1 2 p.2.2.2.2.1 = nI p.2.2.2.2.1 from if_neg z]
                by_cases z2 : p.2.2.2.2.1 = m % 2
                · rw [if_pos (show nI p.2.2.2.2.1 = nI (m % 2) by rw [z2])]
                  exact act (Or.inr z2)
                · rw [if_neg (show ¬ nI p.2.2.2.2.1 = nI (m % 2) from fun y => z2 ((nI_eq (by omega) (by omega)).mp y))]
                  unfold fbX11_acts_459
                  refine ⟨K, L, m, gcf (lN (gb_ba p)) 0 0, qZ, rfl, g0, hm, fun X F => ?_⟩
                  rw [tb 0 (if_neg (fun y => by omega)).symm, ba1]
                  exact gm_one (by decide) rfl X F
            · rw [if_neg (fun z => e1 (eqf.mp z))]
              unfold fbX11_acts_459
              exact dflt (fun z => by have := gb_hit_t.mp z; omega)
  · rw [if_neg (show ¬ nI (m / 2) ≤ 4 from nI_ge (a := 4) (b := m / 2) (by omega) (by omega))]
    exact dflt (fun z => by have := gb_hit_t.mp z; omega)
end MACTS5
