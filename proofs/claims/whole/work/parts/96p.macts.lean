section MACTS3
variable {I I' I1 I2 : gb_FI} {J J' J1 J2 : gb_FJ} {p : gb_P} {o a room m : Nat}
/-- only other, stays and goes have moved; other, stays, goes are so -/
def gm_rs (I I' : gb_FI) (J J' : gb_FJ) (oth : Nat) (S G : gb_q) : Prop := I' 241 25 = nI oth ∧ (∀ x k, ¬ (x = 241 ∧ k = 25) → I' x k = I x k) ∧ (∀ x, x ≠ 254 → x ≠ 255 → J' x = J x) ∧ pq J' 254 = S ∧ pq J' 255 = G
theorem gm_rs.mk' {oth : Nat} {S G : gb_q} : gm_rs I (gb_u I 241 25 (nI oth)) J (gb_p4 (gb_p4 J 254 S) 255 G) oth S G :=
  ⟨gb_u_s _ _ _ _, fun x k h => by rw [gb_u1, if_neg h], fun x h1 h2 => by rw [gb_p4_ne h2, gb_p4_ne h1], by rw [pq_ne (by decide), pq_p4], pq_p4⟩
theorem m_two (hk : p.2.2.2.1 ≠ 0) (ok : gb_pOK p) {u : Nat} (hu : u < 2) {sg : Int32} (hsg : sg = 1 ∨ (sg = -1 ∧ u = 0)) {v7 : Int32} (h7 : v7 = nI (p.2.2.2.1 - 1)) : fnX11_some 254 v7 1 0 1 (gb_mk I J) = some ((), gb_mk I (gb_p4 J 254 (gcf (lN (gb_st' p)) (gb_ro' p) 0))) ∧ fnX11_some 255 v7 0 (nI u) sg (gb_mk I J) = some ((), gb_mk I (gb_p4 J 255 (gcf (lN (gb_go' p)) (gb_ro' p) (if u = 1 then 1 else if sg = 1 then 0 else 2)))) := by
  have k3 := ok.2.2.2.1
  obtain ⟨g1, g2, g3⟩ := gsv_p ok hk
  rw [h7]
  refine ⟨?_, ?_⟩
  · have t := m_some (I := I) (J := J) (o := 254) (k := p.2.2.2.1 - 1) (w := 1) (Or.inl rfl) (by omega) (by decide) (u := 0) (by decide) (sg := 1) (Or.inl rfl)
    rw [g1, g3] at t
    exact t
  · have t := m_some (I := I) (J := J) (o := 255) (k := p.2.2.2.1 - 1) (w := 0) (Or.inr rfl) (by omega) (by decide) (u := u) hu (sg := sg) hsg
    rw [g2, g3] at t
    exact t
theorem m_acts100 (ko : ∀ (I : gb_FI) (J : gb_FJ), gb_k (gb_mk I J) o 20 = true) (ki : ∀ j, j < room → ∀ (I : gb_FI) (J : gb_FJ), gb_in (gb_mk I J) o (nI j) = true) (hr : room ≤ 512) (ha : a + 8 ≤ room) (hp : mP (I o) a p) (ok : gb_pOK p) (hk : p.2.2.2.1 ≠ 0) (h0 : p.1 = 0) {x t : Nat} (hx : x < 5) (ht : t < 2) {v7 : Int32} (h7 : v7 = nI (p.2.2.2.1 - 1)) :
    ∃ I' J', fbX11_acts_100 241 o (nI a) (nI x) (nI t) v7 (gb_mk I J) = some ((), gb_mk I' J') ∧ gm_rs I I' J J' (2 * gb_oth p x + t) (gcf (lN (gb_st' p)) (gb_ro' p) 0) (gcf (lN (gb_go' p)) (gb_ro' p) 1) := by
  obtain ⟨m0, m1, m2, m3, m4, m5, m6⟩ := hp
  obtain ⟨c0, c1, c2, c3, c4, c5, c6, c7, c8⟩ := ok
  have okk : gb_pOK p := ⟨c0, c1, c2, c3, c4, c5, c6, c7, c8⟩
  rw [if_neg (by omega)] at m2
  have p1 : nI a + 1 = nI (a + 1) := nI_1 a
  have p2 : nI a + 2 = nI (a + 2) := nI_add a 2
  refine ⟨_, _, ?_, gm_rs.mk'⟩
  unfold fbX11_acts_100 fbX11_acts_149 fbX11_acts_459
  rw [gk241, gb_gd_t, gr241_26, gb_rd_s, (m_two (I := I) (J := J) hk okk (u := 1) (by decide) (sg := 1) (Or.inl rfl) h7).1, gb_bd_s, gk241, gb_gd_t, gr241_27, gb_rd_s, show fnX11_some 255 v7 0 1 1 _ = _ from (m_two (I := I) (J := gb_p4 J 254 (gcf (lN (gb_st' p)) (gb_ro' p) 0)) hk okk (u := 1) (by decide) (sg := 1) (Or.inl rfl) h7).2, gb_bd_s, gb_lt_d, p1, ko, gb_gd_t, ki (a + 1) (by omega), gb_gd_t, gb_I_mk, nI_clamp (by omega), m1]
  unfold gb_oth
  by_cases e : x = p.2.1
  · rw [if_pos (show nI x = nI p.2.1 by rw [e]), if_pos e]
    simp (disch := omega) only [gb_lt_d, gb_gd_t, gb_rd_s, gb_bd_s, gb_I_mk, gb_L_mk, gb_sI_mk, gb_sL_mk, p1, p2, ko, ki (a + 1) (by omega), ki (a + 2) (by omega), nI_clamp, m1, m2, gk241, show (2 : Int32) * nI p.2.2.1 = nI (2 * p.2.2.1) from gb_nI_mul 2 _, nI_add]
    rfl
  · rw [if_neg (show ¬ nI x = nI p.2.1 from fun w => e ((nI_eq (by omega) (by omega)).mp w)), if_neg e]
    simp (disch := omega) only [gb_lt_d, gb_gd_t, gb_rd_s, gb_bd_s, gb_I_mk, gb_L_mk, gb_sI_mk, gb_sL_mk, p1, p2, ko, ki (a + 1) (by omega), ki (a + 2) (by omega), nI_clamp, m1, m2, gk241, show (2 : Int32) * nI p.2.1 = nI (2 * p.2.1) from gb_nI_mul 2 _, nI_add]
    rfl
end MACTS3
