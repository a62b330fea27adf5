section DOES2
variable {I I' I1 I2 : gb_FI} {J J' J1 J2 : gb_FJ} {p : gb_P} {o a room g w w' W : Nat}
/-- whether a part acts on a word -/
def gw_ac (p : gb_P) (g w : Nat) : Bool := decide (p.2.2.2.2.2.2.1 = 5 ∨ gw_in g w p.2.2.2.2.2.2.1 g = p.2.2.2.2.2.2.2.1)
theorem rq_a (h : w' ≠ w) : rq (gd_a J w 4) 252 w' = rq J 252 w' := by
  unfold rq
  rw [gd_a_o 4 (by omega), gd_a_o 4 (by omega), gd_a_o 4 (by omega), gd_a_o 4 (by omega)]
theorem rq_as : rq (gd_a J w 4) 252 w = qZ := by
  unfold rq qZ
  rw [show gd_a J w 4 252 (4 * w) = 0 from gd_a_i (i := 0) 4 (by decide), gd_a_i (i := 1) 4 (by decide), gd_a_i (i := 2) 4 (by decide), gd_a_i (i := 3) 4 (by decide)]
theorem rq_n {all : Int64} (h : w' ≠ w) : rq (gd_n J w all 4) 252 w' = rq J 252 w' ∧ rq (gd_n J w all 4) 251 w' = rq J 251 w' := by
  unfold rq
  have e : ∀ i, i < 4 → gd_n J w all 4 252 (4 * w' + i) = J 252 (4 * w' + i) ∧ gd_n J w all 4 251 (4 * w' + i) = J 251 (4 * w' + i) := fun i hi => gd_n_o 4 (by omega)
  have e0 : gd_n J w all 4 252 (4 * w') = J 252 (4 * w') ∧ gd_n J w all 4 251 (4 * w') = J 251 (4 * w') := e 0 (by decide)
  rw [e0.1, e0.2, (e 1 (by decide)).1, (e 1 (by decide)).2, (e 2 (by decide)).1, (e 2 (by decide)).2, (e 3 (by decide)).1, (e 3 (by decide)).2]
  exact ⟨rfl, rfl⟩
theorem rq_ns {all : Int64} : rq (gd_n J w all 4) 252 w = qS all (rq J 251 w) ∧ rq (gd_n J w all 4) 251 w = qZ := by
  unfold rq qS qZ
  have e : ∀ i, i < 4 → gd_n J w all 4 252 (4 * w + i) = all * J 251 (4 * w + i) ∧ gd_n J w all 4 251 (4 * w + i) = 0 := fun i hi => gd_n_i 4 hi
  have e0 : gd_n J w all 4 252 (4 * w) = all * J 251 (4 * w) ∧ gd_n J w all 4 251 (4 * w) = 0 := e 0 (by decide)
  rw [e0.1, e0.2, (e 1 (by decide)).1, (e 1 (by decide)).2, (e 2 (by decide)).1, (e 2 (by decide)).2, (e 3 (by decide)).1, (e 3 (by decide)).2]
  exact ⟨rfl, rfl⟩
theorem m_does32 (ko : ∀ (I : gb_FI) (J : gb_FJ), gb_k (gb_mk I J) o 20 = true) (ki : ∀ j, j < room → ∀ (I : gb_FI) (J : gb_FJ), gb_in (gb_mk I J) o (nI j) = true) (hr : room ≤ 512) (ha : a + 8 ≤ room) (hp : mP (I o) a p) (ok : gb_pOK p) (hg : I 241 23 = nI g) (g3 : g ≤ 3) (hW : I 241 24 = nI W) (W4 : W ≤ 4096) {v4 : Int64} :
    ∀ m i F (J1 : gb_FJ), i + m = W → m < F → (∀ w, w < i → rq J1 252 w = (if gw_ac p g w = true then qZ else qS v4 (rq J 251 w)) ∧ rq J1 251 w = (if gw_ac p g w = true then rq J 251 w else qZ)) → (∀ w, i ≤ w → rq J1 251 w = rq J 251 w) → (∀ x, x ≠ 251 → x ≠ 252 → J1 x = J x) →
      ∃ J2, lpX11_does_32 F 241 o (nI a) v4 (nI i) (gb_mk I J1) = lpX11_does_157 gb_FU 241 o (nI a) 0 (gb_mk I J2) ∧ (∀ w, w < W → rq J2 252 w = (if gw_ac p g w = true then qZ else qS v4 (rq J 251 w)) ∧ rq J2 251 w = (if gw_ac p g w = true then rq J 251 w else qZ)) ∧ (∀ x, x ≠ 251 → x ≠ 252 → J2 x = J x) := by
  obtain ⟨m0, m1, m2, m3, m4, m5, m6⟩ := hp
  obtain ⟨c0, c1, c2, c3, c4, c5, c6, c7, c8⟩ := ok
  have p6 : nI a + 6 = nI (a + 6) := nI_add a 6
  have p7 : nI a + 7 = nI (a + 7) := nI_add a 7
  intro m
  induction m with
  | zero =>
    intro i F J1 hi hF h1 h2 h3
    obtain ⟨F, rfl⟩ : ∃ f, F = f + 1 := ⟨F - 1, by omega⟩
    refine ⟨J1, ?_, fun w hw => h1 w (by omega), h3⟩
    rw [show lpX11_does_32 (F + 1) 241 o (nI a) v4 (nI i) (gb_mk I J1) = fbX11_does_32 (fun v0 v1 v2 v4 v6 h => lpX11_does_32 F v0 v1 v2 v4 v6 h) 241 o (nI a) v4 (nI i) (gb_mk I J1) from rfl]
    unfold fbX11_does_32
    rw [gk241, gb_gd_t, if_pos (show gb_I (gb_mk I J1) 241 24 ≤ nI i by rw [gb_I_mk, hW]; exact nI_le (by omega) (by omega))]
  | succ m ih =>
    intro i F J1 hi hF h1 h2 h3
    obtain ⟨F, rfl⟩ : ∃ f, F = f + 1 := ⟨F - 1, by omega⟩
    have one : fbX11_does_32 (fun v0 v1 v2 v4 v6 h => lpX11_does_32 F v0 v1 v2 v4 v6 h) 241 o (nI a) v4 (nI i) (gb_mk I J1) = lpX11_does_82 (fun v0 v1 v2 v4 v6 h => lpX11_does_32 F v0 v1 v2 v4 v6 h) gb_FU 241 o (nI a) v4 (nI i) (if gw_ac p g i = true then 1 else 0) 0 (gb_mk I J1) := by
      unfold fbX11_does_32 fbX11_does_72 fbX11_does_77
      have ac : gw_ac p g i = true ↔ (p.2.2.2.2.2.2.1 = 5 ∨ gw_in g i p.2.2.2.2.2.2.1 g = p.2.2.2.2.2.2.2.1) := by simp [gw_ac]
      rw [gk241, gb_gd_t, if_neg (show ¬ gb_I (gb_mk I J1) 241 24 ≤ nI i by rw [gb_I_mk, hW]; exact nI_ge (by omega) (by omega)), gb_lt_d, p6, ko, gb_gd_t, ki (a + 6) (by omega), gb_gd_t, gb_I_mk, nI_clamp (by omega), m5]
      by_cases e : p.2.2.2.2.2.2.1 = 5
      · rw [show gb_m1 5 p.2.2.2.2.2.2.1 = -1 from if_pos e, if_pos (show (-1 : Int32) = -1 from rfl), if_pos (ac.mpr (Or.inl e))]
      · have gb := gw_in_b (g := g) (w := i) (x := p.2.2.2.2.2.2.1) g
        rw [show gb_m1 5 p.2.2.2.2.2.2.1 = nI p.2.2.2.2.2.2.1 from if_neg e, if_neg (gb_nmi _ (by omega))]
        simp (disch := omega) only [gb_lt_d, gb_gd_t, gb_rd_s, gb_bd_s, gb_I_mk, gb_L_mk, gb_sI_mk, gb_sL_mk, ko, ki (a + 6) (by omega), ki (a + 7) (by omega), p6, p7, gk241, nI_clamp, m5, m6 e, show gb_m1 5 p.2.2.2.2.2.2.1 = nI p.2.2.2.2.2.2.1 from if_neg e, m_inPath hg g3 (show i < 4096 by omega) (show p.2.2.2.2.2.2.1 < 100 by omega)]
        by_cases e2 : gw_in g i p.2.2.2.2.2.2.1 g = p.2.2.2.2.2.2.2.1
        · rw [if_pos (show nI _ = nI _ by rw [e2]), if_pos (ac.mpr (Or.inr e2))]
        · rw [if_neg (fun z => e2 ((nI_eq (by omega) (by omega)).mp z)), if_neg (fun z => by rcases ac.mp z with y | y; exact e y; exact e2 y)]
    rw [show lpX11_does_32 (F + 1) 241 o (nI a) v4 (nI i) (gb_mk I J1) = fbX11_does_32 (fun v0 v1 v2 v4 v6 h => lpX11_does_32 F v0 v1 v2 v4 v6 h) 241 o (nI a) v4 (nI i) (gb_mk I J1) from rfl, one, m_does82 (show i < 4096 by omega)]
    refine ih (i + 1) F _ (by omega) (by omega) (fun w hw => ?_) (fun w hw => ?_) (fun x x1 x2 => ?_)
    · by_cases c : gw_ac p g i = true
      · rw [if_pos c]
        by_cases e : w = i
        · subst e
          rw [rq_as, if_pos c, if_pos c]
          refine ⟨rfl, ?_⟩
          rw [← h2 w (Nat.le_refl _)]
          unfold rq
          rw [gd_a_ne (by decide)]
        · rw [rq_a e]
          have := h1 w (by omega)
          refine ⟨this.1, ?_⟩
          rw [← this.2]
          unfold rq
          rw [gd_a_ne (by decide)]
      · rw [if_neg c]
        by_cases e : w = i
        · subst e
          rw [rq_ns.1, rq_ns.2, if_neg c, if_neg c, h2 w (Nat.le_refl _)]
          exact ⟨rfl, rfl⟩
        · rw [(rq_n e).1, (rq_n e).2]
          exact h1 w (by omega)
    · by_cases c : gw_ac p g i = true
      · rw [if_pos c, ← h2 w (by omega)]
        unfold rq
        rw [gd_a_ne (by decide)]
      · rw [if_neg c, (rq_n (by omega)).2]
        exact h2 w (by omega)
    · by_cases c : gw_ac p g i = true
      · rw [if_pos c, gd_a_ne x2]; exact h3 x x1 x2
      · rw [if_neg c, gd_n_ne x2 x1]; exact h3 x x1 x2
end DOES2
