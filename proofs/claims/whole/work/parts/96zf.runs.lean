section RUNS
variable {I I' I1 I2 : gb_FI} {J J' J1 J2 : gb_FJ} {p : gb_P} {ps : List gb_P} {o a room g w j W cs ls x : Nat}
def gz1 (J : gb_FJ) : Nat → gb_FJ
  | 0 => J
  | i + 1 => gb_u (gz1 J i) 251 i 0
theorem gz1_ne {x : Nat} (h : x ≠ 251) : ∀ i, gz1 J i x = J x
  | 0 => rfl
  | i + 1 => by
    show gb_u (gz1 J i) 251 i 0 x = J x
    rw [gb_u_row _ _ h, gz1_ne h i]
theorem gz1_i {k : Nat} : ∀ i, k < i → gz1 J i 251 k = 0
  | 0, h => absurd h (by omega)
  | i + 1, h => by
    show gb_u (gz1 J i) 251 i 0 251 k = 0
    by_cases e : k = i
    · subst e; rw [gb_u_s]
    · rw [gb_u_nk _ _ e, gz1_i i (by omega)]
/-- the parts, one after the other, by the reference -/
theorem m_runs109 (ko : ∀ (I : gb_FI) (J : gb_FJ), gb_k (gb_mk I J) o 20 = true) (ki : ∀ j, j < room → ∀ (I : gb_FI) (J : gb_FJ), gb_in (gb_mk I J) o (nI j) = true) (ho : o ≠ 241) (hr : room ≤ 512) (ha : a + 8 * ps.length ≤ room) (hp : ∀ i p, ps[i]? = some p → mP (I o) (a + 8 * i) p) (hw : ∀ p ∈ ps, ∃ cs ls, gb_wp cs ls p) (hg : I 241 23 = nI g) (g3 : g ≤ 3) (hW : I 241 24 = nI (16 ^ g)) :
    ∀ m i F (I1 : gb_FI) (J1 : gb_FJ), i + m = ps.length → m < F → (∀ x k, ¬ (x = 241 ∧ k = 25) → I1 x k = I x k) → (∀ x, x < 251 ∨ 255 < x → J1 x = J x) →
      ∃ I2 J2, lpX11_runs_109 F 241 o (nI a) (nI ps.length) (nI i) (gb_mk I1 J1) = some ((), gb_mk I2 J2) ∧ (∀ x k, ¬ (x = 241 ∧ k = 25) → I2 x k = I x k) ∧ (∀ x, x < 251 ∨ 255 < x → J2 x = J x) ∧ ∀ F, gP (16 ^ g) (rq J2 251) (fun v => F (gw_k g v)) = gP (16 ^ g) (rq J1 251) (fun v => gb_ops (ps.drop i) F (gw_k g v)) := by
  intro m
  induction m with
  | zero =>
    intro i F I1 J1 hi hF h1 h2
    obtain ⟨F, rfl⟩ : ∃ f, F = f + 1 := ⟨F - 1, by omega⟩
    refine ⟨I1, J1, ?_, h1, h2, fun F => by rw [List.drop_eq_nil_of_le (by omega)]; rfl⟩
    rw [show lpX11_runs_109 (F + 1) 241 o (nI a) (nI ps.length) (nI i) (gb_mk I1 J1) = fbX11_runs_109 (fun v0 v1 v2 v3 v7 h => lpX11_runs_109 F v0 v1 v2 v3 v7 h) 241 o (nI a) (nI ps.length) (nI i) (gb_mk I1 J1) from rfl]
    unfold fbX11_runs_109
    rw [if_pos (show nI ps.length ≤ nI i from nI_le (by omega) (by omega))]
  | succ m ih =>
    intro i F I1 J1 hi hF h1 h2
    obtain ⟨F, rfl⟩ : ∃ f, F = f + 1 := ⟨F - 1, by omega⟩
    have il : i < ps.length := by omega
    have gp : ps[i]? = some (ps[i]) := List.getElem?_eq_getElem il
    generalize ps[i] = p at gp
    obtain ⟨cs, ls, wp⟩ := hw p (List.mem_of_getElem? gp)
    have io : I1 o = I o := funext (fun k => h1 o k (fun z => ho z.1))
    have hp1 : mP (I1 o) (a + 8 * i) p := by rw [io]; exact hp i p gp
    have ix : nI a + 8 * nI i = nI (a + 8 * i) := by rw [gb_lit 8, gb_nI_mul, nI_add]
    have p5 := wp.1.1
    rw [show lpX11_runs_109 (F + 1) 241 o (nI a) (nI ps.length) (nI i) (gb_mk I1 J1) = fbX11_runs_109 (fun v0 v1 v2 v3 v7 h => lpX11_runs_109 F v0 v1 v2 v3 v7 h) 241 o (nI a) (nI ps.length) (nI i) (gb_mk I1 J1) from rfl]
    unfold fbX11_runs_109 fbX11_runs_140
    rw [if_neg (show ¬ nI ps.length ≤ nI i from nI_ge il (by omega)), gb_lt_d, ix, ko, gb_gd_t, ki (a + 8 * i) (by omega), gb_gd_t, gb_I_mk, nI_clamp (by omega), hp1.1]
    by_cases c : p.1 = 5
    · rw [if_pos (show nI p.1 = 5 by rw [c]; rfl), gb_lt_d, nI_1]
      obtain ⟨I2, J2, s1, s2, s3, s4⟩ := ih (i + 1) F I1 J1 (by omega) (by omega) h1 h2
      refine ⟨I2, J2, s1, s2, s3, fun F => ?_⟩
      rw [s4 F, gb_drop gp]
      refine gP_congr (fun _ _ => rfl) (fun v _ => ?_)
      rw [gb_ops, if_pos c]
    · rw [if_neg (show ¬ nI p.1 = 5 from fun z => c ((nI_eq (b := 5) (by omega) (by omega)).mp z)), gk241, gb_gd_t]
      obtain ⟨I2, J2, s1, s2, s3, s4⟩ := m_does (I := I1) (J := J1) (a := a + 8 * i) ko ki ho hr (by omega) hp1 wp c (by rw [h1 241 23 (by decide)]; exact hg) g3 (by rw [h1 241 24 (by decide)]; exact hW)
      rw [s1, gb_bd_s, gb_lt_d, nI_1]
      obtain ⟨I3, J3, u1, u2, u3, u4⟩ := ih (i + 1) F I2 J2 (by omega) (by omega) (fun x k hx => (s2 x k hx).trans (h1 x k hx)) (fun x hx => (s3 x hx).trans (h2 x hx))
      refine ⟨I3, J3, u1, u2, u3, fun F => ?_⟩
      rw [u4 F, s4, gb_drop gp]
      refine gP_congr (fun _ _ => rfl) (fun v _ => ?_)
      rw [gw_op_k wp.1 g3, gb_ops, if_neg c]
end RUNS
