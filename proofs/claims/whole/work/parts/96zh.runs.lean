section RUNS3
variable {I I' I1 I2 : gb_FI} {J J' J1 J2 : gb_FJ} {p : gb_P} {ps : List gb_P} {o a room g w j W cs ls x : Nat}
/-- only what the reference's runs need has moved -/
def gm_fR (I I' : gb_FI) (J J' : gb_FJ) : Prop := (∀ x k, ¬ (x = 241 ∧ (k = 23 ∨ k = 24 ∨ k = 25)) → I' x k = I x k) ∧ ∀ x, x < 251 ∨ 255 < x → J' x = J x
theorem m_runs (ko : ∀ (I : gb_FI) (J : gb_FJ), gb_k (gb_mk I J) o 20 = true) (ki : ∀ j, j < room → ∀ (I : gb_FI) (J : gb_FJ), gb_in (gb_mk I J) o (nI j) = true) (ho : o ≠ 241) (hr : room ≤ 512) (ha : a + 8 * ps.length ≤ room) (hp : ∀ i p, ps[i]? = some p → mP (I o) (a + 8 * i) p) (hw : ∀ p ∈ ps, ∃ cs ls, gb_wp cs ls p) (g3 : g ≤ 3)
    {md : Nat → Nat} (hmd : ∀ i, md i < 16) {v5 : Int32} (hv : (v5 = -1 ∧ ∀ i, i < g → I 242 i = nI (md i)) ∨ (¬ v5 = -1 ∧ ∀ i, i < g → v5 = nI (md i))) :
    ∃ I2 J2, fnX11_runs 241 o (nI a) (nI ps.length) (nI g) v5 (gb_mk I J) = some ((), gb_mk I2 J2) ∧ gm_fR I I2 J J2 ∧ I2 241 23 = nI g ∧ I2 241 24 = nI (16 ^ g) ∧ ∀ F, gP (16 ^ g) (rq J2 251) (fun v => F (gw_k g v)) = (gb_ops ps F (gw_k g (gw_st md g))).1 := by
  have w4 : (16 : Nat) ^ g ≤ 4096 := Nat.le_trans (Nat.pow_le_pow_right (by decide) g3) (by decide)
  have sb := gw_st_b hmd g
  have kI : ∀ x k, ¬ (x = 241 ∧ (k = 23 ∨ k = 24 ∨ k = 25)) → gb_u (gb_u I 241 23 (nI g)) 241 24 (nI (16 ^ g)) x k = I x k := fun x k h => by
    rw [gb_u1, if_neg (fun z => h ⟨z.1, Or.inr (Or.inl z.2)⟩), gb_u1, if_neg (fun z => h ⟨z.1, Or.inl z.2⟩)]
  have kO : gb_u (gb_u I 241 23 (nI g)) 241 24 (nI (16 ^ g)) o = I o := by rw [gb_u_row _ _ ho, gb_u_row _ _ ho]
  have g1 : gb_u (gb_u I 241 23 (nI g)) 241 24 (nI (16 ^ g)) 241 23 = nI g := by rw [gb_u_nk _ _ (by decide), gb_u_s]
  have g2 : gb_u (gb_u I 241 23 (nI g)) 241 24 (nI (16 ^ g)) 241 24 = nI (16 ^ g) := gb_u_s _ _ _ _
  have k42 : gb_u (gb_u I 241 23 (nI g)) 241 24 (nI (16 ^ g)) 242 = I 242 := by rw [gb_u_row _ _ (by decide), gb_u_row _ _ (by decide)]
  have e23 : gb_u I 241 23 (nI g) 241 23 = nI g := gb_u_s _ _ _ _
  generalize hK : gb_u (gb_u I 241 23 (nI g)) 241 24 (nI (16 ^ g)) = K at *
  obtain ⟨I2, J2, s1, s2, s3, s4⟩ := m_runs109 (I := K) (J := gb_u (gz1 J (4 * 16 ^ g)) 251 (4 * gw_st md g) 1) ko ki ho hr ha (by rw [kO]; exact hp) hw g1 g3 g2 ps.length 0 gb_FU K (gb_u (gz1 J (4 * 16 ^ g)) 251 (4 * gw_st md g) 1) (by omega) (show ps.length < 1000000 by omega) (fun _ _ _ => rfl) (fun _ _ => rfl)
  refine ⟨I2, J2, ?_, ⟨fun x k h => (s2 x k (fun z => h ⟨z.1, Or.inr (Or.inr z.2)⟩)).trans (kI x k h), fun x hx => by rw [s3 x hx, gb_u_row _ _ (by omega)]; exact gz1_ne (by omega) _⟩, by rw [s2 241 23 (by decide)]; exact g1, by rw [s2 241 24 (by decide)]; exact g2, fun F => ?_⟩
  · have r27 := m_runs27 (I := K) (J := J) (o := o) (v2 := nI a) (v3 := nI ps.length) hmd g1 g3 (v5 := v5) (by rw [k42]; exact hv)
    have r71 := m_runs71 (I := K) (J := J) (o := o) (v2 := nI a) (v3 := nI ps.length) g2 w4 sb
    unfold fnX11_runs
    rw [gk241, gb_gd_t, gb_lt_d, gb_sI_mk, gk241, gb_gd_t, gb_I_mk, e23, show (16 : Int64) = lN 16 from rfl, m_power (by omega), gb_bd_s, gk241, gb_gd_t, gb_lt_d, gb_sI_mk, lN_i, hK]
    exact r27.trans (r71.trans s1)
  · rw [s4 F, List.drop_zero, gP_start sb]
end RUNS3
