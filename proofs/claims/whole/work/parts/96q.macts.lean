section MACTS4
variable {I I' I1 I2 : gb_FI} {J J' J1 J2 : gb_FJ} {p : gb_P} {o a room m : Nat}
theorem m_acts304 (ko : ∀ (I : gb_FI) (J : gb_FJ), gb_k (gb_mk I J) o 20 = true) (ki : ∀ j, j < room → ∀ (I : gb_FI) (J : gb_FJ), gb_in (gb_mk I J) o (nI j) = true) (hr : room ≤ 512) (ha : a + 8 ≤ room) (hp : mP (I o) a p) (ok : gb_pOK p) (h3 : p.1 = 3) {x t : Nat} (hx : x < 5) (ht : t < 2) :
    ∃ I' J', fbX11_acts_304 241 o (nI a) (nI x) (nI t) (gb_mk I J) = some ((), gb_mk I' J') ∧ gm_rs I I' J J' (2 * gb_oth p x + t) qZ (gcf (lN 1) 0 0) := by
  obtain ⟨m0, m1, m2, m3, m4, m5, m6⟩ := hp
  obtain ⟨c0, c1, c2, c3, c4, c5, c6, c7, c8⟩ := ok
  rw [if_neg (by omega)] at m2
  have p1 : nI a + 1 = nI (a + 1) := nI_1 a
  have p2 : nI a + 2 = nI (a + 2) := nI_add a 2
  refine ⟨_, _, ?_, gm_rs.mk'⟩
  unfold fbX11_acts_304 fbX11_acts_351 fbX11_acts_459
  rw [gk241, gb_gd_t, gr241_26, gb_rd_s, show fnX11_puts 254 0 0 0 0 (gb_mk I J) = _ from m_puts (Or.inl rfl) qZ, gb_bd_s, gk241, gb_gd_t, gr241_27, gb_rd_s, show fnX11_puts 255 1 0 0 0 (gb_mk I (gb_p4 J 254 qZ)) = _ from m_puts (Or.inr rfl) (gcf (lN 1) 0 0), gb_bd_s, gb_lt_d, p1, ko, gb_gd_t, ki (a + 1) (by omega), gb_gd_t, gb_I_mk, nI_clamp (by omega), m1]
  unfold gb_oth
  by_cases e : x = p.2.1
  · rw [if_pos (show nI x = nI p.2.1 by rw [e]), if_pos e]
    simp (disch := omega) only [gb_lt_d, gb_gd_t, gb_rd_s, gb_bd_s, gb_I_mk, gb_L_mk, gb_sI_mk, gb_sL_mk, p1, p2, ko, ki (a + 1) (by omega), ki (a + 2) (by omega), nI_clamp, m1, m2, gk241, show (2 : Int32) * nI p.2.2.1 = nI (2 * p.2.2.1) from gb_nI_mul 2 _, nI_add]
  · rw [if_neg (show ¬ nI x = nI p.2.1 from fun w => e ((nI_eq (by omega) (by omega)).mp w)), if_neg e]
    simp (disch := omega) only [gb_lt_d, gb_gd_t, gb_rd_s, gb_bd_s, gb_I_mk, gb_L_mk, gb_sI_mk, gb_sL_mk, p1, p2, ko, ki (a + 1) (by omega), ki (a + 2) (by omega), nI_clamp, m1, m2, gk241, show (2 : Int32) * nI p.2.1 = nI (2 * p.2.1) from gb_nI_mul 2 _, nI_add]
theorem m_acts396 (ko : ∀ (I : gb_FI) (J : gb_FJ), gb_k (gb_mk I J) o 20 = true) (ki : ∀ j, j < room → ∀ (I : gb_FI) (J : gb_FJ), gb_in (gb_mk I J) o (nI j) = true) (hr : room ≤ 512) (ha : a + 8 ≤ room) {t : Nat} (ht : t ≤ 3) (h5 : I o (a + 5) = nI t) :
    fbX11_acts_396 241 o (nI a) (gb_mk I J) = some ((), gb_mk I (gb_p4 J 254 (gcf (lN 1) 0 t))) := by
  have p5 : nI a + 5 = nI (a + 5) := nI_add a 5
  have md : ∀ t, t ≤ 3 → nI t - nI t / 4 * 4 = nI t := by
    intro t ht
    match t, ht with
    | 0, _ => decide
    | 1, _ => decide
    | 2, _ => decide
    | 3, _ => decide
  have pt : ∀ a b c d : Int64, fnX11_puts 254 a b c d (gb_mk I J) = some ((), gb_mk I (gb_p4 J 254 (a, b, c, d))) := fun a b c d => m_puts (I := I) (J := J) (Or.inl rfl) (a, b, c, d)
  unfold fbX11_acts_396
  rw [gb_lt_d, p5, ko, gb_gd_t, ki (a + 5) (by omega), gb_gd_t, show gb_nz (4 : Int32) = true from rfl, gb_gd_t, gb_lt_d, gb_I_mk, nI_clamp (by omega), h5, gb_lt_d, md t ht, gk241, gb_gd_t, gr241_26, gb_rd_s]
  unfold fbX11_acts_431 fbX11_acts_455 fbX11_acts_459
  match t, ht with
  | 0, _ => exact (congrArg (fun z => gb_bd z fun _ h => some ((), h)) (pt _ _ _ _)).trans rfl
  | 1, _ => exact (congrArg (fun z => gb_bd z fun _ h => some ((), h)) (pt _ _ _ _)).trans rfl
  | 2, _ => exact (congrArg (fun z => gb_bd z fun _ h => some ((), h)) (pt _ _ _ _)).trans rfl
  | 3, _ => exact (congrArg (fun z => gb_bd z fun _ h => some ((), h)) (pt _ _ _ _)).trans rfl
end MACTS4
