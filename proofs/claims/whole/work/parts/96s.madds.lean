section MADDS
variable {I I' I1 I2 : gb_FI} {J J' J1 J2 : gb_FJ} {p : gb_P} {o a room m cs ls : Nat}
theorem m_acts (ko : ∀ (I : gb_FI) (J : gb_FJ), gb_k (gb_mk I J) o 20 = true) (ki : ∀ j, j < room → ∀ (I : gb_FI) (J : gb_FJ), gb_in (gb_mk I J) o (nI j) = true) (ho : o ≠ 241) (hr : room ≤ 512) (ha : a + 8 ≤ room) (hp : mP (I o) a p) (w : gb_wp cs ls p) (h5 : p.1 ≠ 5) (hm : m < 16) :
    ∃ I' J' oth S G, fnX11_acts 241 o (nI a) (nI m) (gb_mk I J) = some ((), gb_mk I' J') ∧ gm_rs I I' J J' oth S G ∧ oth < 16 ∧ ∀ (X : gb_q) (F : Nat → gb_q), q4 (qmul X S) (F (m + 1)) + q4 (qmul X G) (F (oth + 1)) = q4 X (qL (gb_tb p 2 (m + 1)) (fun e => qM (lN e.1) e.2.1 e.2.2.1 (F e.2.2.2))) := by
  obtain ⟨x1, x2, x3⟩ := gb_md m hm
  have k3 := w.1.2.2.2.1
  have p3 : nI a + 3 = nI (a + 3) := nI_add a 3
  have t := m_acts37 (J := J) ko ki ho hr ha hp w h5 hm rfl
  obtain ⟨m0, m1, m2, m3, m4, m5, m6⟩ := hp
  unfold fnX11_acts
  rw [ko, gb_gd_t, ki a (by omega), gb_gd_t, gb_lt_d, gb_I_mk, nI_clamp (by omega), m0, show gb_nz (2 : Int32) = true from rfl, gb_gd_t, gb_lt_d, gb_gd_t, gb_lt_d, x2, x1, gb_lt_d, p3, gb_gd_t, ki (a + 3) (by omega), gb_gd_t, gb_lt_d, nI_clamp (by omega), m3]
  by_cases z : p.2.2.2.1 = 0
  · rw [if_pos z] at t ⊢
    rw [if_pos (show (-1 : Int32) = -1 from rfl)]
    rw [show gb_ba p = 1 from if_pos z] at t
    exact t
  · rw [if_neg z] at t ⊢
    rw [if_neg (gb_nmi _ (by omega))]
    have me : fnX11_measure (nI (p.2.2.2.1 - 1)) (gb_mk I J) = some (nI (gb_ba p), gb_mk I J) := by
      simp only [fnX11_measure, fbX11_measure_10]
      unfold gb_ba
      rw [if_neg z]
      by_cases y : p.2.2.2.1 = 3
      · rw [y, if_pos (show nI (3 - 1) = 2 from rfl), if_pos rfl]
        rfl
      · rw [if_neg (show ¬ nI (p.2.2.2.1 - 1) = 2 from fun w => by have := (nI_eq (b := 2) (by omega) (by omega)).mp w; omega), if_neg y]
        rfl
    rw [me, gb_bd_s]
    exact t
/-- a number of a row of words -/
def rq (J : gb_FJ) (o w : Nat) : gb_q := (J o (4 * w), J o (4 * w + 1), J o (4 * w + 2), J o (4 * w + 3))
def gb_w4 (J : gb_FJ) (o w : Nat) (v : gb_q) : gb_FJ := gb_u (gb_u (gb_u (gb_u J o (4 * w) (J o (4 * w) + v.1)) o (4 * w + 1) (J o (4 * w + 1) + v.2.1)) o (4 * w + 2) (J o (4 * w + 2) + v.2.2.1)) o (4 * w + 3) (J o (4 * w + 3) + v.2.2.2)
theorem gb_w4_ne {o w x : Nat} {v : gb_q} (h : x ≠ o) : gb_w4 J o w v x = J x := by
  unfold gb_w4
  rw [gb_u_row _ _ h, gb_u_row _ _ h, gb_u_row _ _ h, gb_u_row _ _ h]
theorem rq_w4 {o w : Nat} {v : gb_q} : rq (gb_w4 J o w v) o w = qA (rq J o w) v := by
  unfold rq gb_w4 qA
  rw [gb_u_nk _ _ (show 4 * w ≠ 4 * w + 3 by omega), gb_u_nk _ _ (show 4 * w ≠ 4 * w + 2 by omega), gb_u_nk _ _ (show 4 * w ≠ 4 * w + 1 by omega), gb_u_s, gb_u_nk _ _ (show 4 * w + 1 ≠ 4 * w + 3 by omega), gb_u_nk _ _ (show 4 * w + 1 ≠ 4 * w + 2 by omega), gb_u_s, gb_u_nk _ _ (show 4 * w + 2 ≠ 4 * w + 3 by omega), gb_u_s, gb_u_s]
theorem rq_w4n {o w x : Nat} {v : gb_q} (h : x ≠ w) : rq (gb_w4 J o w v) o x = rq J o x := by
  have e : ∀ i j, i < 4 → j < 4 → 4 * x + i ≠ 4 * w + j := fun i j hi hj => by omega
  unfold rq gb_w4
  have r : ∀ i, i < 4 → ∀ a b c d, gb_u (gb_u (gb_u (gb_u J o (4 * w) a) o (4 * w + 1) b) o (4 * w + 2) c) o (4 * w + 3) d o (4 * x + i) = J o (4 * x + i) := fun i hi a b c d => by
    rw [gb_u_nk _ _ (e i 3 hi (by decide)), gb_u_nk _ _ (e i 2 hi (by decide)), gb_u_nk _ _ (e i 1 hi (by decide)), gb_u_nk _ _ (show 4 * x + i ≠ 4 * w from e i 0 hi (by decide))]
  have r0 : ∀ a b c d, gb_u (gb_u (gb_u (gb_u J o (4 * w) a) o (4 * w + 1) b) o (4 * w + 2) c) o (4 * w + 3) d o (4 * x) = J o (4 * x) := r 0 (by decide)
  rw [r0, r 1 (by decide), r 2 (by decide), r 3 (by decide)]
theorem m_adds {w v s : Nat} (hw : w < 4096) (hv : v < 4096) (hs : s = 254 ∨ s = 255) : fnX11_adds 253 (nI w) 251 (nI (4 * v)) s (gb_mk I J) = some ((), gb_mk I (gb_w4 J 253 w (qmul (rq J 251 v) (pq J s)))) := by
  have k : ∀ (I : gb_FI) (J : gb_FJ), gb_k (gb_mk I J) s 23 = true := fun I J => by rcases hs with e | e <;> subst e; exact gk254; exact gk255
  have i : ∀ j, j < 4 → ∀ (I : gb_FI) (J : gb_FJ), gb_in (gb_mk I J) s (nI j) = true := fun j hj I J => by rcases hs with e | e <;> subst e; exact gi254 hj; exact gi255 hj
  have i0 : ∀ (I : gb_FI) (J : gb_FJ), gb_in (gb_mk I J) s 0 = true := i 0 (by decide)
  have i1 : ∀ (I : gb_FI) (J : gb_FJ), gb_in (gb_mk I J) s 1 = true := i 1 (by decide)
  have i2 : ∀ (I : gb_FI) (J : gb_FJ), gb_in (gb_mk I J) s 2 = true := i 2 (by decide)
  have i3 : ∀ (I : gb_FI) (J : gb_FJ), gb_in (gb_mk I J) s 3 = true := i 3 (by decide)
  have s3 : s ≠ 253 := by omega
  have e1 : nI (4 * v) + 1 = nI (4 * v + 1) := nI_1 _
  have e2 : nI (4 * v) + 2 = nI (4 * v + 2) := nI_add _ 2
  have e3 : nI (4 * v) + 3 = nI (4 * v + 3) := nI_add _ 3
  have f0 : (4 : Int32) * nI w = nI (4 * w) := gb_nI_mul 4 w
  have f1 : nI (4 * w) + 1 = nI (4 * w + 1) := nI_1 _
  have f2 : nI (4 * w) + 2 = nI (4 * w + 2) := nI_add _ 2
  have f3 : nI (4 * w) + 3 = nI (4 * w + 3) := nI_add _ 3
  unfold fnX11_adds
  simp (disch := omega) only [gb_lt_d, gb_gd_t, gb_rd_s, gb_bd_s, gb_I_mk, gb_L_mk, gb_sI_mk, gb_sL_mk, gk251, gk253, k, i0, i1, i2, i3, gi251, gi253, nI_clamp, e1, e2, e3, f0, f1, f2, f3, show (0 : Int32).toNatClampNeg = 0 from rfl, show (1 : Int32).toNatClampNeg = 1 from rfl, show (2 : Int32).toNatClampNeg = 2 from rfl, show (3 : Int32).toNatClampNeg = 3 from rfl, gb_u_ne _ _ s3, gb_u_nk _ _ (show 4 * w + 1 ≠ 4 * w by omega), gb_u_nk _ _ (show 4 * w + 2 ≠ 4 * w + 1 by omega), gb_u_nk _ _ (show 4 * w + 2 ≠ 4 * w by omega), gb_u_nk _ _ (show 4 * w + 3 ≠ 4 * w + 2 by omega), gb_u_nk _ _ (show 4 * w + 3 ≠ 4 * w + 1 by omega), gb_u_nk _ _ (show 4 * w + 3 ≠ 4 * w by omega)]
  rfl
end MADDS
