section RUNS2
variable {I I' I1 I2 : gb_FI} {J J' J1 J2 : gb_FJ} {p : gb_P} {ps : List gb_P} {o a room g w j W cs ls x st : Nat}
theorem gP_pt {X F : Nat → gb_q} {x : Nat} (hx : x < W) (h1 : X x = (1, 0, 0, 0)) (h2 : ∀ i, i < W → i ≠ x → X i = qZ) : gP W X F = (F x).1 := by
  have e : ∀ i, i < W → q4 (X i) (F i) = if i = x then (F x).1 else 0 := fun i hi => by
    by_cases z : i = x
    · subst z
      rw [if_pos rfl, h1]
      unfold q4
      grind
    · rw [if_neg z, h2 i hi z, q4_Z']
  unfold gP
  rw [gS_congr W e, gS_pt, if_pos hx]
theorem m_runs71 (hW : I 241 24 = nI W) (W4 : W ≤ 4096) (hs : st < W) {v2 v3 : Int32} : lpX11_runs_71 gb_FU 241 o v2 v3 (nI st) 0 (gb_mk I J) = lpX11_runs_109 gb_FU 241 o v2 v3 0 (gb_mk I (gb_u (gz1 J (4 * W)) 251 (4 * st) 1)) := by
  have e4 : (4 : Int32) * nI W = nI (4 * W) := gb_nI_mul 4 W
  have e5 : (4 : Int32) * nI st = nI (4 * st) := gb_nI_mul 4 st
  conv => lhs; unfold lpX11_runs_71
  refine gb_forF (fun i => (241, o, v2, v3, nI st, nI i, gb_mk I (gz1 J i))) (4 * W) (by omega) ?_ ?_
  · intro i hi k
    simp only [fbX11_runs_71]
    rw [gk241, gb_gd_t, gb_I_mk, hW, e4, if_neg (show ¬ nI (4 * W) ≤ nI i from nI_ge hi (by omega)), gb_gd_t, gr241_20, gb_rd_s, gk251, gb_gd_t, gi251 (by omega), gb_gd_t, gb_lt_d, nI_clamp (by omega), gb_sL_mk, gb_lt_d, nI_1]
    rfl
  · intro k
    simp only [fbX11_runs_71]
    rw [gk241, gb_gd_t, gb_I_mk, hW, e4, if_pos (show nI (4 * W) ≤ nI (4 * W) from nI_le (Nat.le_refl _) (by omega)), gb_gd_t, gr241_20, gb_rd_s, gb_lt_d, e5, gk251, gb_gd_t, gi251 (by omega), gb_gd_t, gb_lt_d, nI_clamp (by omega), gb_sL_mk]
theorem gP_start {F : Nat → gb_q} (hs : st < W) : gP W (rq (gb_u (gz1 J (4 * W)) 251 (4 * st) 1) 251) F = (F st).1 := by
  refine gP_pt hs ?_ (fun i hi e => ?_)
  · unfold rq
    rw [gb_u_s, gb_u_nk _ _ (by omega), gb_u_nk _ _ (by omega), gb_u_nk _ _ (by omega), gz1_i _ (by omega), gz1_i _ (by omega), gz1_i _ (by omega)]
  · unfold rq qZ
    rw [gb_u_nk _ _ (by omega), gb_u_nk _ _ (by omega), gb_u_nk _ _ (by omega), gb_u_nk _ _ (by omega), gz1_i _ (by omega), gz1_i _ (by omega), gz1_i _ (by omega), gz1_i _ (by omega)]
/-- the start's word: the modes one after the other -/
def gw_st (md : Nat → Nat) : Nat → Nat
  | 0 => 0
  | i + 1 => 16 * gw_st md i + md i
theorem gw_st_b {md : Nat → Nat} (h : ∀ i, md i < 16) : ∀ i, gw_st md i < 16 ^ i
  | 0 => by show 0 < 1; decide
  | i + 1 => by
    have a := gw_st_b h i
    have b := h i
    show 16 * gw_st md i + md i < 16 ^ (i + 1)
    rw [Nat.pow_succ]
    omega
theorem m_runs27 {md : Nat → Nat} (hmd : ∀ i, md i < 16) (hg : I 241 23 = nI g) (g3 : g ≤ 3) {v2 v3 v5 : Int32} (hv : (v5 = -1 ∧ ∀ i, i < g → I 242 i = nI (md i)) ∨ (¬ v5 = -1 ∧ ∀ i, i < g → v5 = nI (md i))) : lpX11_runs_27 gb_FU 241 o v2 v3 v5 0 0 (gb_mk I J) = lpX11_runs_71 gb_FU 241 o v2 v3 (nI (gw_st md g)) 0 (gb_mk I J) := by
  conv => lhs; unfold lpX11_runs_27
  refine gb_forF (fun i => (241, o, v2, v3, v5, nI (gw_st md i), nI i, gb_mk I J)) g (by omega) ?_ ?_
  · intro i hi k
    have e16 : (16 : Int32) * nI (gw_st md i) = nI (16 * gw_st md i) := gb_nI_mul 16 _
    simp only [fbX11_runs_27, fbX11_runs_59]
    rw [gk241, gb_gd_t, gb_I_mk, hg, if_neg (show ¬ nI g ≤ nI i from nI_ge hi (by omega))]
    rcases hv with ⟨e1, e2⟩ | ⟨e1, e2⟩
    · rw [if_pos e1, gb_gd_t, gr241_2, gb_rd_s, gk242, gb_gd_t, gi242 (by omega), gb_gd_t, nI_clamp (by omega), e2 i hi, e16, gb_lt_d, gb_lt_d, nI_add, nI_1]
      rfl
    · rw [if_neg e1, e16, gb_lt_d, gb_lt_d, nI_1]
      show k (241, o, v2, v3, v5, nI (16 * gw_st md i) + v5, nI (i + 1), gb_mk I J) = k (241, o, v2, v3, v5, nI (16 * gw_st md i + md i), nI (i + 1), gb_mk I J)
      rw [show nI (16 * gw_st md i) + v5 = nI (16 * gw_st md i + md i) by rw [e2 i hi, nI_add]]
  · intro k
    simp only [fbX11_runs_27]
    rw [gk241, gb_gd_t, gb_I_mk, hg, if_pos (show nI g ≤ nI g from nI_le (Nat.le_refl _) (by omega))]
end RUNS2
