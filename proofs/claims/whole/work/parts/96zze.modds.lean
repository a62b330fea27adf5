section MODDS
variable {S : gb_S} {I I' I1 I2 : gb_FI} {J J' J1 J2 : gb_FJ} {g w i j x r m f k : Nat} {gs : List Nat} {ps : List gb_P}
/-- a share in lowest terms -/
def gb_tl (u v : Int) (w : Nat) (c : Int32) : Int64 := if c = 0 then iL (u.tdiv (gb_g3 u v w)) else if c = 1 then iL (v.tdiv (gb_g3 u v w)) else lN (w / gb_g3 u v w)
theorem m_tells {u v : Int} {w : Nat} (hu : u.natAbs < 2 ^ 63) (hv : v.natAbs < 2 ^ 63) (hw : w < 2 ^ 63) (h0 : 0 < w) (c : Int32) (h : gb_H) : fnX11_tells (iL u) (iL v) (lN w) c h = some (gb_tl u v w c, h) := by
  have hg := gb_g3_pos (u := u) (v := v) h0
  have hl := gb_g3_le (u := u) (v := v) h0
  have a := gb_gcd_lt hu hv
  have e1 : fnX11_divisor (iL u) (iL v) h = some (lN (Nat.gcd u.natAbs v.natAbs), h) := m_gcd hu hv h
  have e2 : fnX11_divisor (lN (Nat.gcd u.natAbs v.natAbs)) (lN w) h = some (lN (gb_g3 u v w), h) := by
    rw [lN_iL (Nat.gcd u.natAbs v.natAbs), lN_iL w]
    exact m_gcd (a := ((Nat.gcd u.natAbs v.natAbs : Nat) : Int)) (b := (w : Int)) (by simpa using a) (by simpa using hw) h
  have d1 : iL u / lN (gb_g3 u v w) = iL (u.tdiv (gb_g3 u v w)) := by rw [lN_iL, iL_div hu (by omega)]
  have d2 : iL v / lN (gb_g3 u v w) = iL (v.tdiv (gb_g3 u v w)) := by rw [lN_iL, iL_div hv (by omega)]
  have d3 : lN w / lN (gb_g3 u v w) = lN (w / gb_g3 u v w) := gL_div hw (by omega)
  have z : gb_nzL (lN (gb_g3 u v w)) = true := gb_nzL_of (fun q => by have := (gL_eq0 (by omega)).mp q; omega)
  unfold fnX11_tells fbX11_tells_33 gb_tl
  rw [e1, gb_bd_s, e2, gb_bd_s, z, gb_gd_t, gb_gd_t, gb_gd_t, d1, d2, d3]
  split
  · rfl
  · split <;> rfl
/-- a bench's odds by the reference -/
theorem m_laysBench (h : RM S I J) (hgs : ∀ m ∈ S.1, m < 10) (g3 : S.1.length ≤ 3) {b : Nat} (hb : b < 4) (hl : (S.2.2.2.2.1 b).length ≤ 16) (hw : gb_wl 0 0 (S.2.2.2.2.1 b)) :
    ∃ I2 J2, fnX11_laysBench 241 (nI b) (gb_mk I J) = some (if gb_dpt S.1.length (S.2.2.2.2.1 b) ≤ 300000 then 1 else 0, gb_mk I2 J2) ∧ gm_fL I I2 J J2 ∧ (gb_dpt S.1.length (S.2.2.2.2.1 b) ≤ 300000 → J2 241 30 = lN (gb_dpt S.1.length (S.2.2.2.2.1 b) * gb_dpt S.1.length (S.2.2.2.2.1 b) * gb_od (gb_k0 S.1)) ∧ ∀ r, r < 1024 → J2 256 r = iL (pU S.1.length (S.2.2.2.2.1 b) (gb_k0 S.1) (fun k => decide (gpk k = r))) ∧ J2 257 r = iL (pV S.1.length (S.2.2.2.2.1 b) (gb_k0 S.1) (fun k => decide (gpk k = r)))) := by
  obtain ⟨m1, m2⟩ := h.2.2.2.2.1 b hb
  have hp : ∀ i p, (S.2.2.2.2.1 b)[i]? = some p → gb_pOK p ∧ mP (I 243) (128 * b + 8 * i) p := fun i p hp => ⟨gb_wl_mem hw p (List.mem_of_getElem? hp), m2 i p hp⟩
  have dp := m_deepOf (I := I) (J := J) (o := 243) (a := 128 * b) (g := S.1.length) (room := 512) (fun _ _ => gk243) (fun j hj => gi243 hj) (by decide) (by omega) g3 hp
  have dq := gb_dq_b (g := S.1.length) (ps := S.2.2.2.2.1 b) (S.2.2.2.2.1 b).length
  have dle : gb_dpt S.1.length (S.2.2.2.2.1 b) ≤ 300001 := dq.2
  have f0 : (128 : Int32) * nI b = nI (128 * b) := gb_nI_mul 128 b
  obtain ⟨I2, J2, s1, s2, s3, s4⟩ := m_lays (I := I) (J := J) (o := 243) (a := 128 * b) (room := 512) (ps := S.2.2.2.2.1 b) (D := gb_dpt S.1.length (S.2.2.2.2.1 b)) (fun _ _ => gk243) (fun j hj _ _ => gi243 hj) (by decide) (by decide) (by omega) m2 (gb_wl_wp hw) hgs g3 h.1 (by omega)
  unfold fnX11_laysBench
  rw [gk241, gb_gd_t, gr241_3, gb_rd_s, gb_gd_t, gr241_4, gb_rd_s, gk244, gb_gd_t, gi244 hb, gb_gd_t, gb_gd_t, gb_I_mk, nI_clamp (by omega), m1, h.1.1, f0, dp, gb_bd_s]
  by_cases d : gb_dpt S.1.length (S.2.2.2.2.1 b) ≤ 300000
  · rw [if_pos d, if_pos (show nI (gb_dpt S.1.length (S.2.2.2.2.1 b)) ≤ 300000 from nI_le (b := 300000) d (by omega)), gk241, gb_gd_t, gr241_3, gb_rd_s, gb_gd_t, gr241_4, gb_rd_s, gk244, gb_gd_t, gi244 hb, gb_gd_t, gb_gd_t, gb_I_mk, m1, s1, gb_bd_s]
    exact ⟨I2, J2, rfl, s2, fun _ => ⟨s3, s4⟩⟩
  · rw [if_neg d, if_neg (show ¬ nI (gb_dpt S.1.length (S.2.2.2.2.1 b)) ≤ 300000 from nI_ge (a := 300000) (by omega) (by omega))]
    exact ⟨I, J, rfl, gm_fL.rf, fun z => absurd z d⟩
end MODDS
