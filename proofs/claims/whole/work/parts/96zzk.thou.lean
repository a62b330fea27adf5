section THOU
variable {S : gb_S} {I I' I1 I2 : gb_FI} {J J' J1 J2 : gb_FJ} {g b bits set p k i k0 cs ls : Nat} {dk : Nat → Nat} {gs : List Nat} {ps : List gb_P}
/-- odds and the odds of all else are one together -/
theorem sU_b2 (g3 : g ≤ 3) (hw : gb_wl cs ls ps) (l3 : ls ≤ 3) (hk : zk_ad g ls k0) {f : Nat → Nat} {M : Nat} (hf : ∀ k, f k ≤ M) : 1000 * sU g ps k0 f + 1414 * sV g ps k0 f ≤ 1000 * ((M * (zD g ps * zD g ps * gb_od k0) : Nat) : Int) ∧ 1000 * sU g ps k0 f - 1414 * sV g ps k0 f ≤ 1000 * ((M * (zD g ps * zD g ps * gb_od k0) : Nat) : Int) := by
  obtain ⟨a1, a2⟩ := pU_all g3 hw l3 hk
  have c := sU_b g3 hw l3 hk (f := fun k => M - f k) (M := M) (fun k => Nat.sub_le _ _)
  have e1 : sU g ps k0 f + sU g ps k0 (fun k => M - f k) = (M : Int) * pU g ps k0 (fun _ => true) := by
    unfold sU pU
    rw [← iS_mul, ← iS_add]
    refine iS_congr _ (fun w _ => ?_)
    by_cases s : gw_so g w = true
    · rw [if_pos s, if_pos s, if_pos ⟨s, rfl⟩, ← Int.add_mul]
      congr 1
      have := hf (gw_k g w)
      show ((f (gw_k g w) : Nat) : Int) + ((M - f (gw_k g w) : Nat) : Int) = (M : Int)
      omega
    · rw [if_neg s, if_neg s, if_neg (fun z => s z.1)]
      omega
  have e2 : sV g ps k0 f + sV g ps k0 (fun k => M - f k) = (M : Int) * pV g ps k0 (fun _ => true) := by
    unfold sV pV
    rw [← iS_mul, ← iS_add]
    refine iS_congr _ (fun w _ => ?_)
    by_cases s : gw_so g w = true
    · rw [if_pos s, if_pos s, if_pos ⟨s, rfl⟩, ← Int.add_mul]
      congr 1
      have := hf (gw_k g w)
      show ((f (gw_k g w) : Nat) : Int) + ((M - f (gw_k g w) : Nat) : Int) = (M : Int)
      omega
    · rw [if_neg s, if_neg s, if_neg (fun z => s z.1)]
      omega
  rw [a1, ← Int.natCast_mul] at e1
  rw [a2, Int.mul_zero] at e2
  omega
theorem gb_od_g (h : gb_sk k) (hg : zk_nz k = g) : (g ≤ 1 → gb_od k = 1) ∧ (g ≤ 2 → gb_od k ≤ 2) := by
  unfold gb_sk at h
  unfold zk_nz at hg
  have l0 : g ≤ 2 → k % 32 = 0 := fun q => by
    by_cases a : k % 32 = 0
    · exact a
    · rw [if_neg a, if_neg (show ¬ k / 32 % 32 = 0 by omega), if_neg (show ¬ k / 1024 = 0 by omega)] at hg
      omega
  have m0 : g ≤ 1 → k / 32 % 32 = 0 := fun q => by
    by_cases a : k / 32 % 32 = 0
    · exact a
    · rw [if_neg a, if_neg (show ¬ k / 1024 = 0 by omega)] at hg
      omega
  unfold gb_od
  refine ⟨fun q => ?_, fun q => ?_⟩
  · rw [if_pos (Or.inl (l0 (by omega))), if_neg (fun z => z.1 (m0 q))]
  · rw [if_pos (Or.inl (l0 q))]
    split <;> omega
theorem gb_g3_dvd {u v : Int} {w d : Nat} (hu : (d : Int) ∣ u) (hv : (d : Int) ∣ v) (hw : d ∣ w) : d ∣ gb_g3 u v w := by
  unfold gb_g3
  exact Nat.dvd_gcd (Nat.dvd_gcd (Int.natAbs_dvd_natAbs.mpr hu |> fun z => by simpa using z) (Int.natAbs_dvd_natAbs.mpr hv |> fun z => by simpa using z)) hw
theorem gb_g3_u {u v : Int} {w : Nat} : ((gb_g3 u v w : Nat) : Int) ∣ u ∧ ((gb_g3 u v w : Nat) : Int) ∣ v ∧ gb_g3 u v w ∣ w := by
  unfold gb_g3
  refine ⟨?_, ?_, Nat.gcd_dvd_right _ _⟩
  · exact Int.natAbs_dvd_natAbs.mp (by simpa using Nat.dvd_trans (Nat.gcd_dvd_left _ _) (Nat.gcd_dvd_left _ _))
  · exact Int.natAbs_dvd_natAbs.mp (by simpa using Nat.dvd_trans (Nat.gcd_dvd_left _ _) (Nat.gcd_dvd_right _ _))
/-- told in lowest terms, the whole of the odds of clicks is small -/
theorem gcW (hgs : ∀ m ∈ gs, m < 10) (g3 : gs.length ≤ 3) (hw : gb_wl 0 0 ps) (hd : gb_dpt gs.length ps ≤ 300000) (f : Nat → Nat) : gb_Wd gs ps * 100000 / gb_g3 (sU gs.length ps (gb_k0 gs) f) (sV gs.length ps (gb_k0 gs) f) (gb_Wd gs ps * 100000) ≤ 9000000000000000 := by
  have eD : gb_dpt gs.length ps = zD gs.length ps := by
    have := gb_dpt_D (g := gs.length) (ps := ps)
    omega
  have ad := gb_k0_ad hgs g3
  have og := gb_od_g ad.1 ad.2.1
  have ob := gb_od_b (gb_k0 gs)
  have e : gb_Wd gs ps = zD gs.length ps * zD gs.length ps * gb_od (gb_k0 gs) := by unfold gb_Wd; rw [eD]
  rw [eD] at hd
  have bd : ∀ D o : Nat, zD gs.length ps ≤ D → gb_od (gb_k0 gs) ≤ o → gb_Wd gs ps ≤ D * D * o := fun D o h1 h2 => by
    rw [e]
    exact Nat.mul_le_mul (Nat.mul_le_mul h1 h1) h2
  generalize hG : gb_g3 (sU gs.length ps (gb_k0 gs) f) (sV gs.length ps (gb_k0 gs) f) (gb_Wd gs ps * 100000) = G
  by_cases g1 : gs.length ≤ 1
  · have := bd 300000 1 hd (by rw [og.1 g1]; exact Nat.le_refl _)
    exact Nat.le_trans (Nat.div_le_self _ _) (by omega)
  · by_cases hf : ∃ p ∈ ps, p.2.2.2.1 = 3
    · obtain ⟨s1, s2⟩ := sU_dvd hw (by decide) ad hf f
      have dw : 2 ^ gs.length ∣ gb_Wd gs ps * 100000 := by
        rw [e]
        exact Nat.dvd_mul_right_of_dvd (Nat.dvd_mul_right_of_dvd (Nat.dvd_mul_right_of_dvd (zD_2 hf) _) _) _
      have dg := gb_g3_dvd s1 s2 dw
      rw [hG] at dg
      have W0 : 0 < gb_Wd gs ps * 100000 := by
        have dp := zD_pos (g := gs.length) ps
        have : 0 < gb_Wd gs ps := by rw [e]; exact Nat.mul_pos (Nat.mul_pos dp dp) (by omega)
        omega
      have G0 : 0 < G := by rw [← hG]; exact gb_g3_pos W0
      have le := Nat.le_of_dvd G0 dg
      rcases (show gs.length = 2 ∨ gs.length = 3 by omega) with q | q
      · rw [q] at le
        have := bd 300000 2 hd (og.2 (by omega))
        have h4 : gb_Wd gs ps * 100000 / G ≤ gb_Wd gs ps * 100000 / 4 := Nat.div_le_div_left (by simpa using le) (by decide)
        omega
      · rw [q] at le
        have := bd 300000 6 hd ob.2
        have h8 : gb_Wd gs ps * 100000 / G ≤ gb_Wd gs ps * 100000 / 8 := Nat.div_le_div_left (by simpa using le) (by decide)
        omega
    · have := bd 15625 6 (zD_s (by omega) g3 hf hd) ob.2
      exact Nat.le_trans (Nat.div_le_self _ _) (by omega)
/-- a number near to u + v times the root of two -/
def gnr (u v : Int) : Int := u + (v * 1414).tdiv 1000
theorem gtd (v : Int) : (v * 1414).tdiv 1000 = v.tdiv 1000 * 1414 + ((v - v.tdiv 1000 * 1000) * 1414).tdiv 1000 := by
  rcases Int.le_total 0 v with h | h
  · obtain ⟨n, rfl⟩ := Int.eq_ofNat_of_zero_le h
    have e1 : ((n : Int)).tdiv 1000 = ((n / 1000 : Nat) : Int) := Int.ofNat_tdiv n 1000
    have e2 : ((n : Int) * 1414).tdiv 1000 = ((n * 1414 / 1000 : Nat) : Int) := by
      rw [show (n : Int) * 1414 = ((n * 1414 : Nat) : Int) by omega]
      exact Int.ofNat_tdiv _ 1000
    rw [e1, e2]
    have e3 : ((n : Int) - ((n / 1000 : Nat) : Int) * 1000) * 1414 = ((n % 1000 * 1414 : Nat) : Int) := by
      have : n = 1000 * (n / 1000) + n % 1000 := by omega
      omega
    have e4 : ((n % 1000 * 1414 : Nat) : Int).tdiv 1000 = ((n % 1000 * 1414 / 1000 : Nat) : Int) := Int.ofNat_tdiv _ 1000
    rw [e3, e4]
    omega
  · obtain ⟨n, hn⟩ := Int.eq_ofNat_of_zero_le (show 0 ≤ -v by omega)
    obtain rfl : v = -(n : Int) := by omega
    have e1 : (-(n : Int)).tdiv 1000 = -((n / 1000 : Nat) : Int) := by rw [Int.neg_tdiv]; congr 1
    have e2 : (-(n : Int) * 1414).tdiv 1000 = -((n * 1414 / 1000 : Nat) : Int) := by
      rw [show -(n : Int) * 1414 = -((n * 1414 : Nat) : Int) by omega, Int.neg_tdiv]
      congr 1
    rw [e1, e2]
    have e3 : (-(n : Int) - -((n / 1000 : Nat) : Int) * 1000) * 1414 = -((n % 1000 * 1414 : Nat) : Int) := by
      have : n = 1000 * (n / 1000) + n % 1000 := by omega
      omega
    have e4 : (-((n % 1000 * 1414 : Nat) : Int)).tdiv 1000 = -((n % 1000 * 1414 / 1000 : Nat) : Int) := by rw [Int.neg_tdiv]; congr 1
    rw [e3, e4]
    omega
theorem gnr_b {u v w : Int} (h1 : 0 ≤ u) (h2 : 1414 * v ≤ 1000 * u) (h3 : -(1414 * v) ≤ 1000 * u) (h4 : 1000 * u + 1414 * v ≤ 1000 * w) (h5 : 1000 * u - 1414 * v ≤ 1000 * w) : 0 ≤ gnr u v ∧ gnr u v ≤ w := by
  unfold gnr
  rcases Int.le_total 0 v with h | h
  · obtain ⟨n, rfl⟩ := Int.eq_ofNat_of_zero_le h
    have e2 : ((n : Int) * 1414).tdiv 1000 = ((n * 1414 / 1000 : Nat) : Int) := by
      rw [show (n : Int) * 1414 = ((n * 1414 : Nat) : Int) by omega]
      exact Int.ofNat_tdiv _ 1000
    rw [e2]
    omega
  · obtain ⟨n, hn⟩ := Int.eq_ofNat_of_zero_le (show 0 ≤ -v by omega)
    obtain rfl : v = -(n : Int) := by omega
    have e2 : (-(n : Int) * 1414).tdiv 1000 = -((n * 1414 / 1000 : Nat) : Int) := by
      rw [show -(n : Int) * 1414 = -((n * 1414 : Nat) : Int) by omega, Int.neg_tdiv]
      congr 1
    rw [e2]
    omega
/-- what thousandths tell of odds -/
def gth0 (u v : Int) (w : Nat) : Nat := (gnr u v).toNat * 1000 / w
theorem x_thou {o : Nat} (hk : ∀ I J, gb_k (gb_mk I J) o 8 = true) {u v : Int} {w : Nat} (e0 : J o 0 = iL u) (e1 : J o 1 = iL v) (e2 : J o 2 = lN w) (hw0 : 0 < w) (hw : w ≤ 9000000000000000) (h1 : 0 ≤ u) (h2 : 1414 * v ≤ 1000 * u) (h3 : -(1414 * v) ≤ 1000 * u) (h4 : 1000 * u + 1414 * v ≤ 1000 * w) (h5 : 1000 * u - 1414 * v ≤ 1000 * w) : fnX8_thousandths o (gb_mk I J) = some (nI (gth0 u v w), gb_mk I J) := by
  obtain ⟨n1, n2⟩ := gnr_b h1 h2 h3 h4 h5
  have ub : u ≤ w := by omega
  have vb : v.natAbs ≤ 9000000000000000 := by omega
  have wz : gb_nzL (lN w) = true := gb_nzL_of (fun q => by have := (gL_eq0 (by omega)).mp q; omega)
  have d1 : iL v * 1414 / 1000 = iL ((v * 1414).tdiv 1000) := by
    rw [show (1414 : Int64) = iL 1414 from rfl, show (1000 : Int64) = iL 1000 from rfl, iL_mul, iL_div (by omega) (by decide)]
  obtain ⟨n, hn⟩ := Int.eq_ofNat_of_zero_le n1
  have nb : n ≤ w := by omega
  have q1 : n * 1000 / w ≤ 1000 := by
    have : n * 1000 ≤ 1000 * w := by omega
    exact Nat.div_le_of_le_mul (by rw [Nat.mul_comm w]; exact this)
  unfold fnX8_thousandths gth0
  rw [hk, gb_gd_t, gb_L_mk, e2, if_pos (show (0 : Int64) < lN w by rw [Int64.lt_iff_toInt_lt, gL_toInt (by omega), show Int64.toInt 0 = 0 from rfl]; omega), gb_gd_t, gb_gd_t, show gb_nzL (1000 : Int64) = true from rfl, gb_gd_t, gb_gd_t, gb_lt_d, wz, gb_gd_t, e0, e1, d1, iL_add, show u + (v * 1414).tdiv 1000 = gnr u v from rfl, hn, show (1000 : Int64) = lN 1000 from rfl, ← lN_iL, lN_mul, gL_div (by omega) (by omega), lN_i, Int.toNat_natCast]
theorem gdg (N w : Nat) : N * 10 / w = 10 * (N / w) + N % w * 10 / w ∧ N * 10 % w = N % w * 10 % w := by
  rcases Nat.eq_zero_or_pos w with z | z
  · subst z; simp
  · have e : N * 10 = N % w * 10 + w * (10 * (N / w)) := by
      have := Nat.div_add_mod N w
      calc N * 10 = (w * (N / w) + N % w) * 10 := by rw [this]
        _ = _ := by rw [Nat.add_mul, Nat.mul_assoc, Nat.mul_comm (N / w) 10, Nat.add_comm]
    rw [e, Nat.add_mul_div_left _ _ z, Nat.add_mul_mod_self_left, Nat.add_comm]
    exact ⟨rfl, rfl⟩
theorem m_thou {N w : Nat} (hw0 : 0 < w) (hw : w ≤ 9000000000000000) (hN : N ≤ w) (h : gb_H) : fnX11_thousandths (lN N) (lN w) h = some (nI (N * 1000 / w), h) := by
  have wz : gb_nzL (lN w) = true := gb_nzL_of (fun q => by have := (gL_eq0 (by omega)).mp q; omega)
  unfold fnX11_thousandths
  rw [wz, gb_gd_t, gb_lt_d, gb_gd_t, gb_lt_d, gL_mod (by omega) (by omega), gL_div (by omega) (by omega)]
  unfold lpX11_thousandths_18
  have z : (lN w, lN (N % w), lN (N / w), (0 : Int32), h) = (fun i => (lN w, lN (N * 10 ^ i % w), lN (N * 10 ^ i / w), nI i, h)) 0 := by
    show _ = (lN w, lN (N * 1 % w), lN (N * 1 / w), nI 0, h)
    rw [Nat.mul_one]
    rfl
  rw [z]
  refine gb_forF (fun i => (lN w, lN (N * 10 ^ i % w), lN (N * 10 ^ i / w), nI i, h)) 3 (by decide) ?_ ?_
  · intro i hi q
    have ml : N * 10 ^ i % w < w := Nat.mod_lt _ hw0
    have e : N * 10 ^ (i + 1) = N * 10 ^ i * 10 := by rw [Nat.pow_succ, Nat.mul_assoc]
    simp only [fbX11_thousandths_18]
    rw [if_neg (show ¬ (3 : Int32) ≤ nI i from nI_ge (b := 3) hi (by omega)), gb_lt_d, wz, gb_gd_t, gb_lt_d, gb_gd_t, gb_lt_d, gb_lt_d, nI_1, show (10 : Int64) = lN 10 from rfl, lN_mul, lN_mul, gL_mod (by omega) (by omega), gL_div (by omega) (by omega), lN_add, e, (gdg (N * 10 ^ i) w).1, (gdg (N * 10 ^ i) w).2]
  · intro q
    simp only [fbX11_thousandths_18]
    rw [if_pos (show (3 : Int32) ≤ nI 3 by decide), lN_i]
end THOU
