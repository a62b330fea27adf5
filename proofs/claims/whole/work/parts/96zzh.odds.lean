section ODDSF
variable {S : gb_S} {I I' I1 I2 : gb_FI} {J J' J1 J2 : gb_FJ} {g b : Nat} {gs : List Nat} {ps : List gb_P}
/-- bounds of a told bench's odds -/
theorem gOD (hgs : ∀ m ∈ gs, m < 10) (g3 : gs.length ≤ 3) (hw : gb_wl 0 0 ps) (hd : gb_dpt gs.length ps ≤ 300000) {f : Nat → Nat} {M : Nat} (hf : ∀ k, f k ≤ M) : 0 < gb_Wd gs ps ∧ gb_Wd gs ps ≤ 540000000000 ∧ 0 ≤ sU gs.length ps (gb_k0 gs) f ∧ sU gs.length ps (gb_k0 gs) f ≤ ((M * gb_Wd gs ps : Nat) : Int) ∧ 1414 * sV gs.length ps (gb_k0 gs) f ≤ 1000 * sU gs.length ps (gb_k0 gs) f ∧ -(1414 * sV gs.length ps (gb_k0 gs) f) ≤ 1000 * sU gs.length ps (gb_k0 gs) f := by
  have eD : gb_dpt gs.length ps = zD gs.length ps := by
    have := gb_dpt_D (g := gs.length) (ps := ps)
    omega
  have dp := zD_pos (g := gs.length) ps
  have ob := gb_od_b (gb_k0 gs)
  have h := sU_b g3 hw (by decide) (gb_k0_ad hgs g3) hf
  have e : gb_Wd gs ps = zD gs.length ps * zD gs.length ps * gb_od (gb_k0 gs) := by unfold gb_Wd; rw [eD]
  rw [← e] at h
  rw [eD] at hd
  refine ⟨?_, ?_, h⟩
  · rw [e]
    exact Nat.mul_pos (Nat.mul_pos dp dp) (by omega)
  · rw [e]
    calc zD gs.length ps * zD gs.length ps * gb_od (gb_k0 gs) ≤ 300000 * 300000 * 6 := Nat.mul_le_mul (Nat.mul_le_mul hd hd) ob.2
      _ = 540000000000 := by decide
theorem gOD1 (hgs : ∀ m ∈ gs, m < 10) (g3 : gs.length ≤ 3) (hw : gb_wl 0 0 ps) (hd : gb_dpt gs.length ps ≤ 300000) (P : Nat → Bool) : 0 < gb_Wd gs ps ∧ gb_Wd gs ps ≤ 540000000000 ∧ 0 ≤ pU gs.length ps (gb_k0 gs) P ∧ pU gs.length ps (gb_k0 gs) P ≤ (gb_Wd gs ps : Int) ∧ 1414 * pV gs.length ps (gb_k0 gs) P ≤ 1000 * pU gs.length ps (gb_k0 gs) P ∧ -(1414 * pV gs.length ps (gb_k0 gs) P) ≤ 1000 * pU gs.length ps (gb_k0 gs) P := by
  rw [(pU_s P).1, (pU_s P).2]
  have h := gOD hgs g3 hw hd (f := fun k => if P k = true then 1 else 0) (M := 1) (fun k => by split <;> omega)
  rw [Nat.one_mul] at h
  exact h
theorem pU_ne (P : Nat → Bool) (h : ∀ k, P k = false) {k0 : Nat} : pU g ps k0 P = 0 ∧ pV g ps k0 P = 0 := by
  unfold pU pV
  constructor
  · rw [iS_congr (h := fun _ => 0) _ (fun w _ => if_neg (fun z => by rw [h] at z; exact absurd z.2 (by decide))), iS_0]
  · rw [iS_congr (h := fun _ => 0) _ (fun w _ => if_neg (fun z => by rw [h] at z; exact absurd z.2 (by decide))), iS_0]
def gb_pl5 (p0 p1 p2 p3 p4 : Int32) : Nat := gpk5 p0.toNatClampNeg p1.toNatClampNeg p2.toNatClampNeg p3.toNatClampNeg p4.toNatClampNeg
def gb_ov (gs : List Nat) (ps : List gb_P) (pl : Nat) (c : Int32) : Int64 := gb_tl (pU gs.length ps (gb_k0 gs) (fun k => decide (gpk k = pl))) (pV gs.length ps (gb_k0 gs) (fun k => decide (gpk k = pl))) (gb_Wd gs ps) c
def a_odds (b p0 p1 p2 p3 p4 c : Int32) (S : gb_S) : Int64 × gb_S :=
  (if gb_rg c 3 = true then if gb_rg b 4 = true ∧ grg5 p0 p1 p2 p3 p4 ∧ gb_dpt S.1.length (S.2.2.2.2.1 b.toNatClampNeg) ≤ 300000 then gb_ov S.1 (S.2.2.2.2.1 b.toNatClampNeg) (gb_pl5 p0 p1 p2 p3 p4) c else if c = 2 then -1 else 0 else -1, S)
theorem m_areCounts (p0 p1 p2 p3 p4 : Int32) (h : gb_H) : ∃ v : Int32, fnX11_areCounts p0 p1 p2 p3 p4 h = some (v, h) ∧ (grg5 p0 p1 p2 p3 p4 → v = 1) ∧ (¬ grg5 p0 p1 p2 p3 p4 → v = 0) := by
  have r : ∀ (v : Int32) (h : gb_H), fnX11_in v 0 3 h = some (if gb_rg v 4 = true then 1 else 0, h) := fun v h => m_inR v 3 (by decide) h rfl
  unfold fnX11_areCounts fbX11_areCounts_50 fbX11_areCounts_51 grg5
  rw [r, gb_bd_s, gb_b_0, gb_gd_t, gb_b_1]
  by_cases h0 : gb_rg p0 4 = true
  · rw [if_pos h0, if_neg gb_n10, r, gb_bd_s]
    by_cases h1 : gb_rg p1 4 = true
    · rw [if_pos h1, if_neg gb_n10, r, gb_bd_s]
      by_cases h2 : gb_rg p2 4 = true
      · rw [if_pos h2, if_neg gb_n10, r, gb_bd_s]
        by_cases h3 : gb_rg p3 4 = true
        · rw [if_pos h3, if_neg gb_n10, r, gb_bd_s]
          by_cases h4 : gb_rg p4 4 = true
          · rw [if_pos h4, if_neg gb_n10, gb_gd_t]
            exact ⟨1, rfl, fun _ => rfl, fun z => absurd ⟨h0, h1, h2, h3, h4⟩ z⟩
          · rw [if_neg h4, if_pos (show (0 : Int32) = 0 from rfl)]
            exact ⟨0, rfl, fun z => absurd z.2.2.2.2 h4, fun _ => rfl⟩
        · rw [if_neg h3, if_pos (show (0 : Int32) = 0 from rfl)]
          exact ⟨0, rfl, fun z => absurd z.2.2.2.1 h3, fun _ => rfl⟩
      · rw [if_neg h2, if_pos (show (0 : Int32) = 0 from rfl)]
        exact ⟨0, rfl, fun z => absurd z.2.2.1 h2, fun _ => rfl⟩
    · rw [if_neg h1, if_pos (show (0 : Int32) = 0 from rfl)]
      exact ⟨0, rfl, fun z => absurd z.2.1 h1, fun _ => rfl⟩
  · rw [if_neg h0, if_pos (show (0 : Int32) = 0 from rfl)]
    exact ⟨0, rfl, fun z => absurd z.1 h0, fun _ => rfl⟩
theorem grg5_n {p0 p1 p2 p3 p4 : Int32} (h : grg5 p0 p1 p2 p3 p4) : ∃ a b c d e, a < 4 ∧ b < 4 ∧ c < 4 ∧ d < 4 ∧ e < 4 ∧ p0 = nI a ∧ p1 = nI b ∧ p2 = nI c ∧ p3 = nI d ∧ p4 = nI e ∧ gb_pl5 p0 p1 p2 p3 p4 = gpk5 a b c d e ∧ gpk5 a b c d e < 1024 := by
  obtain ⟨h0, h1, h2, h3, h4⟩ := h
  obtain ⟨a, ha, _, rfl⟩ := gb_rgT h0
  obtain ⟨b, hb, _, rfl⟩ := gb_rgT h1
  obtain ⟨c, hc, _, rfl⟩ := gb_rgT h2
  obtain ⟨d, hd, _, rfl⟩ := gb_rgT h3
  obtain ⟨e, he, _, rfl⟩ := gb_rgT h4
  refine ⟨a, b, c, d, e, ha, hb, hc, hd, he, rfl, rfl, rfl, rfl, rfl, ?_, by unfold gpk5; omega⟩
  unfold gb_pl5
  rw [nI_clamp (by omega), nI_clamp (by omega), nI_clamp (by omega), nI_clamp (by omega), nI_clamp (by omega)]
theorem m_placeOf (a b c d e : Nat) (h : gb_H) : fnX11_placeOf (nI a) (nI b) (nI c) (nI d) (nI e) h = some (nI (gpk5 a b c d e), h) := by
  unfold fnX11_placeOf gpk5
  rw [show (4 : Int32) = nI 4 from rfl, gb_nI_mul, nI_add, gb_nI_mul, nI_add, gb_nI_mul, nI_add, gb_nI_mul, nI_add]
theorem M_odds (h : RM S I J) (hgs : ∀ m ∈ S.1, m < 10) (g3 : S.1.length ≤ 3) (hB : ∀ b, b < 4 → (S.2.2.2.2.1 b).length ≤ 16 ∧ gb_wl 0 0 (S.2.2.2.2.1 b)) (b p0 p1 p2 p3 p4 c : Int32) : mok (fnX11_odds 241 b p0 p1 p2 p3 p4 c) I J (a_odds b p0 p1 p2 p3 p4 c S) := by
  have bad : ∀ (I' : gb_FI) (J' : gb_FJ), gm_fL I I' J J' → ∃ I2 J2, fbX11_odds_45 c (gb_mk I' J') = some ((if c = 2 then (-1 : Int64) else 0), gb_mk I2 J2) ∧ RM S I2 J2 ∧ gb_fm I I2 J J2 := fun I' J' f => by
    unfold fbX11_odds_45 fbX11_odds_58
    refine ⟨I', J', ?_, h.fL f, f.fm⟩
    split <;> rfl
  unfold a_odds mok fnX11_odds
  rw [m_inR c 2 (by decide) _ (show (2 : Int32) = nI 2 from rfl), gb_bd_s]
  by_cases h1 : gb_rg c 3 = true
  · rw [if_pos (show gb_rg c (2 + 1) = true from h1), if_neg gb_n10, if_pos h1, m_inR b 3 (by decide) _ (show (3 : Int32) = nI 3 from rfl), gb_bd_s]
    by_cases h2 : gb_rg b 4 = true
    · rw [if_pos (show gb_rg b (3 + 1) = true from h2), if_neg gb_n10]
      obtain ⟨v, a1, a2, a3⟩ := m_areCounts p0 p1 p2 p3 p4 (gb_mk I J)
      rw [a1, gb_bd_s]
      by_cases h3 : grg5 p0 p1 p2 p3 p4
      · rw [a2 h3, if_neg gb_n10]
        obtain ⟨b', hb, _, rfl⟩ := gb_rgT h2
        obtain ⟨x0, x1, x2, x3, x4, y0, y1, y2, y3, y4, e0, e1, e2, e3, e4, pl, plb⟩ := grg5_n h3
        obtain ⟨I2, J2, s1, s2, s3⟩ := m_laysBench h hgs g3 hb (hB b' hb).1 (hB b' hb).2
        rw [gk241, gb_gd_t, s1, gb_bd_s, nI_clamp (by omega)]
        by_cases d : gb_dpt S.1.length (S.2.2.2.2.1 b') ≤ 300000
        · obtain ⟨t1, t2⟩ := s3 d
          obtain ⟨u1, u2⟩ := t2 _ plb
          obtain ⟨q1, q2, q3, q4, q5, q6⟩ := gOD1 hgs g3 (hB b' hb).2 d (fun k => decide (gpk k = gpk5 x0 x1 x2 x3 x4))
          rw [if_pos d, if_neg gb_n10, if_pos ⟨h2, h3, d⟩, pl, e0, e1, e2, e3, e4, m_placeOf, gb_bd_s, gk241, gb_gd_t, gr241_28, gb_rd_s, gk256, gb_gd_t, gi256 plb, gb_gd_t, gb_gd_t, gr241_29, gb_rd_s, gk257, gb_gd_t, gi257 plb, gb_gd_t, gb_gd_t, gb_L_mk, nI_clamp (by omega), u1, u2, t1, show gb_dpt S.1.length (S.2.2.2.2.1 b') * gb_dpt S.1.length (S.2.2.2.2.1 b') * gb_od (gb_k0 S.1) = gb_Wd S.1 (S.2.2.2.2.1 b') from rfl, m_tells (by omega) (by omega) (by omega) q1, gb_bd_s]
          exact ⟨I2, J2, rfl, h.fL s2, s2.fm⟩
        · rw [if_neg d, if_pos (show (0 : Int32) = 0 from rfl), if_neg (fun z => d z.2.2)]
          exact bad I2 J2 s2
      · rw [a3 h3, if_pos (show (0 : Int32) = 0 from rfl), if_neg (fun z => h3 z.2.1)]
        exact bad I J gm_fL.rf
    · rw [if_neg (show ¬ gb_rg b (3 + 1) = true from h2), if_pos (show (0 : Int32) = 0 from rfl), if_neg (fun z => h2 z.1)]
      exact bad I J gm_fL.rf
  · rw [if_neg (show ¬ gb_rg c (2 + 1) = true from h1), if_pos (show (0 : Int32) = 0 from rfl), if_neg h1]
    exact ⟨I, J, rfl, h, gb_fm.r⟩
/-- the share's cell behind put -/
def gsh (J : gb_FJ) (o : Nat) (u v : Int) (w : Nat) : gb_FJ := gb_u (gb_u (gb_u J o 0 (iL (u.tdiv (gb_g3 u v w)))) o 1 (iL (v.tdiv (gb_g3 u v w)))) o 2 (lN (w / gb_g3 u v w))
theorem gsh_ne {o n : Nat} {u v : Int} {w : Nat} (h : n ≠ o) : gsh J o u v w n = J n := by
  unfold gsh
  rw [gb_u_row _ _ h, gb_u_row _ _ h, gb_u_row _ _ h]
theorem x_spart {o : Nat} (hk : ∀ I J, gb_k (gb_mk I J) o 8 = true) {u v : Int} {w : Nat} (c : Int32) : fnX8_part o c (gb_mk I (gsh J o u v w)) = some (gb_tl u v w c, gb_mk I (gsh J o u v w)) := by
  unfold fnX8_part fbX8_part_25 gb_tl
  rw [hk, gb_gd_t, gb_gd_t, gb_gd_t, gb_L_mk]
  have e0 : gsh J o u v w o 0 = iL (u.tdiv (gb_g3 u v w)) := by unfold gsh; rw [gb_u_nk _ _ (by decide), gb_u_nk _ _ (by decide), gb_u_s]
  have e1 : gsh J o u v w o 1 = iL (v.tdiv (gb_g3 u v w)) := by unfold gsh; rw [gb_u_nk _ _ (by decide), gb_u_s]
  have e2 : gsh J o u v w o 2 = lN (w / gb_g3 u v w) := by unfold gsh; rw [gb_u_s]
  rw [e0, e1, e2]
  split
  · rfl
  · split <;> rfl
theorem gb_tl0 {w : Nat} (hw : 0 < w) (c : Int32) : gb_tl 0 0 w c = gb_tl 0 0 1 c := by
  have e : ∀ w, gb_g3 0 0 w = w := fun w => by unfold gb_g3; simp
  unfold gb_tl
  rw [e, e, Int.zero_tdiv, Int.zero_tdiv, Nat.div_self hw]
theorem X_odds (h : RX gCK S I J) (hB : ∀ b, b < 4 → gb_wl 0 0 (S.2.2.2.2.1 b)) (b p0 p1 p2 p3 p4 c : Int32) : xok gCK (fnX10_odds 0 b p0 p1 p2 p3 p4 c) I J (a_odds b p0 p1 p2 p3 p4 c S) := by
  have g3 := h.1.1
  have hgs := h.1.2.1
  have k238 : ∀ (I : gb_FI) (J : gb_FJ), gb_k (gb_mk I J) 238 8 = true := fun I J => gk238
  have bad : ∀ (I' : gb_FI) (J' : gb_FJ), RX gCK S I' J' → gb_fx I I' J J' → ∃ I2 J2, fbX10_odds_41 c (gb_mk I' J') = some ((if c = 2 then (-1 : Int64) else 0), gb_mk I2 J2) ∧ RX gCK S I2 J2 ∧ gb_fx I I2 J J2 := fun I' J' f f' => by
    unfold fbX10_odds_41 fbX10_odds_54
    refine ⟨I', J', ?_, f, f'⟩
    split <;> rfl
  have e : ∀ (A B : Option (Int64 × gb_H)), (if c < 0 then A else if c ≤ 2 then B else A) = if gb_rg c 3 = true then B else A := fun A B => by
    by_cases h0 : c < 0
    · rw [if_pos h0, gb_rg_neg h0, if_neg (by decide)]
    · rw [if_neg h0]
      obtain ⟨j, hj, rfl⟩ := nI_of h0
      rw [gb_rg_nI hj]
      by_cases q : j < 3
      · rw [if_pos (show nI j ≤ 2 from nI_le (b := 2) (by omega) (by omega)), if_pos (by simpa using q)]
      · rw [if_neg (show ¬ nI j ≤ 2 from nI_ge (a := 2) (by omega) hj), if_neg (by simpa using q)]
  unfold a_odds xok fnX10_odds fbX10_odds_11
  rw [e]
  by_cases h1 : gb_rg c 3 = true
  · rw [if_pos h1, if_pos h1]
    by_cases h3 : grg5 p0 p1 p2 p3 p4
    · obtain ⟨x0, x1, x2, x3, x4, y0, y1, y2, y3, y4, e0, e1, e2, e3, e4, pl, plb⟩ := grg5_n h3
      have gpb : gpc x0 x1 x2 x3 x4 < 2 ^ 31 := by unfold gpc; omega
      rw [pl]
      subst e0 e1 e2 e3 e4
      rw [x_pack y0 y1 y2 y3 y4, gb_bd_s, if_neg (nI_pos gpb), gk0, gb_gd_t]
      by_cases h2 : gb_rg b 4 = true
      · obtain ⟨b', hb, _, rfl⟩ := gb_rgT h2
        obtain ⟨I2, J2, s1, s2, s3, s4, s5⟩ := x_isTold h hb (hB b' hb)
        have ch := gb_CHs hb
        rw [s1, gb_bd_s, nI_clamp (by omega)]
        by_cases d : gb_dpt S.1.length (S.2.2.2.2.1 b') ≤ 300000
        · rw [if_pos d, if_neg gb_n10, if_pos ⟨h2, h3, d⟩, gk0, gb_gd_t, gr0_4, gb_rd_s, gk23, gb_gd_t, gi23 hb, gb_gd_t, gx_ch hb, gb_rd_s, x_rowOf y0 y1 y2 y3 y4]
          have ck : gCK (I2 (42 + 23 * b') 5) (J2 (42 + 23 * b') 4) (J2 (43 + 23 * b')) (J2 (44 + 23 * b')) (J2 (45 + 23 * b')) (J2 (46 + 23 * b')) S.1 (S.2.2.2.2.1 b') := by
            rcases s2.2.2.2.2.2.2.2.2.2.1 b' hb with z | z
            · rw [s4] at z; exact absurd z (by decide)
            · exact z.2
          obtain ⟨cw, cr, _⟩ := ck.2 d
          have rk := grw_k y0 y1 y2 y3 y4
          have fin : ∀ (u v : Int) (w : Nat), gb_tl u v w c = gb_ov S.1 (S.2.2.2.2.1 b') (gpk5 x0 x1 x2 x3 x4) c → ∃ I3 J3, (gb_gd (gb_k (gb_mk I2 (gsh J2 238 u v w)) 0 10) <| gb_rd (gb_R (gb_mk I2 (gsh J2 238 u v w)) 0 10) fun a23 => gb_gd (gb_k (gb_mk I2 (gsh J2 238 u v w)) a23 8) <| gb_bd (fnX8_part a23 c (gb_mk I2 (gsh J2 238 u v w))) fun x25 h26 => some (x25, h26)) = some (gb_ov S.1 (S.2.2.2.2.1 b') (gpk5 x0 x1 x2 x3 x4) c, gb_mk I3 J3) ∧ RX gCK S I3 J3 ∧ gb_fx I I3 J J3 := fun u v w hq => by
            rw [gk0, gb_gd_t, gr0_10, gb_rd_s, k238, gb_gd_t, x_spart k238, gb_bd_s, hq]
            exact ⟨I2, _, rfl, s2.jn (fun n hn => gsh_ne hn), fun n hn => ⟨(s3 n hn).1, (gsh_ne (by omega)).trans (s3 n hn).2⟩⟩
          cases er : grw x0 x1 x2 x3 x4 with
          | none =>
            rw [er] at rk
            simp only
            rw [gb_bd_s, gk0, gb_gd_t, gr0_10, gb_rd_s, (ch _ _).1, gb_gd_t]
            unfold fnX1_shareOfRow fbX1_shareOfRow_10 fbX1_shareOfRow_40
            rw [if_pos (show (-1 : Int32) < 0 by decide), k238, gb_gd_t, show fnX8_put 238 0 0 1 (gb_mk I2 J2) = _ from x_put (p0 := 238) (u := 0) (v := 0) (w := 1) k238 (by decide) (by decide) (by decide) (by decide), gb_bd_s, gb_bd_s]
            refine fin 0 0 1 ?_
            have z := pU_ne (g := S.1.length) (ps := S.2.2.2.2.1 b') (k0 := gb_k0 S.1) (fun k => decide (gpk k = gpk5 x0 x1 x2 x3 x4)) (fun k => decide_eq_false (rk k))
            unfold gb_ov
            rw [z.1, z.2, gb_tl0 (gOD1 hgs g3 (hB b' hb) d (fun _ => true)).1]
          | some t =>
            rw [er] at rk
            obtain ⟨r1, r2⟩ := rk
            simp only
            obtain ⟨u1, u2⟩ := cr _ r1
            obtain ⟨q1, q2, q3, q4, q5, q6⟩ := gOD1 hgs g3 (hB b' hb) d (fun k => decide (gb_rw k = gb_kp (gb_ky t.1 t.2.1 t.2.2)))
            rw [gb_bd_s, gk0, gb_gd_t, gr0_10, gb_rd_s, (ch _ _).1, gb_gd_t]
            unfold fnX1_shareOfRow fbX1_shareOfRow_40
            rw [if_neg (nI_pos (by omega)), if_pos (show nI (gb_kp (gb_ky t.1 t.2.1 t.2.2)) < 56 from nI_lt (b := 56) r1 (by omega)), (ch _ _).1, gb_gd_t, (ch _ _).2.1, gb_rd_s, (ch _ _).2.2.2.2.2.1, gb_gd_t, (((ch _ _).2.2.2.2.2.2.2.2.2 _).1 r1).1, gb_gd_t, gb_gd_t, (ch _ _).2.2.1, gb_rd_s, (ch _ _).2.2.2.2.2.2.1, gb_gd_t, (((ch _ _).2.2.2.2.2.2.2.2.2 _).1 r1).2, gb_gd_t, gb_gd_t, k238, gb_gd_t, gb_L_mk, nI_clamp (by omega), u1, u2, cw, x_put (p0 := 238) k238 (by omega) (by omega) (by omega) q1, gb_bd_s, gb_bd_s]
            refine fin _ _ _ ?_
            unfold gb_ov
            have ee : (fun k => decide (gb_rw k = gb_kp (gb_ky t.1 t.2.1 t.2.2))) = (fun k => decide (gpk k = gpk5 x0 x1 x2 x3 x4)) := funext (fun k => decide_eq_decide.mpr (r2 k))
            rw [ee]
        · rw [if_neg d, if_pos (show (0 : Int32) = 0 from rfl), if_neg (fun z => d z.2.2)]
          exact bad I2 J2 s2 s3
      · rw [if_neg (fun z => h2 z.1)]
        unfold fnX10_isTold
        rw [x_isBench, gb_bd_s, if_neg h2, if_pos (show (0 : Int32) = 0 from rfl), gb_bd_s, if_pos (show (0 : Int32) = 0 from rfl)]
        exact bad I J h gb_fx.r
    · rw [x_packN h3, gb_bd_s, if_pos (show (-1 : Int32) < 0 by decide), if_neg (fun z => h3 z.2.1)]
      exact bad I J h gb_fx.r
  · rw [if_neg h1, if_neg h1]
    exact ⟨I, J, rfl, h, gb_fx.r⟩
end ODDSF
