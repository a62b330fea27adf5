section MISFIT
variable {S : gb_S} {I I' I1 I2 : gb_FI} {J J' J1 J2 : gb_FJ} {g b d bits set p k i a : Nat} {dk : Nat → Nat} {gs : List Nat} {ps : List gb_P} {rs : List gb_Ru} {c : Nat → Nat}
/-- odds of clicks in lowest terms -/
def gcG (gs : List Nat) (ps : List gb_P) (dk : Nat → Nat) (i : Nat) : Nat := gb_g3 (gcU gs ps dk i) (gcV gs ps dk i) (gb_Wd gs ps * 100000)
def gru (gs : List Nat) (ps : List gb_P) (dk : Nat → Nat) (i : Nat) : Int := (gcU gs ps dk i).tdiv (gcG gs ps dk i)
def grv (gs : List Nat) (ps : List gb_P) (dk : Nat → Nat) (i : Nat) : Int := (gcV gs ps dk i).tdiv (gcG gs ps dk i)
def grW (gs : List Nat) (ps : List gb_P) (dk : Nat → Nat) (i : Nat) : Nat := gb_Wd gs ps * 100000 / gcG gs ps dk i
theorem gcR (hgs : ∀ m ∈ gs, m < 10) (g3 : gs.length ≤ 3) (hw : gb_wl 0 0 ps) (hd : gb_dpt gs.length ps ≤ 300000) (dl : ∀ p, p < 5 → dk p < 10) (i : Nat) : 0 < grW gs ps dk i ∧ grW gs ps dk i ≤ 9000000000000000 ∧ 0 ≤ gru gs ps dk i ∧ 1414 * grv gs ps dk i ≤ 1000 * gru gs ps dk i ∧ -(1414 * grv gs ps dk i) ≤ 1000 * gru gs ps dk i ∧ 1000 * gru gs ps dk i + 1414 * grv gs ps dk i ≤ 1000 * (grW gs ps dk i : Int) ∧ 1000 * gru gs ps dk i - 1414 * grv gs ps dk i ≤ 1000 * (grW gs ps dk i : Int) := by
  obtain ⟨q1, q2, q3, q4, q5, q6⟩ := gcB hgs g3 hw hd dl i
  have eD : gb_dpt gs.length ps = zD gs.length ps := by
    have := gb_dpt_D (g := gs.length) (ps := ps)
    omega
  have eW : gb_Wd gs ps = zD gs.length ps * zD gs.length ps * gb_od (gb_k0 gs) := by unfold gb_Wd; rw [eD]
  have r := sU_b2 g3 hw (by decide) (gb_k0_ad hgs g3) (f := fun k => gwr dk i (gpk k)) (M := 100000) (fun k => gwr_b dl)
  rw [← eW, Nat.mul_comm] at r
  have r1 : 1000 * gcU gs ps dk i + 1414 * gcV gs ps dk i ≤ 1000 * ((gb_Wd gs ps * 100000 : Nat) : Int) := r.1
  have r2 : 1000 * gcU gs ps dk i - 1414 * gcV gs ps dk i ≤ 1000 * ((gb_Wd gs ps * 100000 : Nat) : Int) := r.2
  obtain ⟨e1, e2, e3⟩ := gb_g3_e (u := gcU gs ps dk i) (v := gcV gs ps dk i) (w := gb_Wd gs ps * 100000)
  have G0 : 0 < gcG gs ps dk i := gb_g3_pos q1
  have sm : grW gs ps dk i ≤ 9000000000000000 := gcW hgs g3 hw hd _
  have e1' : gcU gs ps dk i = (gcG gs ps dk i : Int) * gru gs ps dk i := e1
  have e2' : gcV gs ps dk i = (gcG gs ps dk i : Int) * grv gs ps dk i := e2
  have e3' : gb_Wd gs ps * 100000 = gcG gs ps dk i * grW gs ps dk i := e3
  have w0 : 0 < grW gs ps dk i := Nat.pos_of_ne_zero (fun z => by rw [z, Nat.mul_zero] at e3'; omega)
  rw [e3', Int.natCast_mul, e1', e2'] at r1 r2
  rw [e1'] at q3
  rw [e1', e2'] at q5 q6
  have Gp : (0 : Int) < (gcG gs ps dk i : Int) := by omega
  have dv : ∀ x y : Int, (gcG gs ps dk i : Int) * x ≤ (gcG gs ps dk i : Int) * y → x ≤ y := fun x y h => Int.le_of_mul_le_mul_left h Gp
  refine ⟨w0, sm, ?_, ?_, ?_, ?_, ?_⟩
  · refine dv _ _ ?_
    rw [Int.mul_zero]; exact q3
  · refine dv _ _ ?_
    rw [Int.mul_left_comm, Int.mul_left_comm _ 1000]; exact q5
  · refine dv _ _ ?_
    rw [Int.mul_neg, Int.mul_left_comm, Int.mul_left_comm _ 1000]; exact q6
  · refine dv _ _ ?_
    rw [Int.mul_add, Int.mul_left_comm, Int.mul_left_comm _ 1414, Int.mul_left_comm _ 1000 (grW gs ps dk i : Int)]; exact r1
  · refine dv _ _ ?_
    rw [Int.mul_sub, Int.mul_left_comm, Int.mul_left_comm _ 1414, Int.mul_left_comm _ 1000 (grW gs ps dk i : Int)]; exact r2
def gtp (gs : List Nat) (ps : List gb_P) (dk : Nat → Nat) (i : Nat) : Nat := gth0 (gru gs ps dk i) (grv gs ps dk i) (grW gs ps dk i)
/-- how far the runs lie apart from the odds, of the first so many rows of clicks -/
def gaX (gs : List Nat) (ps : List gb_P) (dk : Nat → Nat) (c : Nat → Nat) (a i : Nat) : Int32 := (1000 : Int32) * nI (c i) / nI a - nI (gtp gs ps dk i)
def gaS (gs : List Nat) (ps : List gb_P) (dk : Nat → Nat) (c : Nat → Nat) (a : Nat) : Nat → Int32
  | 0 => 0
  | i + 1 => gaS gs ps dk c a i + (if 0 ≤ gaX gs ps dk c a i then gaX gs ps dk c a i else -(gaX gs ps dk c a i))
def gja (J : gb_FJ) (gs : List Nat) (ps : List gb_P) (dk : Nat → Nat) : Nat → gb_FJ
  | 0 => J
  | i + 1 => gsh (gja J gs ps dk i) 238 (gcU gs ps dk i) (gcV gs ps dk i) (gb_Wd gs ps * 100000)
theorem gja_ne {n : Nat} (h : n ≠ 238) : ∀ i, gja J gs ps dk i n = J n
  | 0 => rfl
  | i + 1 => (gsh_ne h).trans (gja_ne h i)
theorem x_sa26 (hD : xD (I 240) dk) (h4 : b < 4) (hgs : ∀ m ∈ gs, m < 10) (g3 : gs.length ≤ 3) (hw : gb_wl 0 0 ps) (hd : gb_dpt gs.length ps ≤ 300000) (ck : gCK (I (42 + 23 * b) 5) (J (42 + 23 * b) 4) (J (43 + 23 * b)) (J (44 + 23 * b)) (J (45 + 23 * b)) (J (46 + 23 * b)) gs ps) (hc : ∀ t, t < 32 → I 130 t = nI (c t)) (ha : I 126 5 = nI a) (a0 : 0 < a) (a2 : a ≤ 200) :
    lpX10_sumApart_26 gb_FU 0 (nI b) 0 0 (gb_mk I J) = some (gaS gs ps dk c a 32, gb_mk I (gja J gs ps dk 32)) := by
  have k238 : ∀ (I : gb_FI) (J : gb_FJ), gb_k (gb_mk I J) 238 8 = true := fun I J => gk238
  have ch := gb_CHs h4
  have dl : ∀ p, p < 5 → dk p < 10 := fun p hp => (hD p hp).1
  have nz : gb_nz (nI a) = true := gb_nz_of (fun q => by have := (nI_eq (b := 0) (by omega) (by omega)).mp q; omega)
  have zs : ∀ x : Int32, 0 - x = -x := fun x => by grind
  unfold lpX10_sumApart_26
  refine gb_forF (fun i => (0, nI b, gaS gs ps dk c a i, nI i, gb_mk I (gja J gs ps dk i))) 32 (by decide) ?_ ?_
  · intro i hi q
    have c2 := hc i hi
    obtain ⟨p1, p2, p3, p4, p5, p6, p7⟩ := gcR hgs g3 hw hd dl i
    have ck' : gCK (I (42 + 23 * b) 5) (gja J gs ps dk i (42 + 23 * b) 4) (gja J gs ps dk i (43 + 23 * b)) (gja J gs ps dk i (44 + 23 * b)) (gja J gs ps dk i (45 + 23 * b)) (gja J gs ps dk i (46 + 23 * b)) gs ps := by
      rw [gja_ne (by omega), gja_ne (by omega), gja_ne (by omega), gja_ne (by omega), gja_ne (by omega)]
      exact ck
    have run := x_clicksOf (I := I) (J := gja J gs ps dk i) hD hi h4 hgs g3 hw hd ck'
    have th := x_thou (I := I) (J := gsh (gja J gs ps dk i) 238 (gcU gs ps dk i) (gcV gs ps dk i) (gb_Wd gs ps * 100000)) k238 (u := gru gs ps dk i) (v := grv gs ps dk i) (w := grW gs ps dk i) (by unfold gsh; rw [gb_u_nk _ _ (by decide), gb_u_nk _ _ (by decide), gb_u_s]; rfl) (by unfold gsh; rw [gb_u_nk _ _ (by decide), gb_u_s]; rfl) (by unfold gsh; rw [gb_u_s]; rfl) p1 p2 p3 p4 p5 p6 p7
    show fbX10_sumApart_26 (fun v0 v1 v3 v4 h => q (v0, v1, v3, v4, h)) 0 (nI b) (gaS gs ps dk c a i) (nI i) (gb_mk I (gja J gs ps dk i)) = q (0, nI b, gaS gs ps dk c a i + (if 0 ≤ gaX gs ps dk c a i then gaX gs ps dk c a i else -(gaX gs ps dk c a i)), nI (i + 1), gb_mk I (gsh (gja J gs ps dk i) 238 (gcU gs ps dk i) (gcV gs ps dk i) (gb_Wd gs ps * 100000)))
    unfold fbX10_sumApart_26
    rw [if_neg (show ¬ (32 : Int32) ≤ nI i from nI_ge (b := 32) hi (by omega)), gk0, gb_gd_t, gr0_4, gb_rd_s, gk23, gb_gd_t, gi23 h4, gb_gd_t, nI_clamp (by omega), gx_ch h4, gb_rd_s, gb_gd_t, gr0_12, gb_rd_s, gb_gd_t, gr0_10, gb_rd_s, (ch _ _).1, gb_gd_t, run, gb_bd_s, gk0, gb_gd_t, gr0_5, gb_rd_s, gk126, gb_gd_t, gr126_4, gb_rd_s, gk130, gb_gd_t, gi130 hi, gb_gd_t, gb_gd_t, gb_rd_s, gk126, gb_gd_t, gb_lt_d, gb_I_mk, ha, nz, gb_gd_t, gb_gd_t, gr0_10, gb_rd_s, k238, gb_gd_t, th, gb_bd_s, gb_lt_d, gb_lt_d, gb_lt_d, nI_clamp (by omega), c2, nI_1, zs]
    rfl
  · intro q
    simp only [fbX10_sumApart_26]
    rw [if_pos (show (32 : Int32) ≤ nI 32 by decide)]
/-- what misfit answers of a told bench -/
def gmf (gs : List Nat) (ps : List gb_P) (dk : Nat → Nat) (c : Nat → Nat) (a : Nat) : Int32 := if a = 0 then -1 else gaS gs ps dk c a 32
theorem x_sumApart (h : RX gCK S I J) (hb : b < 4) (hW : gb_wl 0 0 (S.2.2.2.2.1 b)) (hd : d < 1000) (e6 : I (42 + 23 * b) 6 = 1) (dd : gb_dpt S.1.length (S.2.2.2.2.1 b) ≤ 300000) : ∃ I' J', fnX10_sumApart 0 (nI b) (nI d) (gb_mk I J) = some (gmf S.1 (S.2.2.2.2.1 b) S.2.2.2.2.2.2.1 (gcn S b d) (gca S b d), gb_mk I' J') ∧ RX gCK S I' J' ∧ gb_fx I I' J J' := by
  have xr := h.2.2.2.2.2.2.2.1
  have ck := h.ck hb e6
  have l2 := xr.1
  have al : gca S b d ≤ 200 := Nat.le_trans gb_nt_le' l2
  unfold fnX10_sumApart gmf
  rw [gk0, gb_gd_t, gr0_5, gb_rd_s, gk126, gb_gd_t, x_tally xr hb hd, gb_bd_s, gk0, gb_gd_t, gr0_5, gb_rd_s, gk126, gb_gd_t, gb_I_mk, show gb_tw I S.2.2.2.2.2.2.2.1 b d S.2.2.2.2.2.2.2.1.length 126 5 = nI (gca S b d) from gb_tw_5]
  by_cases z : gca S b d = 0
  · rw [if_pos z, if_neg (show ¬ (0 : Int32) < nI (gca S b d) from nI_nlt (a := 0) (by omega) (by omega))]
    exact ⟨_, _, rfl, h.ty, gb_fx.ty⟩
  · rw [if_neg z, if_pos (show (0 : Int32) < nI (gca S b d) from nI_lt (a := 0) (by omega) (by omega))]
    rw [x_sa26 (gs := S.1) (ps := S.2.2.2.2.1 b) (dk := S.2.2.2.2.2.2.1) (c := gcn S b d) (a := gca S b d) (by rw [gb_tw_ne (by decide) (by decide)]; exact h.2.2.2.2.2.2.1) hb h.1.2.1 h.1.1 hW dd (by rw [gb_tw_ne (by omega) (by omega)]; exact ck) (fun t ht => gb_tw_t ht) gb_tw_5 (by omega) al]
    exact ⟨_, _, rfl, h.ty.jn (fun n hn => gja_ne hn _), fun n hn => ⟨gb_tw_ne (by omega) (by omega), gja_ne (by omega) _⟩⟩
def gmv (S : gb_S) (b d : Nat) : Int32 := if gb_dpt S.1.length (S.2.2.2.2.1 b) ≤ 300000 then gmf S.1 (S.2.2.2.2.1 b) S.2.2.2.2.2.2.1 (gcn S b d) (gca S b d) else -1
def a_misfit (b d : Int32) (S : gb_S) : Int32 × gb_S := (if gb_rg b 4 = true ∧ gb_rg d 1000 = true then gmv S b.toNatClampNeg d.toNatClampNeg else -1, S)
theorem X_misfit (h : RX gCK S I J) (hB : ∀ b, b < 4 → gb_wl 0 0 (S.2.2.2.2.1 b)) (b d : Int32) : xok gCK (fnX10_misfit 0 b d) I J (a_misfit b d S) := by
  unfold a_misfit xok fnX10_misfit fbX10_misfit_24 fbX10_misfit_25
  rw [x_isDay, gb_bd_s]
  by_cases h3 : gb_rg d 1000 = true
  · rw [if_pos h3, if_neg gb_n10, gk0, gb_gd_t]
    obtain ⟨d', hd, _, rfl⟩ := gb_rgT h3
    by_cases h2 : gb_rg b 4 = true
    · obtain ⟨b', hb, _, rfl⟩ := gb_rgT h2
      obtain ⟨I2, J2, s1, s2, s3, s4, s5⟩ := x_isTold h hb (hB b' hb)
      rw [s1, gb_bd_s, nI_clamp (by omega), nI_clamp (by omega), if_pos (show gb_rg (nI b') 4 = true ∧ gb_rg (nI d') 1000 = true from ⟨h2, h3⟩)]
      unfold gmv
      by_cases dd : gb_dpt S.1.length (S.2.2.2.2.1 b') ≤ 300000
      · obtain ⟨I3, J3, t1, t2, t3⟩ := x_sumApart s2 hb (hB b' hb) hd s4 dd
        rw [if_pos dd, if_neg gb_n10, if_pos dd, gk0, gb_gd_t, t1, gb_bd_s]
        exact ⟨I3, J3, rfl, t2, fun n hn => ⟨(t3 n hn).1.trans (s3 n hn).1, (t3 n hn).2.trans (s3 n hn).2⟩⟩
      · rw [if_neg dd, if_pos (show (0 : Int32) = 0 from rfl), if_neg dd]
        exact ⟨I2, J2, rfl, s2, s3⟩
    · rw [if_neg (fun z => h2 z.1)]
      unfold fnX10_isTold
      rw [x_isBench, gb_bd_s, if_neg h2, if_pos (show (0 : Int32) = 0 from rfl), gb_bd_s, if_pos (show (0 : Int32) = 0 from rfl)]
      exact ⟨I, J, rfl, h, gb_fx.r⟩
  · rw [if_neg h3, if_pos (show (0 : Int32) = 0 from rfl), if_neg (fun z => h3 z.2)]
    exact ⟨I, J, rfl, h, gb_fx.r⟩
theorem m_mf50 (hD : xD (I 260) dk) (hR : xR (I 241 37) (I 261) (I 262) (I 263) rs) (hb : b < 4) (hd : d < 1000) (hgs : ∀ m ∈ gs, m < 10) (g3 : gs.length ≤ 3) (hw : gb_wl 0 0 ps) (hdp : gb_dpt gs.length ps ≤ 300000) (a0 : 0 < a) (a2 : a ≤ 200) :
    ∀ m i F (J1 : gb_FJ), i + m = 32 → m < F → gm_told J1 gs ps → gm_fK J J1 → ∃ J2, lpX11_misfit_50 F 241 (nI b) (nI d) (nI a) (gaS gs ps dk (fun t => gb_nt (gb_pT b d t) rs rs.length) a i) (nI i) (gb_mk I J1) = some (gaS gs ps dk (fun t => gb_nt (gb_pT b d t) rs rs.length) a 32, gb_mk I J2) ∧ gm_fK J J2 := by
  have dl : ∀ p, p < 5 → dk p < 10 := fun p hp => (hD p hp).1
  have nz : gb_nz (nI a) = true := gb_nz_of (fun q => by have := (nI_eq (b := 0) (by omega) (by omega)).mp q; omega)
  intro m
  induction m with
  | zero =>
    intro i F J1 hi hF ht hf
    obtain ⟨F, rfl⟩ : ∃ f, F = f + 1 := ⟨F - 1, by omega⟩
    refine ⟨J1, ?_, hf⟩
    rw [show ∀ v, lpX11_misfit_50 (F + 1) 241 (nI b) (nI d) (nI a) v (nI i) (gb_mk I J1) = fbX11_misfit_50 (fun v0 v1 v2 v3 v4 v5 h => lpX11_misfit_50 F v0 v1 v2 v3 v4 v5 h) 241 (nI b) (nI d) (nI a) v (nI i) (gb_mk I J1) from fun _ => rfl]
    unfold fbX11_misfit_50
    rw [if_pos (show (32 : Int32) ≤ nI i from nI_le (a := 32) (by omega) (by omega)), show i = 32 by omega]
  | succ m ih =>
    intro i F J1 hi hF ht hf
    obtain ⟨F, rfl⟩ : ∃ f, F = f + 1 := ⟨F - 1, by omega⟩
    obtain ⟨J2, t1, t2, t3, t4, t5, t6⟩ := m_clicksOf (I := I) (J := J1) hD (show i < 32 by omega) ht
    obtain ⟨q1, q2, q3, q4, q5, q6⟩ := gcB hgs g3 hw hdp dl i
    obtain ⟨p1, p2, p3, p4, p5, p6, p7⟩ := gcR hgs g3 hw hdp dl i
    obtain ⟨n1, n2⟩ := gnr_b p3 p4 p5 p6 p7
    obtain ⟨n, hn⟩ := Int.eq_ofNat_of_zero_le n1
    have f2 : gm_fK J J2 := fun x k hx => (t5 x k hx).trans (hf x k hx)
    have go := ih (i + 1) F J2 (by omega) (by omega) t6 f2
    have T0 : ∀ h, fnX11_tells (iL (gcU gs ps dk i)) (iL (gcV gs ps dk i)) (lN (gb_Wd gs ps * 100000)) 0 h = some (iL (gru gs ps dk i), h) := fun h => m_tells (by omega) (by omega) (by omega) q1 0 h
    have T1 : ∀ h, fnX11_tells (iL (gcU gs ps dk i)) (iL (gcV gs ps dk i)) (lN (gb_Wd gs ps * 100000)) 1 h = some (iL (grv gs ps dk i), h) := fun h => m_tells (by omega) (by omega) (by omega) q1 1 h
    have T2 : ∀ h, fnX11_tells (iL (gcU gs ps dk i)) (iL (gcV gs ps dk i)) (lN (gb_Wd gs ps * 100000)) 2 h = some (lN (grW gs ps dk i), h) := fun h => m_tells (by omega) (by omega) (by omega) q1 2 h
    have vb : (grv gs ps dk i).natAbs ≤ 9000000000000000 := by omega
    have rb : ((grv gs ps dk i - (grv gs ps dk i).tdiv 1000 * 1000) * 1414).natAbs < 2 ^ 63 := by
      have : (grv gs ps dk i - (grv gs ps dk i).tdiv 1000 * 1000) = (grv gs ps dk i).tmod 1000 := by
        have := Int.tmod_add_mul_tdiv (grv gs ps dk i) 1000
        omega
      rw [this]
      have m1 : ((grv gs ps dk i).tmod 1000).natAbs < 1000 := by
        rw [Int.natAbs_tmod]
        exact Nat.mod_lt _ (by decide)
      omega
    have near : iL (gru gs ps dk i) + iL (grv gs ps dk i) / 1000 * 1414 + (iL (grv gs ps dk i) - iL (grv gs ps dk i) / 1000 * 1000) * 1414 / 1000 = lN n := by
      rw [show (1000 : Int64) = iL 1000 from rfl, show (1414 : Int64) = iL 1414 from rfl, iL_div (by omega) (by decide), iL_mul, iL_mul]
      have sb : ∀ x y : Int, iL x - iL y = iL (x - y) := fun x y => by rw [Int64.sub_eq_add_neg, iL_neg, iL_add, Int.sub_eq_add_neg]
      rw [sb, iL_mul, iL_div rb (by decide), iL_add, iL_add, Int.add_assoc, ← gtd, show gru gs ps dk i + (grv gs ps dk i * 1414).tdiv 1000 = gnr (gru gs ps dk i) (grv gs ps dk i) from rfl, hn, lN_iL]
    have tp : n * 1000 / grW gs ps dk i = gtp gs ps dk i := by
      unfold gtp gth0
      rw [hn, Int.toNat_natCast]
    rw [show ∀ v, lpX11_misfit_50 (F + 1) 241 (nI b) (nI d) (nI a) v (nI i) (gb_mk I J1) = fbX11_misfit_50 (fun v0 v1 v2 v3 v4 v5 h => lpX11_misfit_50 F v0 v1 v2 v3 v4 v5 h) 241 (nI b) (nI d) (nI a) v (nI i) (gb_mk I J1) from fun _ => rfl]
    unfold fbX11_misfit_50 fbX11_misfit_186
    rw [if_neg (show ¬ (32 : Int32) ≤ nI i from nI_ge (b := 32) (by omega) (by omega)), gk241, gb_gd_t, t1, gb_bd_s, gk241, gb_gd_t, gb_gd_t, gb_gd_t, gb_L_mk, t2, t3, t4, T0, gb_bd_s, gk241, gb_gd_t, gb_gd_t, gb_gd_t, gb_L_mk, t2, t3, t4, T1, gb_bd_s, gk241, gb_gd_t, gb_gd_t, gb_gd_t, gb_L_mk, t2, t3, t4, T2, gb_bd_s, show gb_nzL (1000 : Int64) = true from rfl, gb_gd_t, gb_gd_t, gb_gd_t, gb_lt_d, near, gk241, gb_gd_t, m_cnt hR hb hd (Or.inr ⟨i, by omega, rfl, rfl⟩), gb_bd_s, nz, gb_gd_t, m_thou p1 p2 (by omega), gb_bd_s, gb_lt_d, tp]
    rw [show gaS gs ps dk (fun t => gb_nt (gb_pT b d t) rs rs.length) a (i + 1) = gaS gs ps dk (fun t => gb_nt (gb_pT b d t) rs rs.length) a i + (if 0 ≤ gaX gs ps dk (fun t => gb_nt (gb_pT b d t) rs rs.length) a i then gaX gs ps dk (fun t => gb_nt (gb_pT b d t) rs rs.length) a i else -(gaX gs ps dk (fun t => gb_nt (gb_pT b d t) rs rs.length) a i)) from rfl] at go
    rw [show (1000 : Int32) * nI (gb_nt (gb_pT b d i) rs rs.length) / nI a - nI (gtp gs ps dk i) = gaX gs ps dk (fun t => gb_nt (gb_pT b d t) rs rs.length) a i from rfl]
    by_cases y : 0 ≤ gaX gs ps dk (fun t => gb_nt (gb_pT b d t) rs rs.length) a i
    · rw [if_pos y] at go ⊢
      rw [gb_lt_d, gb_lt_d, nI_1]
      exact go
    · rw [if_neg y] at go ⊢
      rw [gb_lt_d, gb_lt_d, nI_1]
      exact go
theorem m_misfit (h : RM S I J) (hgs : ∀ m ∈ S.1, m < 10) (g3 : S.1.length ≤ 3) (hB : ∀ b, b < 4 → (S.2.2.2.2.1 b).length ≤ 16 ∧ gb_wl 0 0 (S.2.2.2.2.1 b)) (b d : Int32) : mok (fnX11_misfit 241 b d) I J (a_misfit b d S) := by
  have hD := h.2.2.2.2.2.2.1
  have hR := h.2.2.2.2.2.2.2.1
  have bad : ∀ (I' : gb_FI) (J' : gb_FJ), gm_fL I I' J J' → ∃ I2 J2, fbX11_misfit_28 (gb_mk I' J') = some ((-1 : Int32), gb_mk I2 J2) ∧ RM S I2 J2 ∧ gb_fm I I2 J J2 := fun I' J' f => ⟨I', J', rfl, h.fL f, f.fm⟩
  unfold a_misfit mok fnX11_misfit
  rw [m_inR b 3 (by decide) _ (show (3 : Int32) = nI 3 from rfl), gb_bd_s]
  by_cases h2 : gb_rg b 4 = true
  · rw [if_pos (show gb_rg b (3 + 1) = true from h2), if_neg gb_n10, m_inR d 999 (by decide) _ (show (999 : Int32) = nI 999 from rfl), gb_bd_s]
    by_cases h3 : gb_rg d 1000 = true
    · rw [if_pos (show gb_rg d (999 + 1) = true from h3), if_neg gb_n10, if_pos ⟨h2, h3⟩]
      obtain ⟨b', hb, _, rfl⟩ := gb_rgT h2
      obtain ⟨d', hd, _, rfl⟩ := gb_rgT h3
      obtain ⟨I2, J2, s1, s2, s3⟩ := m_laysBench h hgs g3 hb (hB b' hb).1 (hB b' hb).2
      rw [gk241, gb_gd_t, s1, gb_bd_s, nI_clamp (by omega), nI_clamp (by omega)]
      have k : ∀ x, x ≠ 241 → x ≠ 259 → I2 x = I x := fun x h1 h2 => funext (fun k => s2.1 x k (fun z => h1 z.1) h2)
      unfold gmv gmf
      by_cases dd : gb_dpt S.1.length (S.2.2.2.2.1 b') ≤ 300000
      · have hR2 : xR (I2 241 37) (I2 261) (I2 262) (I2 263) S.2.2.2.2.2.2.2.1 := by rw [s2.1 241 37 (by decide) (by decide), k 261 (by decide) (by decide), k 262 (by decide) (by decide), k 263 (by decide) (by decide)]; exact hR
        have al : gca S b' d' ≤ 200 := Nat.le_trans gb_nt_le' hR.1
        rw [if_pos dd, if_neg gb_n10, if_pos dd, gk241, gb_gd_t, m_cnt hR2 hb hd (Or.inl ⟨rfl, rfl⟩), gb_bd_s]
        by_cases z : gca S b' d' = 0
        · rw [if_pos (show nI (gb_nt (gb_pA b' d') S.2.2.2.2.2.2.2.1 S.2.2.2.2.2.2.2.1.length) = 0 by rw [show gb_nt (gb_pA b' d') S.2.2.2.2.2.2.2.1 S.2.2.2.2.2.2.2.1.length = 0 from z]; rfl), if_pos z]
          exact ⟨I2, J2, rfl, h.fL s2, s2.fm⟩
        · rw [if_neg (show ¬ nI (gb_nt (gb_pA b' d') S.2.2.2.2.2.2.2.1 S.2.2.2.2.2.2.2.1.length) = 0 from fun q => z ((nI_eq (a := gca S b' d') (b := 0) (by omega) (by omega)).mp q)), if_neg z]
          obtain ⟨J3, t1, t2⟩ := m_mf50 (I := I2) (J := J2) (dk := S.2.2.2.2.2.2.1) (rs := S.2.2.2.2.2.2.2.1) (a := gca S b' d') (by rw [k 260 (by decide) (by decide)]; exact hD) hR2 hb hd hgs g3 (hB b' hb).2 dd (by omega) al 32 0 gb_FU J2 (by decide) (by decide) (s3 dd) (fun _ _ _ => rfl)
          refine ⟨I2, J3, t1, (h.fL s2).jk (fun j j1 j2 => t2 241 j (fun z => by omega)), fun n hn => ⟨(s2.fm n hn).1, (funext (fun k => t2 n k (fun z => by omega))).trans (s2.fm n hn).2⟩⟩
      · rw [if_neg dd, if_pos (show (0 : Int32) = 0 from rfl), if_neg dd]
        exact bad I2 J2 s2
    · rw [if_neg (show ¬ gb_rg d (999 + 1) = true from h3), if_pos (show (0 : Int32) = 0 from rfl), if_neg (fun z => h3 z.2)]
      exact bad I J gm_fL.rf
  · rw [if_neg (show ¬ gb_rg b (3 + 1) = true from h2), if_pos (show (0 : Int32) = 0 from rfl), if_neg (fun z => h2 z.1)]
    exact bad I J gm_fL.rf
end MISFIT
