section WRONG
variable {S : gb_S} {I I' I1 I2 : gb_FI} {J J' J1 J2 : gb_FJ} {g b d bits set p k i : Nat} {dk : Nat → Nat} {gs : List Nat} {ps : List gb_P} {rs : List gb_Ru} {c : Nat → Nat}
/-- a share's parts, exactly -/
theorem gb_g3_e {u v : Int} {w : Nat} : u = ((gb_g3 u v w : Nat) : Int) * u.tdiv (gb_g3 u v w) ∧ v = ((gb_g3 u v w : Nat) : Int) * v.tdiv (gb_g3 u v w) ∧ w = gb_g3 u v w * (w / gb_g3 u v w) := by
  obtain ⟨h1, h2, h3⟩ := gb_g3_u (u := u) (v := v) (w := w)
  exact ⟨(Int.mul_tdiv_cancel' h1).symm, (Int.mul_tdiv_cancel' h2).symm, (Nat.mul_div_cancel' h3).symm⟩
theorem gb_g3_z {u v : Int} {w : Nat} : (u.tdiv (gb_g3 u v w) = 0 ↔ u = 0) ∧ (v.tdiv (gb_g3 u v w) = 0 ↔ v = 0) := by
  obtain ⟨h1, h2, _⟩ := gb_g3_e (u := u) (v := v) (w := w)
  refine ⟨⟨fun z => by rw [h1, z, Int.mul_zero], fun z => by rw [z, Int.zero_tdiv]⟩, ⟨fun z => by rw [h2, z, Int.mul_zero], fun z => by rw [z, Int.zero_tdiv]⟩⟩
theorem gb_g3_s {u v : Int} {w : Nat} (hw : 0 < w) : (u.tdiv (gb_g3 u v w)).natAbs ≤ u.natAbs ∧ (v.tdiv (gb_g3 u v w)).natAbs ≤ v.natAbs := by
  rw [Int.natAbs_tdiv, Int.natAbs_tdiv]
  exact ⟨Nat.div_le_self _ _, Nat.div_le_self _ _⟩
theorem x_isZ {o : Nat} (hk : ∀ I J, gb_k (gb_mk I J) o 8 = true) {u v : Int} {w : Nat} (hw : 0 < w) (hu : u.natAbs < 2 ^ 63) (hv : v.natAbs < 2 ^ 63) : fnX8_isZero o (gb_mk I (gsh J o u v w)) = some (if u = 0 ∧ v = 0 then 1 else 0, gb_mk I (gsh J o u v w)) := by
  have s := gb_g3_s (u := u) (v := v) hw
  have z := gb_g3_z (u := u) (v := v) (w := w)
  have e0 : gsh J o u v w o 0 = iL (u.tdiv (gb_g3 u v w)) := by unfold gsh; rw [gb_u_nk _ _ (by decide), gb_u_nk _ _ (by decide), gb_u_s]
  have e1 : gsh J o u v w o 1 = iL (v.tdiv (gb_g3 u v w)) := by unfold gsh; rw [gb_u_nk _ _ (by decide), gb_u_s]
  have q0 : iL (u.tdiv (gb_g3 u v w)) = 0 ↔ u = 0 := by rw [show (0 : Int64) = iL 0 from rfl, iL_eq (by omega) (by decide)]; exact z.1
  have q1 : iL (v.tdiv (gb_g3 u v w)) = 0 ↔ v = 0 := by rw [show (0 : Int64) = iL 0 from rfl, iL_eq (by omega) (by decide)]; exact z.2
  unfold fnX8_isZero fbX8_isZero_22 fbX8_isZero_23
  rw [hk, gb_gd_t, gb_gd_t, gb_L_mk, e0, e1, gb_b_0, gb_b_1, gb_gd_t, gb_gd_t]
  by_cases a : u = 0
  · rw [if_pos (q0.mpr a)]
    by_cases b : v = 0
    · rw [if_pos (q1.mpr b), if_pos ⟨a, b⟩]
    · rw [if_neg (fun z => b (q1.mp z)), if_neg (fun z => b z.2)]
  · rw [if_neg (fun z => a (q0.mp z)), if_neg (fun z => a z.1)]
/-- runs that cannot be, of the first so many rows of clicks -/
def gwS (gs : List Nat) (ps : List gb_P) (dk : Nat → Nat) (c : Nat → Nat) : Nat → Int32
  | 0 => 0
  | i + 1 => gwS gs ps dk c i + (if gcU gs ps dk i = 0 ∧ gcV gs ps dk i = 0 then nI (c i) else 0)
/-- the share's cell behind the first so many rows of clicks -/
def gjw (J : gb_FJ) (gs : List Nat) (ps : List gb_P) (dk : Nat → Nat) (c : Nat → Nat) : Nat → gb_FJ
  | 0 => J
  | i + 1 => if 0 < c i then gsh (gjw J gs ps dk c i) 238 (gcU gs ps dk i) (gcV gs ps dk i) (gb_Wd gs ps * 100000) else gjw J gs ps dk c i
theorem gjw_ne {n : Nat} (h : n ≠ 238) : ∀ i, gjw J gs ps dk c i n = J n
  | 0 => rfl
  | i + 1 => by
    unfold gjw
    split
    · exact (gsh_ne h).trans (gjw_ne h i)
    · exact gjw_ne h i
theorem x_wr31 (hD : xD (I 240) dk) (h4 : b < 4) (hgs : ∀ m ∈ gs, m < 10) (g3 : gs.length ≤ 3) (hw : gb_wl 0 0 ps) (hd : gb_dpt gs.length ps ≤ 300000) (ck : gCK (I (42 + 23 * b) 5) (J (42 + 23 * b) 4) (J (43 + 23 * b)) (J (44 + 23 * b)) (J (45 + 23 * b)) (J (46 + 23 * b)) gs ps) (hc : ∀ t, t < 32 → c t ≤ 200 ∧ I 130 t = nI (c t)) :
    lpX10_wrong_31 gb_FU 0 (nI b) 0 0 (gb_mk I J) = some (gwS gs ps dk c 32, gb_mk I (gjw J gs ps dk c 32)) := by
  have k238 : ∀ (I : gb_FI) (J : gb_FJ), gb_k (gb_mk I J) 238 8 = true := fun I J => gk238
  have ch := gb_CHs h4
  have dl : ∀ p, p < 5 → dk p < 10 := fun p hp => (hD p hp).1
  unfold lpX10_wrong_31
  refine gb_forF (fun i => (0, nI b, gwS gs ps dk c i, nI i, gb_mk I (gjw J gs ps dk c i))) 32 (by decide) ?_ ?_
  · intro i hi q
    obtain ⟨c1, c2⟩ := hc i hi
    obtain ⟨q1, q2, q3, q4, q5, q6⟩ := gcB hgs g3 hw hd dl i
    have ck' : gCK (I (42 + 23 * b) 5) (gjw J gs ps dk c i (42 + 23 * b) 4) (gjw J gs ps dk c i (43 + 23 * b)) (gjw J gs ps dk c i (44 + 23 * b)) (gjw J gs ps dk c i (45 + 23 * b)) (gjw J gs ps dk c i (46 + 23 * b)) gs ps := by
      rw [gjw_ne (by omega), gjw_ne (by omega), gjw_ne (by omega), gjw_ne (by omega), gjw_ne (by omega)]
      exact ck
    have run := x_clicksOf (I := I) (J := gjw J gs ps dk c i) hD hi h4 hgs g3 hw hd ck'
    show fbX10_wrong_31 (fun v0 v1 v3 v4 h => q (v0, v1, v3, v4, h)) 0 (nI b) (gwS gs ps dk c i) (nI i) (gb_mk I (gjw J gs ps dk c i)) = q (0, nI b, gwS gs ps dk c i + (if gcU gs ps dk i = 0 ∧ gcV gs ps dk i = 0 then nI (c i) else 0), nI (i + 1), gb_mk I (if 0 < c i then gsh (gjw J gs ps dk c i) 238 (gcU gs ps dk i) (gcV gs ps dk i) (gb_Wd gs ps * 100000) else gjw J gs ps dk c i))
    unfold fbX10_wrong_31 fbX10_wrong_95 fbX10_wrong_97
    rw [if_neg (show ¬ (32 : Int32) ≤ nI i from nI_ge (b := 32) hi (by omega)), gk0, gb_gd_t, gr0_5, gb_rd_s, gk126, gb_gd_t, gr126_4, gb_rd_s, gk130, gb_gd_t, gi130 hi, gb_gd_t, gb_I_mk, nI_clamp (by omega), c2]
    by_cases z : 0 < c i
    · rw [if_neg (show ¬ nI (c i) ≤ 0 from nI_ge (a := 0) z (by omega)), if_pos z, gb_gd_t, gr0_4, gb_rd_s, gk23, gb_gd_t, gi23 h4, gb_gd_t, nI_clamp (by omega), gx_ch h4, gb_rd_s, gb_gd_t, gr0_12, gb_rd_s, gb_gd_t, gr0_10, gb_rd_s, (ch _ _).1, gb_gd_t, run, gb_bd_s, gk0, gb_gd_t, gr0_10, gb_rd_s, k238, gb_gd_t, x_isZ k238 q1 (by omega) (by omega), gb_bd_s]
      by_cases y : gcU gs ps dk i = 0 ∧ gcV gs ps dk i = 0
      · rw [if_pos y, if_neg gb_n10, gk0, gb_gd_t, gr0_5, gb_rd_s, gk126, gb_gd_t, gr126_4, gb_rd_s, gk130, gb_gd_t, gi130 hi, gb_gd_t, gb_lt_d, gb_lt_d, gb_I_mk, c2, nI_1, if_pos y]
      · rw [if_neg y, if_pos (show (0 : Int32) = 0 from rfl), gb_lt_d, gb_lt_d, nI_1, if_neg y]
    · have z0 : c i = 0 := by omega
      rw [if_pos (show nI (c i) ≤ 0 from nI_le (b := 0) (by omega) (by omega)), if_neg z, gb_lt_d, nI_1, z0, show nI 0 = 0 from rfl, ite_self, Int32.add_zero]
  · intro q
    simp only [fbX10_wrong_31]
    rw [if_pos (show (32 : Int32) ≤ nI 32 by decide)]
/-- how many runs of a bench with these clicks are known on a day -/
def gcn (S : gb_S) (b d t : Nat) : Nat := gb_nt (gb_pT b d t) S.2.2.2.2.2.2.2.1 S.2.2.2.2.2.2.2.1.length
def gca (S : gb_S) (b d : Nat) : Nat := gb_nt (gb_pA b d) S.2.2.2.2.2.2.2.1 S.2.2.2.2.2.2.2.1.length
def a_wrong (b d : Int32) (S : gb_S) : Int32 × gb_S :=
  (if gb_rg b 4 = true ∧ gb_rg d 1000 = true ∧ gb_dpt S.1.length (S.2.2.2.2.1 b.toNatClampNeg) ≤ 300000 then gwS S.1 (S.2.2.2.2.1 b.toNatClampNeg) S.2.2.2.2.2.2.1 (gcn S b.toNatClampNeg d.toNatClampNeg) 32 else -1, S)
theorem X_wrong (h : RX gCK S I J) (hB : ∀ b, b < 4 → gb_wl 0 0 (S.2.2.2.2.1 b)) (b d : Int32) : xok gCK (fnX10_wrong 0 b d) I J (a_wrong b d S) := by
  have g3 := h.1.1
  have hgs := h.1.2.1
  have bad : ∀ (I' : gb_FI) (J' : gb_FJ), RX gCK S I' J' → gb_fx I I' J J' → ∃ I2 J2, fbX10_wrong_15 (gb_mk I' J') = some ((-1 : Int32), gb_mk I2 J2) ∧ RX gCK S I2 J2 ∧ gb_fx I I2 J J2 := fun I' J' f f' => ⟨I', J', rfl, f, f'⟩
  unfold a_wrong xok fnX10_wrong
  rw [x_isDay, gb_bd_s]
  by_cases h3 : gb_rg d 1000 = true
  · rw [if_pos h3, if_neg gb_n10, gk0, gb_gd_t]
    obtain ⟨d', hd, _, rfl⟩ := gb_rgT h3
    by_cases h2 : gb_rg b 4 = true
    · obtain ⟨b', hb, _, rfl⟩ := gb_rgT h2
      obtain ⟨I2, J2, s1, s2, s3, s4, s5⟩ := x_isTold h hb (hB b' hb)
      rw [s1, gb_bd_s, nI_clamp (by omega), nI_clamp (by omega)]
      by_cases dd : gb_dpt S.1.length (S.2.2.2.2.1 b') ≤ 300000
      · have xr := s2.2.2.2.2.2.2.2.1
        have ck := s2.ck hb s4
        have l2 := xr.1
        rw [if_pos dd, if_neg gb_n10, if_pos ⟨h2, h3, dd⟩, gk0, gb_gd_t, gr0_5, gb_rd_s, gk126, gb_gd_t, x_tally xr hb hd, gb_bd_s]
        rw [x_wr31 (gs := S.1) (ps := S.2.2.2.2.1 b') (dk := S.2.2.2.2.2.2.1) (c := gcn S b' d') (by rw [gb_tw_ne (by decide) (by decide)]; exact s2.2.2.2.2.2.2.1) hb hgs g3 (hB b' hb) dd (by rw [gb_tw_ne (by omega) (by omega)]; exact ck) (fun t ht => ⟨Nat.le_trans gb_nt_le' l2, gb_tw_t ht⟩)]
        exact ⟨_, _, rfl, s2.ty.jn (fun n hn => gjw_ne hn _), fun n hn => ⟨(gb_tw_ne (by omega) (by omega)).trans (s3 n hn).1, (gjw_ne (by omega) _).trans (s3 n hn).2⟩⟩
      · rw [if_neg dd, if_pos (show (0 : Int32) = 0 from rfl), if_neg (fun z => dd z.2.2)]
        exact bad I2 J2 s2 s3
    · rw [if_neg (fun z => h2 z.1)]
      unfold fnX10_isTold
      rw [x_isBench, gb_bd_s, if_neg h2, if_pos (show (0 : Int32) = 0 from rfl), gb_bd_s, if_pos (show (0 : Int32) = 0 from rfl)]
      exact bad I J h gb_fx.r
  · rw [if_neg h3, if_pos (show (0 : Int32) = 0 from rfl), if_neg (fun z => h3 z.2.1)]
    exact bad I J h gb_fx.r
/-- only the odds of clicks have moved -/
def gm_fK (J J' : gb_FJ) : Prop := ∀ x k, ¬ (x = 241 ∧ (k = 34 ∨ k = 35 ∨ k = 36)) → J' x k = J x k
theorem m_wr35 (hD : xD (I 260) dk) (hR : xR (I 241 37) (I 261) (I 262) (I 263) rs) (hb : b < 4) (hd : d < 1000) (hgs : ∀ m ∈ gs, m < 10) (g3 : gs.length ≤ 3) (hw : gb_wl 0 0 ps) (hdp : gb_dpt gs.length ps ≤ 300000) :
    ∀ m i F (J1 : gb_FJ), i + m = 32 → m < F → gm_told J1 gs ps → gm_fK J J1 → ∃ J2, lpX11_wrong_35 F 241 (nI b) (nI d) (gwS gs ps dk (fun t => gb_nt (gb_pT b d t) rs rs.length) i) (nI i) (gb_mk I J1) = some (gwS gs ps dk (fun t => gb_nt (gb_pT b d t) rs rs.length) 32, gb_mk I J2) ∧ gm_fK J J2 := by
  have dl : ∀ p, p < 5 → dk p < 10 := fun p hp => (hD p hp).1
  intro m
  induction m with
  | zero =>
    intro i F J1 hi hF ht hf
    obtain ⟨F, rfl⟩ : ∃ f, F = f + 1 := ⟨F - 1, by omega⟩
    refine ⟨J1, ?_, hf⟩
    rw [show ∀ v, lpX11_wrong_35 (F + 1) 241 (nI b) (nI d) v (nI i) (gb_mk I J1) = fbX11_wrong_35 (fun v0 v1 v2 v3 v4 h => lpX11_wrong_35 F v0 v1 v2 v3 v4 h) 241 (nI b) (nI d) v (nI i) (gb_mk I J1) from fun _ => rfl]
    unfold fbX11_wrong_35
    rw [if_pos (show (32 : Int32) ≤ nI i from nI_le (a := 32) (by omega) (by omega)), show i = 32 by omega]
  | succ m ih =>
    intro i F J1 hi hF ht hf
    obtain ⟨F, rfl⟩ : ∃ f, F = f + 1 := ⟨F - 1, by omega⟩
    obtain ⟨J2, t1, t2, t3, t4, t5, t6⟩ := m_clicksOf (I := I) (J := J1) hD (show i < 32 by omega) ht
    obtain ⟨q1, q2, q3, q4, q5, q6⟩ := gcB hgs g3 hw hdp dl i
    have f2 : gm_fK J J2 := fun x k hx => (t5 x k hx).trans (hf x k hx)
    have go := ih (i + 1) F J2 (by omega) (by omega) t6 f2
    have z1 : iL (gcU gs ps dk i) = 0 ↔ gcU gs ps dk i = 0 := by rw [show (0 : Int64) = iL 0 from rfl]; exact iL_eq (by omega) (by decide)
    have z2 : iL (gcV gs ps dk i) = 0 ↔ gcV gs ps dk i = 0 := by rw [show (0 : Int64) = iL 0 from rfl]; exact iL_eq (by omega) (by decide)
    rw [show ∀ v, lpX11_wrong_35 (F + 1) 241 (nI b) (nI d) v (nI i) (gb_mk I J1) = fbX11_wrong_35 (fun v0 v1 v2 v3 v4 h => lpX11_wrong_35 F v0 v1 v2 v3 v4 h) 241 (nI b) (nI d) v (nI i) (gb_mk I J1) from fun _ => rfl]
    unfold fbX11_wrong_35 fbX11_wrong_77
    rw [if_neg (show ¬ (32 : Int32) ≤ nI i from nI_ge (b := 32) (by omega) (by omega)), gk241, gb_gd_t, t1, gb_bd_s, gk241, gb_gd_t, gb_gd_t, gb_gd_t, gb_L_mk, t2, t3]
    rw [show gwS gs ps dk (fun t => gb_nt (gb_pT b d t) rs rs.length) (i + 1) = gwS gs ps dk (fun t => gb_nt (gb_pT b d t) rs rs.length) i + (if gcU gs ps dk i = 0 ∧ gcV gs ps dk i = 0 then nI (gb_nt (gb_pT b d i) rs rs.length) else 0) from rfl] at go
    by_cases y1 : gcU gs ps dk i = 0
    · rw [if_pos (z1.mpr y1)]
      by_cases y2 : gcV gs ps dk i = 0
      · rw [if_pos ⟨y1, y2⟩] at go
        rw [if_pos (z2.mpr y2), m_cnt hR hb hd (Or.inr ⟨i, by omega, rfl, rfl⟩), gb_bd_s, gb_lt_d, gb_lt_d, nI_1]
        exact go
      · rw [if_neg (fun z => y2 z.2), Int32.add_zero] at go
        rw [if_neg (fun z => y2 (z2.mp z)), gb_lt_d, nI_1]
        exact go
    · rw [if_neg (fun z => y1 z.1), Int32.add_zero] at go
      rw [if_neg (fun z => y1 (z1.mp z)), gb_lt_d, nI_1]
      exact go
theorem M_wrong (h : RM S I J) (hgs : ∀ m ∈ S.1, m < 10) (g3 : S.1.length ≤ 3) (hB : ∀ b, b < 4 → (S.2.2.2.2.1 b).length ≤ 16 ∧ gb_wl 0 0 (S.2.2.2.2.1 b)) (b d : Int32) : mok (fnX11_wrong 241 b d) I J (a_wrong b d S) := by
  have hD := h.2.2.2.2.2.2.1
  have hR := h.2.2.2.2.2.2.2.1
  have bad : ∀ (I' : gb_FI) (J' : gb_FJ), gm_fL I I' J J' → ∃ I2 J2, fbX11_wrong_28 (gb_mk I' J') = some ((-1 : Int32), gb_mk I2 J2) ∧ RM S I2 J2 ∧ gb_fm I I2 J J2 := fun I' J' f => ⟨I', J', rfl, h.fL f, f.fm⟩
  unfold a_wrong mok fnX11_wrong
  rw [m_inR b 3 (by decide) _ (show (3 : Int32) = nI 3 from rfl), gb_bd_s]
  by_cases h2 : gb_rg b 4 = true
  · rw [if_pos (show gb_rg b (3 + 1) = true from h2), if_neg gb_n10, m_inR d 999 (by decide) _ (show (999 : Int32) = nI 999 from rfl), gb_bd_s]
    by_cases h3 : gb_rg d 1000 = true
    · rw [if_pos (show gb_rg d (999 + 1) = true from h3), if_neg gb_n10]
      obtain ⟨b', hb, _, rfl⟩ := gb_rgT h2
      obtain ⟨d', hd, _, rfl⟩ := gb_rgT h3
      obtain ⟨I2, J2, s1, s2, s3⟩ := m_laysBench h hgs g3 hb (hB b' hb).1 (hB b' hb).2
      rw [gk241, gb_gd_t, s1, gb_bd_s, nI_clamp (by omega), nI_clamp (by omega)]
      have k : ∀ x, x ≠ 241 → x ≠ 259 → I2 x = I x := fun x h1 h2 => funext (fun k => s2.1 x k (fun z => h1 z.1) h2)
      by_cases dd : gb_dpt S.1.length (S.2.2.2.2.1 b') ≤ 300000
      · obtain ⟨J3, t1, t2⟩ := m_wr35 (I := I2) (J := J2) (dk := S.2.2.2.2.2.2.1) (rs := S.2.2.2.2.2.2.2.1) (by rw [k 260 (by decide) (by decide)]; exact hD) (by rw [s2.1 241 37 (by decide) (by decide), k 261 (by decide) (by decide), k 262 (by decide) (by decide), k 263 (by decide) (by decide)]; exact hR) hb hd hgs g3 (hB b' hb).2 dd 32 0 gb_FU J2 (by decide) (by decide) (s3 dd) (fun _ _ _ => rfl)
        rw [if_pos dd, if_neg gb_n10, if_pos ⟨h2, h3, dd⟩]
        refine ⟨I2, J3, t1, (h.fL s2).jk (fun j j1 j2 => t2 241 j (fun z => by omega)), fun n hn => ⟨(s2.fm n hn).1, (funext (fun k => t2 n k (fun z => by omega))).trans (s2.fm n hn).2⟩⟩
      · rw [if_neg dd, if_pos (show (0 : Int32) = 0 from rfl), if_neg (fun z => dd z.2.2)]
        exact bad I2 J2 s2
    · rw [if_neg (show ¬ gb_rg d (999 + 1) = true from h3), if_pos (show (0 : Int32) = 0 from rfl), if_neg (fun z => h3 z.2.1)]
      exact bad I J gm_fL.rf
  · rw [if_neg (show ¬ gb_rg b (3 + 1) = true from h2), if_pos (show (0 : Int32) = 0 from rfl), if_neg (fun z => h2 z.1)]
    exact bad I J gm_fL.rf
end WRONG
