section MLOOKS
variable {S : gb_S} {I I' I1 I2 : gb_FI} {J J' J1 J2 : gb_FJ} {gs : List Nat} {sh : List gb_P} {ps qs : List gb_P} {pl n g k m : Nat} {r b : List Nat}
/-- only what the reference's plan needs has moved -/
def gm_fP (I I' : gb_FI) (J J' : gb_FJ) : Prop := (∀ x k, ¬ (x = 241 ∧ (k = 23 ∨ k = 24 ∨ k = 25 ∨ k = 47)) → x ≠ 259 → x ≠ 264 → x ≠ 265 → x ≠ 266 → I' x k = I x k) ∧ ∀ x k, (x < 251 ∨ 258 < x) → ¬ (x = 241 ∧ (k = 30 ∨ k = 48 ∨ k = 49 ∨ k = 50 ∨ k = 55 ∨ k = 56)) → J' x k = J x k
theorem gm_fP.rf : gm_fP I I J J := ⟨fun _ _ _ _ _ _ _ => rfl, fun _ _ _ _ => rfl⟩
theorem gm_fP.t (x : gm_fP I I1 J J1) (y : gm_fP I1 I2 J1 J2) : gm_fP I I2 J J2 := ⟨fun n k h1 h2 h3 h4 h5 => (y.1 n k h1 h2 h3 h4 h5).trans (x.1 n k h1 h2 h3 h4 h5), fun n k h1 h2 => (y.2 n k h1 h2).trans (x.2 n k h1 h2)⟩
theorem gm_fL.fP (f : gm_fL I I' J J') : gm_fP I I' J J' := ⟨fun x k h1 h2 _ _ _ => f.1 x k (fun z => h1 ⟨z.1, by omega⟩) h2, fun x k h1 h2 => f.2 x k h1 (fun z => h2 ⟨z.1, Or.inl z.2⟩)⟩
theorem RM.fP (h : RM S I J) (f : gm_fP I I' J J') : RM S I' J' := by
  obtain ⟨f1, f2⟩ := f
  have k : ∀ x, x ≠ 241 → x ≠ 259 → x ≠ 264 → x ≠ 265 → x ≠ 266 → I' x = I x := fun x h1 h2 h3 h4 h5 => funext (fun k => f1 x k (fun z => h1 z.1) h2 h3 h4 h5)
  have k1 : ∀ j, j ≠ 23 → j ≠ 24 → j ≠ 25 → j ≠ 47 → I' 241 j = I 241 j := fun j a b c d => f1 241 j (fun z => by omega) (by decide) (by decide) (by decide) (by decide)
  obtain ⟨h1, h2, h3, h4, h5, h6, h7, h8, h9⟩ := h
  refine ⟨?_, ?_, ?_, ?_, ?_, ?_, ?_, ?_, ?_⟩
  · rw [k1 1 (by decide) (by decide) (by decide) (by decide), k 242 (by decide) (by decide) (by decide) (by decide) (by decide)]; exact h1
  · rw [k1 0 (by decide) (by decide) (by decide) (by decide)]; exact h2
  · rw [k1 14 (by decide) (by decide) (by decide) (by decide), k 248 (by decide) (by decide) (by decide) (by decide) (by decide)]; exact h3
  · rw [k1 18 (by decide) (by decide) (by decide) (by decide)]; exact h4
  · rw [k 244 (by decide) (by decide) (by decide) (by decide) (by decide), k 243 (by decide) (by decide) (by decide) (by decide) (by decide)]; exact h5
  · rw [k1 6 (by decide) (by decide) (by decide) (by decide), k 245 (by decide) (by decide) (by decide) (by decide) (by decide)]; exact h6
  · rw [k 260 (by decide) (by decide) (by decide) (by decide) (by decide)]; exact h7
  · rw [k1 37 (by decide) (by decide) (by decide) (by decide), k 261 (by decide) (by decide) (by decide) (by decide) (by decide), k 262 (by decide) (by decide) (by decide) (by decide) (by decide), k 263 (by decide) (by decide) (by decide) (by decide) (by decide)]; exact h8
  · rw [k1 46 (by decide) (by decide) (by decide) (by decide), k 268 (by decide) (by decide) (by decide) (by decide) (by decide), k 267 (by decide) (by decide) (by decide) (by decide) (by decide)]
    unfold mL at h9 ⊢
    split
    · next e => rw [e] at h9; exact h9
    · next q e =>
      rw [e] at h9
      rw [f2 241 51 (by decide) (by decide), f2 241 52 (by decide) (by decide), f2 241 53 (by decide) (by decide)]
      exact h9
theorem gm_fP.fm (f : gm_fP I I' J J') : gb_fm I I' J J' := fun n hn => ⟨funext (fun k => f.1 n k (fun z => by omega) (by omega) (by omega) (by omega) (by omega)), funext (fun k => f.2 n k (by omega) (fun z => by omega))⟩
/-- a row's share, unreduced -/
def guP (gs : List Nat) (pl : Nat) (ps : List gb_P) : Int := pU gs.length ps (gb_k0 gs) (fun k => decide (gpk k = pl))
def gvP (gs : List Nat) (pl : Nat) (ps : List gb_P) : Int := pV gs.length ps (gb_k0 gs) (fun k => decide (gpk k = pl))
def gGP (gs : List Nat) (pl : Nat) (ps : List gb_P) : Nat := gb_g3 (guP gs pl ps) (gvP gs pl ps) (gWz gs ps)
theorem gdpt_z (h : zD g ps ≤ 300000) : gb_dpt g ps = zD g ps := by
  have := gb_dpt_D (g := g) (ps := ps)
  omega
theorem gWd_z (h : zD gs.length ps ≤ 300000) : gb_Wd gs ps = gWz gs ps := by
  unfold gb_Wd gWz
  rw [gdpt_z h]
/-- a told row: its numbers -/
theorem gtR (hgs : ∀ m ∈ gs, m < 10) (g3 : gs.length ≤ 3) (hw : gb_wl 0 0 ps) (hd : zD gs.length ps ≤ 300000) : 0 < gWz gs ps ∧ gWz gs ps ≤ 540000000000 ∧ 0 ≤ guP gs pl ps ∧ guP gs pl ps ≤ (gWz gs ps : Int) ∧ 1414 * gvP gs pl ps ≤ 1000 * guP gs pl ps ∧ -(1414 * gvP gs pl ps) ≤ 1000 * guP gs pl ps := by
  have h := gOD1 hgs g3 hw (by rw [gdpt_z hd]; exact hd) (fun k => decide (gpk k = pl))
  rw [gWd_z hd] at h
  exact h
theorem gCm_b : gCm g ≤ 384000000000000 := by
  unfold gCm
  split
  · decide
  · split <;> decide
/-- a share in lowest terms, brought to the common whole -/
theorem gcm_u {u v : Int} {W C : Nat} (w0 : 0 < W) (hC : W ∣ C) : ((C / (W / gb_g3 u v W) : Nat) : Int) * u.tdiv (gb_g3 u v W) = ((C / W : Nat) : Int) * u ∧ ((C / (W / gb_g3 u v W) : Nat) : Int) * v.tdiv (gb_g3 u v W) = ((C / W : Nat) : Int) * v := by
  obtain ⟨e1, e2, e3⟩ := gb_g3_e (u := u) (v := v) (w := W)
  have g0 := gb_g3_pos (u := u) (v := v) w0
  generalize gb_g3 u v W = G at *
  generalize u.tdiv G = u' at *
  generalize v.tdiv G = v' at *
  generalize W / G = w at *
  obtain ⟨j, hj⟩ := hC
  have w0' : 0 < w := Nat.pos_of_ne_zero (fun z => by rw [z, Nat.mul_zero] at e3; omega)
  have c1 : C / w = G * j := by rw [hj, e3, Nat.mul_comm G w, Nat.mul_assoc, Nat.mul_div_cancel_left _ w0']
  have c2 : C / W = j := by rw [hj, Nat.mul_div_cancel_left _ w0]
  rw [c1, c2, e1, e2, Int.natCast_mul]
  exact ⟨by rw [Int.mul_comm (G : Int) (j : Int), Int.mul_assoc], by rw [Int.mul_comm (G : Int) (j : Int), Int.mul_assoc]⟩
theorem gpq_s (a b c d : Int) (q p : Nat) : gpq q p (a - b) (c - d) = gpq q p a c - gpq q p b d := by
  unfold gpq
  rw [Int.mul_sub, Int.mul_sub]
  omega
/-- the difference of two values -/
theorem gdiff : gph (((gCm gs.length / gWz gs ps : Nat) : Int) * guP gs pl ps - ((gCm gs.length / gWz gs qs : Nat) : Int) * guP gs pl qs) (((gCm gs.length / gWz gs ps : Nat) : Int) * gvP gs pl ps - ((gCm gs.length / gWz gs qs : Nat) : Int) * gvP gs pl qs) = gvl gs pl ps - gvl gs pl qs := by
  unfold gph gvl
  rw [gpq_s, gpq_m, gpq_m]
  rfl
theorem gbd {C W : Nat} {u v : Int} (w0 : 0 < W) (hC : W ∣ C) (h1 : 0 ≤ u) (h2 : u ≤ W) (h3 : 1414 * v ≤ 1000 * u) (h4 : -(1414 * v) ≤ 1000 * u) : 0 ≤ ((C / W : Nat) : Int) * u ∧ ((C / W : Nat) : Int) * u ≤ C ∧ ((C / W : Nat) : Int) * v ≤ C ∧ -(((C / W : Nat) : Int) * v) ≤ C := by
  obtain ⟨j, hj⟩ := hC
  have c2 : C / W = j := by rw [hj, Nat.mul_div_cancel_left _ w0]
  have eC : (C : Int) = (j : Int) * W := by rw [hj, Int.natCast_mul, Int.mul_comm]
  rw [c2, eC]
  have j0 : (0 : Int) ≤ j := by omega
  refine ⟨Int.mul_nonneg j0 h1, Int.mul_le_mul_of_nonneg_left h2 j0, Int.mul_le_mul_of_nonneg_left (by omega) j0, ?_⟩
  rw [← Int.mul_neg]
  exact Int.mul_le_mul_of_nonneg_left (by omega) j0
/-- the best row so far, as the reference holds it -/
def gBst (gs : List Nat) (sh : List gb_P) (pl : Nat) (o : Option (List Nat)) (I : gb_FI) (J : gb_FJ) : Prop := match o with
  | none => I 241 47 = -1
  | some b => b.length ≤ 3 ∧ (∀ x ∈ b, x < sh.length) ∧ zD gs.length (gpt sh b) ≤ 300000 ∧ I 241 47 = nI b.length ∧ (∀ i j, b[i]? = some j → I 266 i = nI j) ∧ J 241 48 = iL ((guP gs pl (gpt sh b)).tdiv (gGP gs pl (gpt sh b))) ∧ J 241 49 = iL ((gvP gs pl (gpt sh b)).tdiv (gGP gs pl (gpt sh b))) ∧ J 241 50 = lN (gWz gs (gpt sh b) / gGP gs pl (gpt sh b))
def gstR (gs : List Nat) (sh : List gb_P) (pl : Nat) (o : Option (List Nat)) (r : List Nat) : Option (List Nat) := if gvd gs sh r = true then some (match o with | none => r | some b => stepR (gvr gs sh pl) b r) else o
theorem m_lk191 (hm : m ≤ 3) : ∀ k i F (I1 : gb_FI), i + k = m → k < F → (∀ x, x ≠ 266 → I1 x = I x) → (∀ j, j < i → I1 266 j = I 265 j) → ∃ I2, lpX11_looks_191 F 241 (nI m) (nI i) (gb_mk I1 J) = some ((), gb_mk I2 J) ∧ (∀ x, x ≠ 266 → I2 x = I x) ∧ ∀ j, j < m → I2 266 j = I 265 j := by
  intro k
  induction k with
  | zero =>
    intro i F I1 hi hF h1 h2
    obtain ⟨F, rfl⟩ : ∃ f, F = f + 1 := ⟨F - 1, by omega⟩
    refine ⟨I1, ?_, h1, fun j hj => h2 j (by omega)⟩
    rw [show lpX11_looks_191 (F + 1) 241 (nI m) (nI i) (gb_mk I1 J) = fbX11_looks_191 (fun v0 v1 v10 h => lpX11_looks_191 F v0 v1 v10 h) 241 (nI m) (nI i) (gb_mk I1 J) from rfl]
    unfold fbX11_looks_191
    rw [if_pos (nI_le (by omega) (by omega))]
  | succ k ih =>
    intro i F I1 hi hF h1 h2
    obtain ⟨F, rfl⟩ : ∃ f, F = f + 1 := ⟨F - 1, by omega⟩
    rw [show lpX11_looks_191 (F + 1) 241 (nI m) (nI i) (gb_mk I1 J) = fbX11_looks_191 (fun v0 v1 v10 h => lpX11_looks_191 F v0 v1 v10 h) 241 (nI m) (nI i) (gb_mk I1 J) from rfl]
    unfold fbX11_looks_191
    rw [if_neg (nI_ge (by omega) (by omega)), gk241, gb_gd_t, gr241_43, gb_rd_s, gb_gd_t, gr241_42, gb_rd_s, gk265, gb_gd_t, gi265 (by omega), gb_gd_t, gk266, gb_gd_t, gi266 (by omega), gb_gd_t, gb_lt_d, gb_sI_mk, gb_lt_d, nI_1, nI_clamp (by omega), gb_I_mk, h1 265 (by decide)]
    refine ih (i + 1) F _ (by omega) (by omega) (fun x hx => by rw [gb_u_row _ _ hx]; exact h1 x hx) (fun j hj => ?_)
    by_cases e : j = i
    · rw [e, gb_u_s]
    · rw [gb_u_nk _ _ e]; exact h2 j (by omega)
theorem m_looks (hgs : ∀ m ∈ gs, m < 10) (g3 : gs.length ≤ 3) (g1 : 1 ≤ gs.length) (hs : ∀ p ∈ sh, gso p) (hG : mG (I 241 1) (I 242) gs) (hp : ∀ i p, (gpt sh r)[i]? = some p → mP (I 264) (8 * i) p) (hc : ∀ i j, r[i]? = some j → I 265 i = nI j) (rl : r.length ≤ 3) (ri : ∀ x ∈ r, x < sh.length) (hpl : pl < 1024) (eC : J 241 54 = lN (gCm gs.length)) {o : Option (List Nat)} (hb : gBst gs sh pl o I J) :
    ∃ I2 J2, fnX11_looks 241 (nI r.length) (nI pl) (gb_mk I J) = some ((), gb_mk I2 J2) ∧ gm_fP I I2 J J2 ∧ I2 264 = I 264 ∧ I2 265 = I 265 ∧ gBst gs sh pl (gstR gs sh pl o r) I2 J2 := by
  have so := gpt_so hs ri
  have wl := gso_wl so
  have pL : (gpt sh r).length = r.length := by unfold gpt; rw [List.length_map]
  have dp := m_deepOf (I := I) (J := J) (o := 264) (a := 0) (g := gs.length) (room := 24) (ps := gpt sh r) (fun _ _ => gk264) (fun j hj => gi264 hj) (by decide) (by omega) g3 (fun i p h => ⟨gb_wl_mem wl p (List.mem_of_getElem? h), by rw [Nat.zero_add]; exact hp i p h⟩)
  have dle : gb_dpt gs.length (gpt sh r) ≤ 300001 := (gb_dq_b (g := gs.length) (ps := gpt sh r) (gpt sh r).length).2
  have dD := gb_dpt_D (g := gs.length) (ps := gpt sh r)
  rw [pL] at dp
  unfold fnX11_looks
  rw [gk241, gb_gd_t, gr241_41, gb_rd_s, gb_gd_t, gb_I_mk, hG.1, show (0 : Int32) = nI 0 from rfl, dp, gb_bd_s]
  unfold gstR
  by_cases d : zD gs.length (gpt sh r) ≤ 300000
  · have dz := gdpt_z d
    have vd : gvd gs sh r = true := decide_eq_true d
    obtain ⟨I2, J2, s1, s2, s3, s4⟩ := m_lays (I := I) (J := J) (o := 264) (a := 0) (room := 24) (ps := gpt sh r) (gs := gs) (D := gb_dpt gs.length (gpt sh r)) (fun _ _ => gk264) (fun j hj _ _ => gi264 hj) (by decide) (by decide) (by omega) (fun i p h => by rw [Nat.zero_add]; exact hp i p h) (gb_wl_wp wl) hgs g3 hG (by omega)
    rw [pL] at s1
    obtain ⟨t1, t2⟩ := s4 pl hpl
    obtain ⟨q1, q2, q3, q4, q5, q6⟩ := gtR (pl := pl) hgs g3 wl d
    have hW := gWdvd hgs g3 g1 (by omega) d
    rw [show gb_dpt gs.length (gpt sh r) * gb_dpt gs.length (gpt sh r) * gb_od (gb_k0 gs) = gWz gs (gpt sh r) by rw [dz]; rfl] at s3
    have T : ∀ c h, fnX11_tells (iL (guP gs pl (gpt sh r))) (iL (gvP gs pl (gpt sh r))) (lN (gWz gs (gpt sh r))) c h = some (gb_tl (guP gs pl (gpt sh r)) (gvP gs pl (gpt sh r)) (gWz gs (gpt sh r)) c, h) := fun c h => m_tells (by omega) (by omega) (by omega) q1 c h
    have t1' : J2 256 pl = iL (guP gs pl (gpt sh r)) := t1
    have t2' : J2 257 pl = iL (gvP gs pl (gpt sh r)) := t2
    have k264 : I2 264 = I 264 := funext (fun k => s2.1 264 k (fun z => by omega) (by decide))
    have k265 : I2 265 = I 265 := funext (fun k => s2.1 265 k (fun z => by omega) (by decide))
    have k266 : I2 266 = I 266 := funext (fun k => s2.1 266 k (fun z => by omega) (by decide))
    have k47 : I2 241 47 = I 241 47 := s2.1 241 47 (by decide) (by decide)
    have j54 : J2 241 54 = lN (gCm gs.length) := by rw [s2.2 241 54 (by decide) (by decide)]; exact eC
    have c0 : (nI pl).toNatClampNeg = pl := nI_clamp (by omega)
    generalize hu : guP gs pl (gpt sh r) = u at *
    generalize hv : gvP gs pl (gpt sh r) = v at *
    generalize hW' : gWz gs (gpt sh r) = W at *
    have g0 := gb_g3_pos (u := u) (v := v) q1
    have gl := gb_g3_le (u := u) (v := v) q1
    have eG : gGP gs pl (gpt sh r) = gb_g3 u v W := by unfold gGP; rw [hu, hv, hW']
    -- the new best row is kept
    have take : ∀ (I3 : gb_FI) (J3 : gb_FJ), gm_fP I I3 J J3 → I3 264 = I 264 → I3 265 = I 265 → ∃ I4 J4, fbX11_looks_165 241 (nI r.length) (iL (u.tdiv (gb_g3 u v W))) (iL (v.tdiv (gb_g3 u v W))) (lN (W / gb_g3 u v W)) (gb_mk I3 J3) = some ((), gb_mk I4 J4) ∧ gm_fP I I4 J J4 ∧ I4 264 = I 264 ∧ I4 265 = I 265 ∧ gBst gs sh pl (some r) I4 J4 := fun I3 J3 f e64 e65 => by
      obtain ⟨I4, w1, w2, w3⟩ := m_lk191 (I := gb_u I3 241 47 (nI r.length)) (J := gb_u (gb_u (gb_u J3 241 48 (iL (u.tdiv (gb_g3 u v W)))) 241 49 (iL (v.tdiv (gb_g3 u v W)))) 241 50 (lN (W / gb_g3 u v W))) rl r.length 0 gb_FU (gb_u I3 241 47 (nI r.length)) (by omega) (show r.length < 1000000 by omega) (fun _ _ => rfl) (fun j hj => absurd hj (by omega))
      refine ⟨I4, gb_u (gb_u (gb_u J3 241 48 (iL (u.tdiv (gb_g3 u v W)))) 241 49 (iL (v.tdiv (gb_g3 u v W)))) 241 50 (lN (W / gb_g3 u v W)), ?_, ⟨fun x k h1 h2 h3 h4 h5 => ?_, fun x k h1 h2 => ?_⟩, ?_, ?_, ?_⟩
      · unfold fbX11_looks_165
        rw [gk241, gb_gd_t, gb_lt_d, gb_sI_mk, gk241, gb_gd_t, gb_lt_d, gb_sL_mk, gk241, gb_gd_t, gb_lt_d, gb_sL_mk, gk241, gb_gd_t, gb_lt_d, gb_sL_mk, show (0 : Int32) = nI 0 from rfl]
        exact w1
      · rw [w2 x h5, gb_u1, if_neg (fun z => h1 ⟨z.1, by omega⟩)]
        exact f.1 x k h1 h2 h3 h4 h5
      · rw [gb_u1, if_neg (fun z => h2 ⟨z.1, by omega⟩), gb_u1, if_neg (fun z => h2 ⟨z.1, by omega⟩), gb_u1, if_neg (fun z => h2 ⟨z.1, by omega⟩)]
        exact f.2 x k h1 h2
      · rw [w2 264 (by decide), gb_u_row _ _ (by decide)]; exact e64
      · rw [w2 265 (by decide), gb_u_row _ _ (by decide)]; exact e65
      · refine ⟨rl, ri, d, ?_, fun i j hj => ?_, ?_, ?_, ?_⟩
        · rw [w2 241 (by decide), gb_u_s]
        · rw [w3 i (List.getElem?_eq_some_iff.mp hj).1, gb_u_row _ _ (by decide), e65]
          exact hc i j hj
        · rw [hu, eG, gb_u_nk _ _ (by decide), gb_u_nk _ _ (by decide), gb_u_s]
        · rw [hv, eG, gb_u_nk _ _ (by decide), gb_u_s]
        · rw [hW', eG, gb_u_s]
    rw [if_pos (show nI (gb_dpt gs.length (gpt sh r)) ≤ 300000 from nI_le (b := 300000) (by omega) (by omega)), if_pos vd, gk241, gb_gd_t, gr241_41, gb_rd_s, gb_gd_t, s1, gb_bd_s]
    rw [gk241, gb_gd_t, gr241_28, gb_rd_s, gk256, gb_gd_t, gi256 hpl, gb_gd_t, gb_gd_t, gr241_29, gb_rd_s, gk257, gb_gd_t, gi257 hpl, gb_gd_t, gb_gd_t, gb_L_mk, c0, t1', t2', s3, show (nI 0 : Int32) = 0 from rfl, T, gb_bd_s]
    rw [gk241, gb_gd_t, gr241_28, gb_rd_s, gk256, gb_gd_t, gi256 hpl, gb_gd_t, gb_gd_t, gr241_29, gb_rd_s, gk257, gb_gd_t, gi257 hpl, gb_gd_t, gb_gd_t, gb_L_mk, t1', t2', s3, T, gb_bd_s]
    rw [gk241, gb_gd_t, gr241_28, gb_rd_s, gk256, gb_gd_t, gi256 hpl, gb_gd_t, gb_gd_t, gr241_29, gb_rd_s, gk257, gb_gd_t, gi257 hpl, gb_gd_t, gb_gd_t, gb_L_mk, t1', t2', s3, T, gb_bd_s]
    rw [gk241, gb_gd_t, gb_I_mk, k47, show gb_tl u v W 0 = iL (u.tdiv (gb_g3 u v W)) from rfl, show gb_tl u v W 1 = iL (v.tdiv (gb_g3 u v W)) from rfl, show gb_tl u v W 2 = lN (W / gb_g3 u v W) from rfl]
    cases o with
    | none =>
      rw [if_pos (show I 241 47 = -1 from hb)]
      exact take I2 J2 s2.fP k264 k265
    | some b =>
      obtain ⟨b1, b2, b3, b4, b5, b6, b7, b8⟩ := hb
      have keep : ∀ J3, gm_fS J2 J3 → gBst gs sh pl (some b) I2 J3 := fun J3 f => by
        refine ⟨b1, b2, b3, k47.trans b4, fun i j hj => by rw [k266]; exact b5 i j hj, ?_, ?_, ?_⟩
        · rw [f 241 48 (by decide), s2.2 241 48 (by decide) (by decide)]; exact b6
        · rw [f 241 49 (by decide), s2.2 241 49 (by decide) (by decide)]; exact b7
        · rw [f 241 50 (by decide), s2.2 241 50 (by decide) (by decide)]; exact b8
      have bwl := gso_wl (gpt_so hs b2)
      obtain ⟨p1, p2, p3, p4, p5, p6⟩ := gtR (pl := pl) hgs g3 bwl b3
      have hWb := gWdvd hgs g3 g1 (show (gpt sh b).length ≤ 3 by unfold gpt; rw [List.length_map]; exact b1) b3
      have df := gdiff (gs := gs) (ps := gpt sh r) (qs := gpt sh b) (pl := pl)
      rw [hu, hv, hW'] at df
      have j48 : J2 241 48 = _ := (s2.2 241 48 (by decide) (by decide)).trans b6
      have j49 : J2 241 49 = _ := (s2.2 241 49 (by decide) (by decide)).trans b7
      have j50 : J2 241 50 = _ := (s2.2 241 50 (by decide) (by decide)).trans b8
      have eGb : gGP gs pl (gpt sh b) = gb_g3 (guP gs pl (gpt sh b)) (gvP gs pl (gpt sh b)) (gWz gs (gpt sh b)) := rfl
      rw [eGb] at j48 j49 j50
      generalize guP gs pl (gpt sh b) = u' at *
      generalize gvP gs pl (gpt sh b) = v' at *
      generalize gWz gs (gpt sh b) = W' at *
      have g0' := gb_g3_pos (u := u') (v := v') p1
      have gl' := gb_g3_le (u := u') (v := v') p1
      have Cb := gCm_b (g := gs.length)
      obtain ⟨x1, x2⟩ := gcm_u (u := u) (v := v) q1 hW
      obtain ⟨y1, y2⟩ := gcm_u (u := u') (v := v') p1 hWb
      have wr : 0 < W / gb_g3 u v W := Nat.div_pos gl g0
      have wr' : 0 < W' / gb_g3 u' v' W' := Nat.div_pos gl' g0'
      have wl1 : W / gb_g3 u v W ≤ W := Nat.div_le_self _ _
      have wl2 : W' / gb_g3 u' v' W' ≤ W' := Nat.div_le_self _ _
      have nz1 : gb_nzL (lN (W / gb_g3 u v W)) = true := gb_nzL_of (fun q => by have := (gL_eq0 (by omega)).mp q; omega)
      have nz2 : gb_nzL (lN (W' / gb_g3 u' v' W')) = true := gb_nzL_of (fun q => by have := (gL_eq0 (by omega)).mp q; omega)
      have sb : ∀ x y : Int, iL x - iL y = iL (x - y) := fun x y => by rw [Int64.sub_eq_add_neg, iL_neg, iL_add, Int.sub_eq_add_neg]
      obtain ⟨z1, z2, z3, z4⟩ := gbd q1 hW q3 q4 q5 q6
      obtain ⟨z5, z6, z7, z8⟩ := gbd p1 hWb p3 p4 p5 p6
      have ex : iL (u.tdiv (gb_g3 u v W)) * (lN (gCm gs.length) / lN (W / gb_g3 u v W)) - iL (u'.tdiv (gb_g3 u' v' W')) * (lN (gCm gs.length) / lN (W' / gb_g3 u' v' W')) = iL (((gCm gs.length / W : Nat) : Int) * u - ((gCm gs.length / W' : Nat) : Int) * u') := by
        rw [gL_div (by omega) (by omega), gL_div (by omega) (by omega), lN_iL, lN_iL, iL_mul, iL_mul, sb, Int.mul_comm (u.tdiv _), x1, Int.mul_comm (u'.tdiv _), y1]
      have ey : iL (v.tdiv (gb_g3 u v W)) * (lN (gCm gs.length) / lN (W / gb_g3 u v W)) - iL (v'.tdiv (gb_g3 u' v' W')) * (lN (gCm gs.length) / lN (W' / gb_g3 u' v' W')) = iL (((gCm gs.length / W : Nat) : Int) * v - ((gCm gs.length / W' : Nat) : Int) * v') := by
        rw [gL_div (by omega) (by omega), gL_div (by omega) (by omega), lN_iL, lN_iL, iL_mul, iL_mul, sb, Int.mul_comm (v.tdiv _), x2, Int.mul_comm (v'.tdiv _), y2]
      obtain ⟨J3, a1, a2⟩ := m_isAbove (I := I2) (J := J2) (x := ((gCm gs.length / W : Nat) : Int) * u - ((gCm gs.length / W' : Nat) : Int) * u') (y := ((gCm gs.length / W : Nat) : Int) * v - ((gCm gs.length / W' : Nat) : Int) * v') (by omega) (by omega)
      have f3 : gm_fP I I2 J J3 := ⟨s2.fP.1, fun x k h1 h2 => (a2 x k (fun z => h2 ⟨z.1, by omega⟩)).trans (s2.fP.2 x k h1 h2)⟩
      rw [if_neg (show ¬ I 241 47 = -1 by rw [b4]; exact gb_nm1 _ (by omega)), gb_gd_t, nz1, gb_gd_t, gb_gd_t, gb_gd_t, gb_gd_t, gb_lt_d, gb_L_mk, j50, nz2, gb_gd_t, gb_gd_t, gb_gd_t, gb_gd_t, gb_gd_t, gb_gd_t, gb_lt_d, nz2, gb_gd_t, gb_gd_t, j54, j48, j49, ex, ey, a1, gb_bd_s, df]
      show ∃ I2 J2, _ ∧ _ ∧ _ ∧ _ ∧ gBst gs sh pl (some (if gvr gs sh pl b < gvr gs sh pl r then r else b)) I2 J2
      by_cases y : 0 < gvl gs pl (gpt sh r) - gvl gs pl (gpt sh b)
      · rw [if_pos y, if_neg gb_n10, if_pos (show gvr gs sh pl b < gvr gs sh pl r by unfold gvr; omega)]
        exact take I2 J3 f3 k264 k265
      · rw [if_neg y, if_pos (show (0 : Int32) = 0 from rfl), if_neg (show ¬ gvr gs sh pl b < gvr gs sh pl r by unfold gvr; omega)]
        exact ⟨I2, J3, rfl, f3, k264, k265, keep J3 a2⟩
  · have vd : ¬ gvd gs sh r = true := fun q => d (of_decide_eq_true q)
    rw [if_neg (show ¬ nI (gb_dpt gs.length (gpt sh r)) ≤ 300000 from nI_ge (a := 300000) (by omega) (by omega)), if_neg vd]
    exact ⟨I, J, rfl, gm_fP.rf, rfl, rfl, hb⟩
end MLOOKS
