section LAYS2
variable {S : gb_S} {I I' I1 I2 : gb_FI} {J J' J1 J2 : gb_FJ} {g w i j x r m f k : Nat} {gs : List Nat} {ps : List gb_P} {o a room : Nat}
/-- the place of a product's counts -/
def gpk (k : Nat) : Nat := gb_gi k 1 + 4 * (gb_gi k 2 + 4 * (gb_gi k 3 + 4 * (gb_gi k 4 + 4 * gb_gi k 5)))
theorem gpk_w (g3 : g ≤ 3) : gplN g w 5 = gpk (gw_k g w) := by
  show 4 * (4 * (4 * (4 * (4 * 0 + gw_in g w 4 g) + gw_in g w 3 g) + gw_in g w 2 g) + gw_in g w 1 g) + gw_in g w 0 g = _
  unfold gpk
  rw [show gb_gi (gw_k g w) 1 = _ from gw_gi (x := 0) g3 (by decide), show gb_gi (gw_k g w) 2 = _ from gw_gi (x := 1) g3 (by decide), show gb_gi (gw_k g w) 3 = _ from gw_gi (x := 2) g3 (by decide), show gb_gi (gw_k g w) 4 = _ from gw_gi (x := 3) g3 (by decide), show gb_gi (gw_k g w) 5 = _ from gw_gi (x := 4) g3 (by decide)]
  omega
theorem gtU_p {k0 : Nat} (g3 : g ≤ 3) : gS (16 ^ g) (gtU g (fun w => zL (zN ps k0 (gw_k g w))) r) = iL (pU g ps k0 (fun k => decide (gpk k = r))) ∧ gS (16 ^ g) (gtV g (fun w => zL (zN ps k0 (gw_k g w))) r) = iL (pV g ps k0 (fun k => decide (gpk k = r))) := by
  unfold pU pV
  rw [← iS_L, ← iS_L]
  constructor
  · refine gS_congr _ (fun w _ => ?_)
    unfold gtU
    rw [gpk_w g3]
    by_cases c : gw_so g w = true ∧ gpk (gw_k g w) = r
    · rw [if_pos c, if_pos ⟨c.1, decide_eq_true c.2⟩, qU_L, lN_iL, iL_mul, Int.mul_comm]
    · rw [if_neg c, if_neg (fun z => c ⟨z.1, of_decide_eq_true z.2⟩)]
      rfl
  · refine gS_congr _ (fun w _ => ?_)
    unfold gtV
    rw [gpk_w g3]
    by_cases c : gw_so g w = true ∧ gpk (gw_k g w) = r
    · rw [if_pos c, if_pos ⟨c.1, decide_eq_true c.2⟩, qV_L, lN_iL, iL_mul, Int.mul_comm]
    · rw [if_neg c, if_neg (fun z => c ⟨z.1, of_decide_eq_true z.2⟩)]
      rfl
/-- the product that goes in -/
def gst (gs : List Nat) (i : Nat) : Nat := match gs[i]? with
  | some m => m + 1
  | none => 0
def gb_k0 (gs : List Nat) : Nat := gb_ky (gst gs 0) (gst gs 1) (gst gs 2)
theorem gst_b (h : ∀ m ∈ gs, m < 10) (i : Nat) : gst gs i < 11 := by
  unfold gst
  split
  · next m e =>
    have := h m (List.mem_of_getElem? e)
    omega
  · omega
theorem gb_k0_ad (h : ∀ m ∈ gs, m < 10) (g3 : gs.length ≤ 3) : zk_ad gs.length 0 (gb_k0 gs) := by
  have b0 := gst_b h 0
  have b1 := gst_b h 1
  have b2 := gst_b h 2
  obtain ⟨q1, q2, q3, q4⟩ := gb_ky_s (show gst gs 0 < 17 by omega) (show gst gs 1 < 17 by omega) (show gst gs 2 < 17 by omega)
  refine ⟨q1, ?_, ?_⟩
  · unfold gb_k0
    rw [zk_nz_ky (by omega) (by omega) (by omega)]
    match gs, g3 with
    | [], _ => rfl
    | [a], _ => rfl
    | [a, b], _ => rfl
    | [a, b, c], _ => rfl
    | a :: b :: c :: d :: l, q => simp at q
  · unfold gb_k0
    rw [q4]
    unfold gb_ma
    omega
def gmd (gs : List Nat) (i : Nat) : Nat := gs.getD i 0
theorem gmd_b (h : ∀ m ∈ gs, m < 10) (i : Nat) : gmd gs i < 16 := by
  unfold gmd
  rw [List.getD_eq_getElem?_getD]
  cases e : gs[i]? with
  | none => decide
  | some m =>
    have := h m (List.mem_of_getElem? e)
    show m < 16
    omega
theorem gb_k0_w (h : ∀ m ∈ gs, m < 10) (g3 : gs.length ≤ 3) : gw_k gs.length (gw_st (gmd gs) gs.length) = gb_k0 gs := by
  match gs, g3 with
  | [], _ => rfl
  | [a], _ =>
    have ha := h a (by simp)
    show gb_ky 0 0 (gw_m 1 (16 * 0 + a) 0 + 1) = gb_ky (a + 1) 0 0
    rw [show gw_m 1 (16 * 0 + a) 0 = a by show (16 * 0 + a) / 16 ^ 0 % 16 = a; simp; omega, gb_ky_23, gb_ky_12]
  | [a, b], _ =>
    have ha := h a (by simp)
    have hb := h b (by simp)
    show gb_ky 0 (gw_m 2 (16 * (16 * 0 + a) + b) 0 + 1) (gw_m 2 (16 * (16 * 0 + a) + b) 1 + 1) = gb_ky (a + 1) (b + 1) 0
    rw [show gw_m 2 (16 * (16 * 0 + a) + b) 0 = a by show (16 * (16 * 0 + a) + b) / 16 ^ 1 % 16 = a; simp; omega, show gw_m 2 (16 * (16 * 0 + a) + b) 1 = b by show (16 * (16 * 0 + a) + b) / 16 ^ 0 % 16 = b; simp; omega, gb_ky_12, gb_ky_23]
  | [a, b, c], _ =>
    have ha := h a (by simp)
    have hb := h b (by simp)
    have hc := h c (by simp)
    show gb_ky (gw_m 3 (16 * (16 * (16 * 0 + a) + b) + c) 0 + 1) (gw_m 3 (16 * (16 * (16 * 0 + a) + b) + c) 1 + 1) (gw_m 3 (16 * (16 * (16 * 0 + a) + b) + c) 2 + 1) = gb_ky (a + 1) (b + 1) (c + 1)
    rw [show 16 * (16 * (16 * 0 + a) + b) + c = 256 * a + 16 * b + c by omega]
    obtain ⟨m0, m1, m2⟩ := gw3_m (a := a) (b := b) (c := c) (by omega) (by omega) (by omega)
    rw [m0, m1, m2]
  | a :: b :: c :: d :: l, q => simp at q
/-- only what the reference's odds need has moved -/
def gm_fL (I I' : gb_FI) (J J' : gb_FJ) : Prop := (∀ x k, ¬ (x = 241 ∧ (k = 23 ∨ k = 24 ∨ k = 25)) → x ≠ 259 → I' x k = I x k) ∧ ∀ x k, (x < 251 ∨ 258 < x) → ¬ (x = 241 ∧ k = 30) → J' x k = J x k
theorem gm_fL.rf : gm_fL I I J J := ⟨fun _ _ _ _ => rfl, fun _ _ _ _ => rfl⟩
theorem gm_fL.t (x : gm_fL I I1 J J1) (y : gm_fL I1 I2 J1 J2) : gm_fL I I2 J J2 := ⟨fun n k h1 h2 => (y.1 n k h1 h2).trans (x.1 n k h1 h2), fun n k h1 h2 => (y.2 n k h1 h2).trans (x.2 n k h1 h2)⟩
theorem m_lays15 (D : Int32) : lpX11_lays_15 gb_FU 241 D 0 (gb_mk I J) = lpX11_lays_51 gb_FU 241 D 0 0 (gb_mk I (zc 256 J 1024)) := by
  conv => lhs; unfold lpX11_lays_15
  have z : (241, D, (0 : Int32), gb_mk I J) = (fun i => (241, D, nI i, gb_mk I (zc 256 J i))) 0 := by
    show _ = (241, D, nI 0, gb_mk I (zc 256 J 0))
    rw [zc_0]
    rfl
  rw [z]
  refine gb_forF (fun i => (241, D, nI i, gb_mk I (zc 256 J i))) 1024 (by decide) ?_ ?_
  · intro i hi q
    simp only [fbX11_lays_15]
    rw [if_neg (show ¬ (1024 : Int32) ≤ nI i from nI_ge (b := 1024) hi (by omega)), gk241, gb_gd_t, gr241_28, gb_rd_s, gk256, gb_gd_t, gi256 hi, gb_gd_t, gb_lt_d, gb_sL_mk, gk241, gb_gd_t, gr241_29, gb_rd_s, gk257, gb_gd_t, gi257 hi, gb_gd_t, gb_lt_d, gb_sL_mk, gb_lt_d, nI_1, nI_clamp (by omega), ← zc_s]
  · intro q
    simp only [fbX11_lays_15]
    rw [if_pos (show (1024 : Int32) ≤ nI 1024 by decide)]
theorem m_lays51 {D : Nat} (hD : D < 2 ^ 31) (hg : I 241 23 = nI g) (g3 : g ≤ 3) {md : Nat → Nat} (hmd : ∀ i, md i < 16) (hv : ∀ i, i < g → I 242 i = nI (md i)) : lpX11_lays_51 gb_FU 241 (nI D) 0 0 (gb_mk I J) = lpX11_lays_102 gb_FU 241 0 (gb_mk I (gb_u J 241 30 (lN D * lN D * lN (gb_od (gw_k g (gw_st md g)))))) := by
  have sb := gw_st_b hmd g
  have w4 : (16 : Nat) ^ g ≤ 4096 := Nat.le_trans (Nat.pow_le_pow_right (by decide) g3) (by decide)
  conv => lhs; unfold lpX11_lays_51
  refine gb_forF (fun i => (241, nI D, nI (gw_st md i), nI i, gb_mk I J)) g (by omega) ?_ ?_
  · intro i hi q
    simp only [fbX11_lays_51]
    rw [gk241, gb_gd_t, gb_I_mk, hg, if_neg (nI_ge hi (by omega)), gb_gd_t, gr241_2, gb_rd_s, gk242, gb_gd_t, gi242 (by omega), gb_gd_t, gb_lt_d, gb_lt_d, nI_1, nI_clamp (by omega), hv i hi, show (16 : Int32) = nI 16 from rfl, gb_nI_mul, nI_add]
    rfl
  · intro q
    simp only [fbX11_lays_51]
    rw [gk241, gb_gd_t, gb_I_mk, hg, if_pos (nI_le (Nat.le_refl _) (by omega)), gb_gd_t, m_factorials hg g3 (by omega), gb_bd_s, gk241, gb_gd_t, gb_lt_d, gb_sL_mk, nI_L hD]
theorem m_lays (ko : ∀ (I : gb_FI) (J : gb_FJ), gb_k (gb_mk I J) o 20 = true) (ki : ∀ j, j < room → ∀ (I : gb_FI) (J : gb_FJ), gb_in (gb_mk I J) o (nI j) = true) (ho : o ≠ 241) (hr : room ≤ 512) (ha : a + 8 * ps.length ≤ room) (hp : ∀ i p, ps[i]? = some p → mP (I o) (a + 8 * i) p) (hw : ∀ p ∈ ps, ∃ cs ls, gb_wp cs ls p)
    (hgs : ∀ m ∈ gs, m < 10) (g3 : gs.length ≤ 3) (hG : mG (I 241 1) (I 242) gs) {D : Nat} (hD : D < 2 ^ 31) :
    ∃ I2 J2, fnX11_lays 241 o (nI a) (nI ps.length) (nI D) (gb_mk I J) = some ((), gb_mk I2 J2) ∧ gm_fL I I2 J J2 ∧ J2 241 30 = lN (D * D * gb_od (gb_k0 gs)) ∧ ∀ r, r < 1024 → J2 256 r = iL (pU gs.length ps (gb_k0 gs) (fun k => decide (gpk k = r))) ∧ J2 257 r = iL (pV gs.length ps (gb_k0 gs) (fun k => decide (gpk k = r))) := by
  have hv : ∀ i, i < gs.length → I 242 i = nI (gmd gs i) := fun i hi => by
    have e : gs[i]? = some gs[i] := List.getElem?_eq_getElem hi
    rw [hG.2 i _ e]
    unfold gmd
    rw [List.getD_eq_getElem?_getD, e]
    rfl
  obtain ⟨I2, J2, s1, s2, s3, s4, s5⟩ := m_runs (I := I) (J := J) ko ki ho hr ha hp hw g3 (gmd_b hgs) (v5 := -1) (Or.inl ⟨rfl, hv⟩)
  have hv2 : ∀ i, i < gs.length → I2 242 i = nI (gmd gs i) := fun i hi => by rw [s2.1 242 i (fun z => by omega)]; exact hv i hi
  have zr : ∀ r, r < 1024 → (gb_u (zc 256 J2 1024) 241 30 (lN D * lN D * lN (gb_od (gw_k gs.length (gw_st (gmd gs) gs.length))))) 256 r = 0 ∧ (gb_u (zc 256 J2 1024) 241 30 (lN D * lN D * lN (gb_od (gw_k gs.length (gw_st (gmd gs) gs.length))))) 257 r = 0 := fun r hr => by
    rw [gb_u_ne _ _ (by decide), gb_u_ne _ _ (by decide)]
    exact ⟨zc_z (Or.inl rfl) hr, zc_z (Or.inr rfl) hr⟩
  have j251 : (gb_u (zc 256 J2 1024) 241 30 (lN D * lN D * lN (gb_od (gw_k gs.length (gw_st (gmd gs) gs.length))))) 251 = J2 251 := by
    rw [gb_u_row _ _ (by decide), zc_ne (by decide)]
  obtain ⟨I3, J3, t1, t2, t3, t4⟩ := m_lays102 (I := I2) (J := gb_u (zc 256 J2 1024) 241 30 (lN D * lN D * lN (gb_od (gw_k gs.length (gw_st (gmd gs) gs.length))))) (N := fun w => zL (zN ps (gb_k0 gs) (gw_k gs.length w))) s3 g3 s4 (fun w hw' r hr => by
    rw [j251]
    exact m_nmb (by rw [← gb_k0_w hgs g3]; exact s5) hr) (16 ^ gs.length) 0 gb_FU I2 _ (by omega) (show 16 ^ gs.length < 1000000 from Nat.lt_of_le_of_lt (Nat.pow_le_pow_right (by decide) g3) (by decide)) (fun _ _ => rfl) (fun _ _ _ _ => rfl) zr
  refine ⟨I3, J3, ?_, ⟨fun x k h1 h2 => by rw [t2 x h2]; exact s2.1 x k h1, fun x k h1 h2 => ?_⟩, ?_, fun r hr => ?_⟩
  · unfold fnX11_lays
    rw [gk241, gb_gd_t, gb_gd_t, gb_I_mk, hG.1, s1, gb_bd_s, m_lays15, m_lays51 hD s3 g3 (gmd_b hgs) hv2]
    exact t1
  · rw [t3 x (by omega) (by omega) (by omega), gb_u1, if_neg h2, zc_ne (by omega), s2.2 x (by omega)]
  · rw [t3 241 (by decide) (by decide) (by decide), gb_u_s, gb_k0_w hgs g3, lN_mul, lN_mul]
  · rw [(t4 r hr).1, (t4 r hr).2]
    exact gtU_p g3
theorem RM.fL (h : RM S I J) (f : gm_fL I I' J J') : RM S I' J' := by
  obtain ⟨f1, f2⟩ := f
  have k : ∀ x, x ≠ 241 → x ≠ 259 → I' x = I x := fun x h1 h2 => funext (fun k => f1 x k (fun z => h1 z.1) h2)
  have k1 : ∀ j, j ≠ 23 → j ≠ 24 → j ≠ 25 → I' 241 j = I 241 j := fun j a b c => f1 241 j (fun z => by omega) (by decide)
  obtain ⟨h1, h2, h3, h4, h5, h6, h7, h8, h9⟩ := h
  refine ⟨?_, ?_, ?_, ?_, ?_, ?_, ?_, ?_, ?_⟩
  · rw [k1 1 (by decide) (by decide) (by decide), k 242 (by decide) (by decide)]; exact h1
  · rw [k1 0 (by decide) (by decide) (by decide)]; exact h2
  · rw [k1 14 (by decide) (by decide) (by decide), k 248 (by decide) (by decide)]; exact h3
  · rw [k1 18 (by decide) (by decide) (by decide)]; exact h4
  · rw [k 244 (by decide) (by decide), k 243 (by decide) (by decide)]; exact h5
  · rw [k1 6 (by decide) (by decide) (by decide), k 245 (by decide) (by decide)]; exact h6
  · rw [k 260 (by decide) (by decide)]; exact h7
  · rw [k1 37 (by decide) (by decide) (by decide), k 261 (by decide) (by decide), k 262 (by decide) (by decide), k 263 (by decide) (by decide)]; exact h8
  · rw [k1 46 (by decide) (by decide) (by decide), k 268 (by decide) (by decide), k 267 (by decide) (by decide)]
    unfold mL at h9 ⊢
    split
    · next e => rw [e] at h9; exact h9
    · next q e =>
      rw [e] at h9
      rw [f2 241 51 (by decide) (by decide), f2 241 52 (by decide) (by decide), f2 241 53 (by decide) (by decide)]
      exact h9
theorem gm_fL.fm (f : gm_fL I I' J J') : gb_fm I I' J J' := fun n hn => ⟨funext (fun k => f.1 n k (fun z => by omega) (by omega)), funext (fun k => f.2 n k (by omega) (fun z => by omega))⟩
end LAYS2
