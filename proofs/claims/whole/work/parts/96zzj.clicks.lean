section MCLICKS
variable {S : gb_S} {I I' I1 I2 : gb_FI} {J J' J1 J2 : gb_FJ} {g b bits set p k i : Nat} {dk : Nat → Nat} {gs : List Nat} {ps : List gb_P}
/-- the reference's odds of clicks -/
def gck (J : gb_FJ) (A B : Int64) : gb_FJ := gb_u (gb_u J 241 34 A) 241 35 B
theorem gck_34 {A B A' : Int64} : gb_u (gck J A B) 241 34 A' = gck J A' B := by
  unfold gck
  funext n k
  rw [gb_u1, gb_u1, gb_u1, gb_u1, gb_u1]
  by_cases a : n = 241 ∧ k = 34
  · rw [if_pos a, if_neg (fun z => by omega), if_pos a]
  · rw [if_neg a, if_neg a, if_neg a]
theorem gck_35 {A B B' : Int64} : gb_u (gck J A B) 241 35 B' = gck J A B' := gb_uu _ _ _ _ _
theorem gck_ne {A B : Int64} {n : Nat} (h : n ≠ 241) : gck J A B n = J n := by
  unfold gck
  rw [gb_u_row _ _ h, gb_u_row _ _ h]
theorem gck_A {A B : Int64} : gck J A B 241 34 = A := by
  unfold gck
  rw [gb_u_nk _ _ (by decide), gb_u_s]
theorem gck_B {A B : Int64} : gck J A B 241 35 = B := gb_u_s _ _ _ _
theorem gck_n {A B : Int64} (h : k ≠ 34 ∧ k ≠ 35) : gck J A B 241 k = J 241 k := by
  unfold gck
  rw [gb_u_nk _ _ h.2, gb_u_nk _ _ h.1]
theorem gd4 : ∀ q, q < 32 → ∀ r, r < 32 → nI (32 * q + r) / 4 = nI ((32 * q + r) / 4) ∧ nI (32 * q + r) - nI (32 * q + r) / 4 * 4 = nI ((32 * q + r) % 4) := by decide +kernel
theorem gd4' (h : i < 1024) : nI i / 4 = nI (i / 4) ∧ nI i - nI i / 4 * 4 = nI (i % 4) := by
  have := gd4 (i / 32) (by omega) (i % 32) (by omega)
  rw [show 32 * (i / 32) + i % 32 = i by omega] at this
  exact this
theorem m_clk64 (hD : xD (I 260) dk) (hb : bits < 32) (hi : i < 1024) (A B : Int64) (k24 : Nat → Int32 → Int32 → gb_H → Option (Unit × gb_H)) : lpX11_clicksOf_64 k24 gb_FU 241 (nI bits) (nI i) 1 (nI i) 0 (gb_mk I (gck J A B)) = k24 241 (nI bits) (nI (i + 1)) (gb_mk I (gck J (A + J 256 i * lN (gwr dk bits i)) (B + J 257 i * lN (gwr dk bits i)))) := by
  unfold lpX11_clicksOf_64
  have z : (241, nI bits, nI i, (1 : Int64), nI i, (0 : Int32), gb_mk I (gck J A B)) = (fun p => (241, nI bits, nI i, lN (gpr (gfc dk bits i) p), nI (i / 4 ^ p), nI p, gb_mk I (gck J A B))) 0 := by
    show _ = (241, nI bits, nI i, lN 1, nI (i / 1), nI 0, gb_mk I (gck J A B))
    rw [Nat.div_one]
    rfl
  rw [z]
  refine gb_forF (fun p => (241, nI bits, nI i, lN (gpr (gfc dk bits i) p), nI (i / 4 ^ p), nI p, gb_mk I (gck J A B))) 5 (by decide) ?_ ?_
  · intro p hp q
    obtain ⟨d1, d2⟩ := hD p hp
    have rl : i / 4 ^ p < 1024 := Nat.lt_of_le_of_lt (Nat.div_le_self _ _) hi
    obtain ⟨r1, r2⟩ := gd4' rl
    have dd : i / 4 ^ p / 4 = i / 4 ^ (p + 1) := by rw [Nat.div_div_eq_div_mul, Nat.pow_succ]
    have last : ∀ x : Nat, fbX11_clicksOf_142 k24 (fun v0 v1 v2 v3 v5 v6 h => q (v0, v1, v2, v3, v5, v6, h)) 241 (nI bits) (nI i) (lN (gpr (gfc dk bits i) p) * lN x) (nI (i / 4 ^ p)) (nI p) (gb_mk I (gck J A B)) = q (241, nI bits, nI i, lN (gpr (gfc dk bits i) p * x), nI (i / 4 ^ (p + 1)), nI (p + 1), gb_mk I (gck J A B)) := fun x => by
      unfold fbX11_clicksOf_142
      rw [show gb_nz (4 : Int32) = true from rfl, gb_gd_t, gb_lt_d, gb_lt_d, nI_1, r1, dd, lN_mul]
    have l7 : ∀ x : Nat, fbX11_clicksOf_107 k24 (fun v0 v1 v2 v3 v5 v6 h => q (v0, v1, v2, v3, v5, v6, h)) 241 (nI bits) (nI i) (nI (i / 4 ^ p)) (nI p) (lN (gpr (gfc dk bits i) p)) (lN x) (gb_mk I (gck J A B)) = q (241, nI bits, nI i, lN (gpr (gfc dk bits i) p * x), nI (i / 4 ^ (p + 1)), nI (p + 1), gb_mk I (gck J A B)) := fun x => by
      unfold fbX11_clicksOf_107
      rw [gb_lt_d, last]
    have l0 : ∀ x : Nat, fbX11_clicksOf_140 k24 (fun v0 v1 v2 v3 v5 v6 h => q (v0, v1, v2, v3, v5, v6, h)) 241 (nI bits) (nI i) (nI (i / 4 ^ p)) (nI p) (lN (gpr (gfc dk bits i) p)) (lN x) (gb_mk I (gck J A B)) = q (241, nI bits, nI i, lN (gpr (gfc dk bits i) p * x), nI (i / 4 ^ (p + 1)), nI (p + 1), gb_mk I (gck J A B)) := fun x => by
      unfold fbX11_clicksOf_140
      rw [gb_lt_d, last]
    show fbX11_clicksOf_64 k24 (fun v0 v1 v2 v3 v5 v6 h => q (v0, v1, v2, v3, v5, v6, h)) 241 (nI bits) (nI i) (lN (gpr (gfc dk bits i) p)) (nI (i / 4 ^ p)) (nI p) (gb_mk I (gck J A B)) = q (241, nI bits, nI i, lN (gpr (gfc dk bits i) p * gfc dk bits i p), nI (i / 4 ^ (p + 1)), nI (p + 1), gb_mk I (gck J A B))
    unfold fbX11_clicksOf_64
    rw [if_neg (show ¬ (5 : Int32) ≤ nI p from nI_ge (b := 5) hp (by omega))]
    unfold fbX11_clicksOf_85 gfc
    rw [show gb_nz (4 : Int32) = true from rfl, gb_gd_t, gb_gd_t, r2]
    by_cases c1 : 0 < i / 4 ^ p % 4
    · rw [if_pos c1, if_neg (show ¬ nI (i / 4 ^ p % 4) ≤ 0 from nI_ge (a := 0) c1 (by omega)), if_neg (show ¬ nI (i / 4 ^ p % 4) ≤ 0 from nI_ge (a := 0) c1 (by omega))]
      by_cases c2 : gbt bits p = 1
      · rw [if_pos ((gbt_1 hb hp).mpr c2), if_pos c2, if_neg gb_n10]
        exact l7 10
      · rw [if_neg (fun z => c2 ((gbt_1 hb hp).mp z)), if_neg c2, if_pos (show (0 : Int32) = 0 from rfl)]
        exact l7 0
    · have e0 : nI (i / 4 ^ p % 4) ≤ 0 := nI_le (b := 0) (by omega) (by omega)
      rw [if_neg c1, if_pos e0, if_pos e0]
      by_cases c2 : gbt bits p = 1
      · rw [if_pos ((gbt_1 hb hp).mpr c2), if_pos c2, if_neg gb_n10, gk241, gb_gd_t, gr241_33, gb_rd_s, gk260, gb_gd_t, gi260 hp, gb_gd_t, gb_I_mk, nI_clamp (by omega), d2, nI_L (by omega)]
        exact l0 (dk p)
      · rw [if_neg (fun z => c2 ((gbt_1 hb hp).mp z)), if_neg c2, if_pos (show (0 : Int32) = 0 from rfl), gk241, gb_gd_t, gr241_33, gb_rd_s, gk260, gb_gd_t, gi260 hp, gb_gd_t, gb_I_mk, nI_clamp (by omega), d2, show (10 : Int32) = nI 10 from rfl, gb_nI_sub (by omega), nI_L (by omega)]
        exact l0 (10 - dk p)
  · intro q
    simp only [fbX11_clicksOf_64, fbX11_clicksOf_188]
    rw [if_pos (show (5 : Int32) ≤ nI 5 by decide), gk241, gb_gd_t, gb_gd_t, gr241_28, gb_rd_s, gk256, gb_gd_t, gi256 hi, gb_gd_t, gb_gd_t, gb_lt_d, gb_sL_mk, gb_L_mk, gck_A, gck_ne (show 256 ≠ 241 by decide), gck_34, nI_clamp (by omega), gk241, gb_gd_t, gb_gd_t, gr241_29, gb_rd_s, gk257, gb_gd_t, gi257 hi, gb_gd_t, gb_gd_t, gb_lt_d, gb_sL_mk, gb_L_mk, gck_B, gck_ne (show 257 ≠ 241 by decide), gck_35, gb_lt_d, nI_1, Int64.mul_comm (lN _) (J 256 i), Int64.mul_comm (lN _) (J 257 i)]
    rfl
theorem m_clk24 (hD : xD (I 260) dk) (hb : bits < 32) : lpX11_clicksOf_24 gb_FU 241 (nI bits) 0 (gb_mk I (gck J 0 0)) = some ((), gb_mk I (gck J (gS 1024 (fun r => J 256 r * lN (gwr dk bits r))) (gS 1024 (fun r => J 257 r * lN (gwr dk bits r))))) := by
  unfold lpX11_clicksOf_24
  refine gb_forF (fun i => (241, nI bits, nI i, gb_mk I (gck J (gS i (fun r => J 256 r * lN (gwr dk bits r))) (gS i (fun r => J 257 r * lN (gwr dk bits r)))))) 1024 (by decide) ?_ ?_
  · intro i hi q
    show fbX11_clicksOf_24 (fun v0 v1 v2 h => q (v0, v1, v2, h)) 241 (nI bits) (nI i) (gb_mk I (gck J (gS i (fun r => J 256 r * lN (gwr dk bits r))) (gS i (fun r => J 257 r * lN (gwr dk bits r))))) = q (241, nI bits, nI (i + 1), gb_mk I (gck J (gS i (fun r => J 256 r * lN (gwr dk bits r)) + J 256 i * lN (gwr dk bits i)) (gS i (fun r => J 257 r * lN (gwr dk bits r)) + J 257 i * lN (gwr dk bits i))))
    generalize gS i (fun r => J 256 r * lN (gwr dk bits r)) = A
    generalize gS i (fun r => J 257 r * lN (gwr dk bits r)) = B
    unfold fbX11_clicksOf_24 fbX11_clicksOf_56 fbX11_clicksOf_188
    rw [if_neg (show ¬ (1024 : Int32) ≤ nI i from nI_ge (b := 1024) hi (by omega)), gk241, gb_gd_t, gr241_28, gb_rd_s, gk256, gb_gd_t, gi256 hi, gb_gd_t, gb_gd_t, gr241_29, gb_rd_s, gk257, gb_gd_t, gi257 hi, gb_gd_t, gb_L_mk, nI_clamp (by omega), gck_ne (show 256 ≠ 241 by decide), gck_ne (show 257 ≠ 241 by decide), m_clk64 hD hb hi, gb_lt_d, nI_1]
    by_cases z1 : J 256 i = 0
    · rw [if_pos z1]
      by_cases z2 : J 257 i = 0
      · rw [if_pos z2, z1, z2, Int64.zero_mul, Int64.add_zero, Int64.add_zero]
      · rw [if_neg z2]
    · rw [if_neg z1]
  · intro q
    simp only [fbX11_clicksOf_24]
    rw [if_pos (show (1024 : Int32) ≤ nI 1024 by decide)]
/-- the reference's odds of clicks stand in its cells -/
theorem gpk_b (k : Nat) : gpk k < 1024 := by
  have s := (gct_s (gb_pa (k % 32)) (gb_pa (k / 32 % 32)) (gb_pa (k / 1024))).2
  have s1 := s 1
  have s2 := s 2
  have s3 := s 3
  have s4 := s 4
  have s5 := s 5
  rw [gpk_T]
  unfold gplT gpk5
  omega
def gm_told (J : gb_FJ) (gs : List Nat) (ps : List gb_P) : Prop := J 241 30 = lN (gb_Wd gs ps) ∧ ∀ r, r < 1024 → J 256 r = iL (pU gs.length ps (gb_k0 gs) (fun k => decide (gpk k = r))) ∧ J 257 r = iL (pV gs.length ps (gb_k0 gs) (fun k => decide (gpk k = r)))
theorem m_clicksOf (hD : xD (I 260) dk) (hb : bits < 32) (ht : gm_told J gs ps) : ∃ J', fnX11_clicksOf 241 (nI bits) (gb_mk I J) = some ((), gb_mk I J') ∧ J' 241 34 = iL (gcU gs ps dk bits) ∧ J' 241 35 = iL (gcV gs ps dk bits) ∧ J' 241 36 = lN (gb_Wd gs ps * 100000) ∧ (∀ x k, ¬ (x = 241 ∧ (k = 34 ∨ k = 35 ∨ k = 36)) → J' x k = J x k) ∧ gm_told J' gs ps := by
  obtain ⟨t1, t2⟩ := ht
  have u1 : gS 1024 (fun r => J 256 r * lN (gwr dk bits r)) = iL (gcU gs ps dk bits) := gS_w (ps := ps) (g := gs.length) (k0 := gb_k0 gs) (h := gpk) (gwr dk bits) gpk_b (fun r hr => (t2 r hr).1)
  have u2 : gS 1024 (fun r => J 257 r * lN (gwr dk bits r)) = iL (gcV gs ps dk bits) := gS_wV (ps := ps) (g := gs.length) (k0 := gb_k0 gs) (h := gpk) (gwr dk bits) gpk_b (fun r hr => (t2 r hr).2)
  have e36 : (gb_u (gb_u J 241 34 0) 241 35 0) 241 30 = lN (gb_Wd gs ps) := by rw [gb_u_nk _ _ (by decide), gb_u_nk _ _ (by decide)]; exact t1
  have eK : gb_u (gb_u (gb_u J 241 34 0) 241 35 0) 241 36 (lN (gb_Wd gs ps * 100000)) = gck (gb_u J 241 36 (lN (gb_Wd gs ps * 100000))) 0 0 := by
    unfold gck
    funext n k
    rw [gb_u1, gb_u1, gb_u1, gb_u1, gb_u1, gb_u1]
    by_cases a : n = 241 ∧ k = 36
    · rw [if_pos a, if_neg (fun z => by omega), if_neg (fun z => by omega), if_pos a]
    · rw [if_neg a, if_neg a]
  have r1 : (gb_u J 241 36 (lN (gb_Wd gs ps * 100000))) 256 = J 256 := gb_u_row _ _ (by decide)
  have r2 : (gb_u J 241 36 (lN (gb_Wd gs ps * 100000))) 257 = J 257 := gb_u_row _ _ (by decide)
  have run := m_clk24 (I := I) (J := gb_u J 241 36 (lN (gb_Wd gs ps * 100000))) hD hb
  rw [r1, r2, u1, u2] at run
  have fr : ∀ x k, ¬ (x = 241 ∧ (k = 34 ∨ k = 35 ∨ k = 36)) → gck (gb_u J 241 36 (lN (gb_Wd gs ps * 100000))) (iL (gcU gs ps dk bits)) (iL (gcV gs ps dk bits)) x k = J x k := fun x k h => by
    unfold gck
    rw [gb_u1, if_neg (fun z => h ⟨z.1, Or.inr (Or.inl z.2)⟩), gb_u1, if_neg (fun z => h ⟨z.1, Or.inl z.2⟩), gb_u1, if_neg (fun z => h ⟨z.1, Or.inr (Or.inr z.2)⟩)]
  refine ⟨_, ?_, gck_A, gck_B, ?_, fr, ?_, fun r hr => ?_⟩
  · unfold fnX11_clicksOf
    rw [gk241, gb_gd_t, gb_lt_d, gb_sL_mk, gk241, gb_gd_t, gb_lt_d, gb_sL_mk, gk241, gb_gd_t, gb_gd_t, gb_lt_d, gb_sL_mk, gb_L_mk, e36, show (100000 : Int64) = lN 100000 from rfl, lN_mul, eK]
    exact run
  · rw [gck_n (by decide), gb_u_s]
  · rw [fr 241 30 (by decide)]; exact t1
  · rw [fr 256 r (fun z => by omega), fr 257 r (fun z => by omega)]; exact t2 r hr
theorem RM.jk (h : RM S I J) (k : ∀ j, 51 ≤ j → j ≤ 53 → J' 241 j = J 241 j) : RM S I J' := by
  obtain ⟨h1, h2, h3, h4, h5, h6, h7, h8, h9⟩ := h
  refine ⟨h1, h2, h3, h4, h5, h6, h7, h8, ?_⟩
  unfold mL at h9 ⊢
  split
  · next e => rw [e] at h9; exact h9
  · next q e =>
    rw [e] at h9
    rw [k 51 (by decide) (by decide), k 52 (by decide) (by decide), k 53 (by decide) (by decide)]
    exact h9
def gb_cv (gs : List Nat) (ps : List gb_P) (dk : Nat → Nat) (bits : Nat) (c : Int32) : Int64 := gb_tl (gcU gs ps dk bits) (gcV gs ps dk bits) (gb_Wd gs ps * 100000) c
def a_clicks (b t c : Int32) (S : gb_S) : Int64 × gb_S :=
  (if gb_rg c 3 = true then if gb_rg b 4 = true ∧ gb_rg t 32 = true ∧ gb_dpt S.1.length (S.2.2.2.2.1 b.toNatClampNeg) ≤ 300000 then gb_cv S.1 (S.2.2.2.2.1 b.toNatClampNeg) S.2.2.2.2.2.2.1 t.toNatClampNeg c else if c = 2 then -1 else 0 else -1, S)
theorem M_clicks (h : RM S I J) (hgs : ∀ m ∈ S.1, m < 10) (g3 : S.1.length ≤ 3) (hB : ∀ b, b < 4 → (S.2.2.2.2.1 b).length ≤ 16 ∧ gb_wl 0 0 (S.2.2.2.2.1 b)) (b t c : Int32) : mok (fnX11_clicks 241 b t c) I J (a_clicks b t c S) := by
  have hD := h.2.2.2.2.2.2.1
  have bad : ∀ (I' : gb_FI) (J' : gb_FJ), gm_fL I I' J J' → ∃ I2 J2, fbX11_clicks_40 c (gb_mk I' J') = some ((if c = 2 then (-1 : Int64) else 0), gb_mk I2 J2) ∧ RM S I2 J2 ∧ gb_fm I I2 J J2 := fun I' J' f => by
    unfold fbX11_clicks_40 fbX11_clicks_52
    refine ⟨I', J', ?_, h.fL f, f.fm⟩
    split <;> rfl
  unfold a_clicks mok fnX11_clicks
  rw [m_inR c 2 (by decide) _ (show (2 : Int32) = nI 2 from rfl), gb_bd_s]
  by_cases h1 : gb_rg c 3 = true
  · rw [if_pos (show gb_rg c (2 + 1) = true from h1), if_neg gb_n10, if_pos h1, m_inR b 3 (by decide) _ (show (3 : Int32) = nI 3 from rfl), gb_bd_s]
    by_cases h2 : gb_rg b 4 = true
    · rw [if_pos (show gb_rg b (3 + 1) = true from h2), if_neg gb_n10, m_inR t 31 (by decide) _ (show (31 : Int32) = nI 31 from rfl), gb_bd_s]
      by_cases h3 : gb_rg t 32 = true
      · rw [if_pos (show gb_rg t (31 + 1) = true from h3), if_neg gb_n10]
        obtain ⟨b', hb, _, rfl⟩ := gb_rgT h2
        obtain ⟨t', ht, _, rfl⟩ := gb_rgT h3
        obtain ⟨I2, J2, s1, s2, s3⟩ := m_laysBench h hgs g3 hb (hB b' hb).1 (hB b' hb).2
        rw [gk241, gb_gd_t, s1, gb_bd_s, nI_clamp (by omega), nI_clamp (by omega)]
        by_cases d : gb_dpt S.1.length (S.2.2.2.2.1 b') ≤ 300000
        · obtain ⟨q1, q2, q3, q4, q5, q6⟩ := gcB hgs g3 (hB b' hb).2 d (fun p hp => (hD p hp).1) t'
          have hD2 : xD (I2 260) S.2.2.2.2.2.2.1 := by rw [show I2 260 = I 260 from funext (fun k => s2.1 260 k (fun z => by omega) (by decide))]; exact hD
          obtain ⟨J3, t1, t2, t3, t4, t5, t6⟩ := m_clicksOf (I := I2) hD2 ht (s3 d)
          rw [if_pos d, if_neg gb_n10, if_pos ⟨h2, h3, d⟩, gk241, gb_gd_t, t1, gb_bd_s, gk241, gb_gd_t, gb_gd_t, gb_gd_t, gb_L_mk, t2, t3, t4, m_tells (by omega) (by omega) (by omega) q1, gb_bd_s]
          exact ⟨I2, J3, rfl, (h.fL s2).jk (fun j j1 j2 => t5 241 j (fun z => by omega)), fun n hn => ⟨(s2.fm n hn).1, (funext (fun k => t5 n k (fun z => by omega))).trans (s2.fm n hn).2⟩⟩
        · rw [if_neg d, if_pos (show (0 : Int32) = 0 from rfl), if_neg (fun z => d z.2.2)]
          exact bad I2 J2 s2
      · rw [if_neg (show ¬ gb_rg t (31 + 1) = true from h3), if_pos (show (0 : Int32) = 0 from rfl), if_neg (fun z => h3 z.2.1)]
        exact bad I J gm_fL.rf
    · rw [if_neg (show ¬ gb_rg b (3 + 1) = true from h2), if_pos (show (0 : Int32) = 0 from rfl), if_neg (fun z => h2 z.1)]
      exact bad I J gm_fL.rf
  · rw [if_neg (show ¬ gb_rg c (2 + 1) = true from h1), if_pos (show (0 : Int32) = 0 from rfl), if_neg h1]
    exact ⟨I, J, rfl, h, gb_fm.r⟩
theorem gb_rg3L (c : Int32) (A B : Option (Int64 × gb_H)) : (if c < 0 then A else if c ≤ 2 then B else A) = if gb_rg c 3 = true then B else A := by
  by_cases h0 : c < 0
  · rw [if_pos h0, gb_rg_neg h0, if_neg (by decide)]
  · rw [if_neg h0]
    obtain ⟨j, hj, rfl⟩ := nI_of h0
    rw [gb_rg_nI hj]
    by_cases q : j < 3
    · rw [if_pos (show nI j ≤ 2 from nI_le (b := 2) (by omega) (by omega)), if_pos (by simpa using q)]
    · rw [if_neg (show ¬ nI j ≤ 2 from nI_ge (a := 2) (by omega) hj), if_neg (by simpa using q)]
theorem RX.ck (h : RX gCK S I J) (hb : b < 4) (e : I (42 + 23 * b) 6 = 1) : gCK (I (42 + 23 * b) 5) (J (42 + 23 * b) 4) (J (43 + 23 * b)) (J (44 + 23 * b)) (J (45 + 23 * b)) (J (46 + 23 * b)) S.1 (S.2.2.2.2.1 b) := by
  rcases h.2.2.2.2.2.2.2.2.2.1 b hb with z | z
  · rw [e] at z; exact absurd z (by decide)
  · exact z.2
theorem X_clicks (h : RX gCK S I J) (hB : ∀ b, b < 4 → gb_wl 0 0 (S.2.2.2.2.1 b)) (b t c : Int32) : xok gCK (fnX10_clicks 0 b t c) I J (a_clicks b t c S) := by
  have g3 := h.1.1
  have hgs := h.1.2.1
  have k238 : ∀ (I : gb_FI) (J : gb_FJ), gb_k (gb_mk I J) 238 8 = true := fun I J => gk238
  have bad : ∀ (I' : gb_FI) (J' : gb_FJ), RX gCK S I' J' → gb_fx I I' J J' → ∃ I2 J2, fbX10_clicks_28 c (gb_mk I' J') = some ((if c = 2 then (-1 : Int64) else 0), gb_mk I2 J2) ∧ RX gCK S I2 J2 ∧ gb_fx I I2 J J2 := fun I' J' f f' => by
    unfold fbX10_clicks_28 fbX10_clicks_40
    refine ⟨I', J', ?_, f, f'⟩
    split <;> rfl
  unfold a_clicks xok fnX10_clicks fbX10_clicks_9
  rw [gb_rg3L]
  by_cases h1 : gb_rg c 3 = true
  · rw [if_pos h1, if_pos h1, x_areBits, gb_bd_s]
    by_cases h3 : gb_rg t 32 = true
    · rw [if_pos h3, if_neg gb_n10, gk0, gb_gd_t]
      obtain ⟨t', ht, _, rfl⟩ := gb_rgT h3
      by_cases h2 : gb_rg b 4 = true
      · obtain ⟨b', hb, _, rfl⟩ := gb_rgT h2
        obtain ⟨I2, J2, s1, s2, s3, s4, s5⟩ := x_isTold h hb (hB b' hb)
        have ch := gb_CHs hb
        rw [s1, gb_bd_s, nI_clamp (by omega), nI_clamp (by omega)]
        by_cases d : gb_dpt S.1.length (S.2.2.2.2.1 b') ≤ 300000
        · rw [if_pos d, if_neg gb_n10, if_pos ⟨h2, h3, d⟩, gk0, gb_gd_t, gr0_4, gb_rd_s, gk23, gb_gd_t, gi23 hb, gb_gd_t, gx_ch hb, gb_rd_s, gb_gd_t, gr0_12, gb_rd_s, gb_gd_t, gr0_10, gb_rd_s, (ch _ _).1, gb_gd_t, x_clicksOf s2.2.2.2.2.2.2.1 ht hb hgs g3 (hB b' hb) d (s2.ck hb s4), gb_bd_s, gk0, gb_gd_t, gr0_10, gb_rd_s, k238, gb_gd_t, x_spart k238, gb_bd_s]
          exact ⟨I2, _, rfl, s2.jn (fun n hn => gsh_ne hn), fun n hn => ⟨(s3 n hn).1, (gsh_ne (by omega)).trans (s3 n hn).2⟩⟩
        · rw [if_neg d, if_pos (show (0 : Int32) = 0 from rfl), if_neg (fun z => d z.2.2)]
          exact bad I2 J2 s2 s3
      · rw [if_neg (fun z => h2 z.1)]
        unfold fnX10_isTold
        rw [x_isBench, gb_bd_s, if_neg h2, if_pos (show (0 : Int32) = 0 from rfl), gb_bd_s, if_pos (show (0 : Int32) = 0 from rfl)]
        exact bad I J h gb_fx.r
    · rw [if_neg h3, if_pos (show (0 : Int32) = 0 from rfl), if_neg (fun z => h3 z.2.1)]
      exact bad I J h gb_fx.r
  · rw [if_neg h1, if_neg h1]
    exact ⟨I, J, rfl, h, gb_fx.r⟩
end MCLICKS
