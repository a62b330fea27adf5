section SPREAD2
variable {I I' I1 I2 : gb_FI} {J J' J1 J2 : gb_FJ} {o n op o' n' k : Nat} {kl : List Nat}
theorem x_sp87 (hB : gb_BM o n) (hB' : gb_BM o' n') (hO : gb_OP op) (hop : op + 5 < o') (hoo : o + 6 < o' ∨ o' + 6 < o) {pl lo mi hi jx : Nat} {lx ly lz : List gb_br} {ex : gb_br} (hpl : pl < n)
    (sx : xOs I op lo lx) (sy : xOs I op mi ly) (sz : xOs I op hi lz) (hlo : lo < 17) (hmi : mi < 17) (hhi : hi < 17) (gx : lx[jx]? = some ex) (bx : gb_bk lx) (by' : gb_bk ly) (bz : gb_bk lz) (hkp : ∀ ey ∈ ly, ∀ ez ∈ lz, gb_kp (gb_ky ex.2.2.2 ey.2.2.2 ez.2.2.2) < n')
    {k76 : Nat → Nat → Nat → Int32 → Int32 → Int32 → Int32 → Int32 → Int32 → Int32 → gb_H → Option (Unit × gb_H)} {v6 v8 : Int32} :
    ∀ m j F (I1 : gb_FI) (J1 : gb_FJ) (kl1 : List Nat), j + m = ly.length → m < F → xBl I1 J1 o' n' kl1 → gb_fB o' I I1 J J1 →
      ∃ I2 J2 kl2, lpX0_spread_87 k76 F o op o' (nI pl) v6 (nI (2 * hi)) v8 (nI (2 * mi + ly.length)) (nI (2 * hi + lz.length)) (nI (2 * lo + jx)) (nI (2 * mi + j)) (gb_mk I1 J1) = k76 o op o' (nI pl) v6 (nI (2 * hi)) v8 (nI (2 * mi + ly.length)) (nI (2 * hi + lz.length)) (nI (2 * lo + jx + 1)) (gb_mk I2 J2) ∧ xBl I2 J2 o' n' kl2 ∧ gb_fB o' I I2 J J2 ∧ ∀ F, bP kl2 (gq J2 o') F = bP kl1 (gq J1 o') F + q4 (gq J o pl) (qL (ly.drop j) (fun ey => qL lz (fun ez => gC F ex ey ez))) := by
  have lzl := sz.2.1
  have lyl := sy.2.1
  intro m
  induction m with
  | zero =>
    intro j F I1 J1 kl1 hj hF h1 f1
    obtain ⟨F, rfl⟩ : ∃ f, F = f + 1 := ⟨F - 1, by omega⟩
    refine ⟨I1, J1, kl1, ?_, h1, f1, fun F => ?_⟩
    · rw [show lpX0_spread_87 k76 (F + 1) o op o' (nI pl) v6 (nI (2 * hi)) v8 (nI (2 * mi + ly.length)) (nI (2 * hi + lz.length)) (nI (2 * lo + jx)) (nI (2 * mi + j)) (gb_mk I1 J1) = fbX0_spread_87 k76 (fun v0 v2 v3 v4 v6 v7 v8 v9 v10 v11 v12 h => lpX0_spread_87 k76 F v0 v2 v3 v4 v6 v7 v8 v9 v10 v11 v12 h) o op o' (nI pl) v6 (nI (2 * hi)) v8 (nI (2 * mi + ly.length)) (nI (2 * hi + lz.length)) (nI (2 * lo + jx)) (nI (2 * mi + j)) (gb_mk I1 J1) from rfl]
      unfold fbX0_spread_87
      rw [if_pos (show nI (2 * mi + ly.length) ≤ nI (2 * mi + j) from nI_le (by omega) (by omega)), gb_lt_d, nI_1]
    · rw [List.drop_eq_nil_of_le (by omega)]
      show bP kl1 (gq J1 o') F = bP kl1 (gq J1 o') F + q4 (gq J o pl) qZ
      rw [q4_Z]
      grind
  | succ m ih =>
    intro j F I1 J1 kl1 hj hF h1 f1
    obtain ⟨F, rfl⟩ : ∃ f, F = f + 1 := ⟨F - 1, by omega⟩
    have jl : j < ly.length := by omega
    have gy' : ly[j]? = some (ly[j]) := List.getElem?_eq_getElem jl
    generalize ly[j] = ey at gy'
    obtain ⟨I2, J2, kl2, a1, a2, a3, a4⟩ := x_sp98 (k76 := k76) (k87 := fun v0 v2 v3 v4 v6 v7 v8 v9 v10 v11 v12 h => lpX0_spread_87 k76 F v0 v2 v3 v4 v6 v7 v8 v9 v10 v11 v12 h) (v6 := v6) (v7 := nI (2 * hi)) (v8 := v8) (v9 := nI (2 * mi + ly.length)) hB hB' hO hop hoo hpl sx sy sz hlo hmi hhi gx gy' bx by' bz (hkp ey (List.mem_of_getElem? gy')) lz.length 0 gb_FU I1 J1 kl1 (by omega) (show lz.length < 1000000 by omega) h1 f1
    obtain ⟨I3, J3, kl3, e1, e2, e3, e4⟩ := ih (j + 1) F I2 J2 kl2 (by omega) (by omega) a2 a3
    refine ⟨I3, J3, kl3, ?_, e2, e3, fun F => ?_⟩
    · rw [show lpX0_spread_87 k76 (F + 1) o op o' (nI pl) v6 (nI (2 * hi)) v8 (nI (2 * mi + ly.length)) (nI (2 * hi + lz.length)) (nI (2 * lo + jx)) (nI (2 * mi + j)) (gb_mk I1 J1) = fbX0_spread_87 k76 (fun v0 v2 v3 v4 v6 v7 v8 v9 v10 v11 v12 h => lpX0_spread_87 k76 F v0 v2 v3 v4 v6 v7 v8 v9 v10 v11 v12 h) o op o' (nI pl) v6 (nI (2 * hi)) v8 (nI (2 * mi + ly.length)) (nI (2 * hi + lz.length)) (nI (2 * lo + jx)) (nI (2 * mi + j)) (gb_mk I1 J1) from rfl]
      unfold fbX0_spread_87
      rw [if_neg (show ¬ nI (2 * mi + ly.length) ≤ nI (2 * mi + j) from nI_ge (by omega) (by omega))]
      rw [Nat.add_zero] at a1
      exact a1.trans e1
    · rw [e4 F, a4 F, gb_drop gy', List.drop_zero]
      show _ = _ + q4 (gq J o pl) (qA (qL lz (fun ez => gC F ex ey ez)) (qL (ly.drop (j + 1)) (fun ey => qL lz (fun ez => gC F ex ey ez))))
      rw [q4_A]
      grind
theorem x_sp76 (hB : gb_BM o n) (hB' : gb_BM o' n') (hO : gb_OP op) (hop : op + 5 < o') (hoo : o + 6 < o' ∨ o' + 6 < o) {pl lo mi hi : Nat} {lx ly lz : List gb_br} (hpl : pl < n)
    (sx : xOs I op lo lx) (sy : xOs I op mi ly) (sz : xOs I op hi lz) (hlo : lo < 17) (hmi : mi < 17) (hhi : hi < 17) (bx : gb_bk lx) (by' : gb_bk ly) (bz : gb_bk lz) (hkp : ∀ ex ∈ lx, ∀ ey ∈ ly, ∀ ez ∈ lz, gb_kp (gb_ky ex.2.2.2 ey.2.2.2 ez.2.2.2) < n') :
    ∀ m j F (I1 : gb_FI) (J1 : gb_FJ) (kl1 : List Nat), j + m = lx.length → m < F → xBl I1 J1 o' n' kl1 → gb_fB o' I I1 J J1 →
      ∃ I2 J2 kl2, lpX0_spread_76 F o op o' (nI pl) (nI (2 * mi)) (nI (2 * hi)) (nI (2 * lo + lx.length)) (nI (2 * mi + ly.length)) (nI (2 * hi + lz.length)) (nI (2 * lo + j)) (gb_mk I1 J1) = some ((), gb_mk I2 J2) ∧ xBl I2 J2 o' n' kl2 ∧ gb_fB o' I I2 J J2 ∧ ∀ F, bP kl2 (gq J2 o') F = bP kl1 (gq J1 o') F + q4 (gq J o pl) (qL (lx.drop j) (fun ex => qL ly (fun ey => qL lz (fun ez => gC F ex ey ez)))) := by
  have lzl := sz.2.1
  have lyl := sy.2.1
  have lxl := sx.2.1
  intro m
  induction m with
  | zero =>
    intro j F I1 J1 kl1 hj hF h1 f1
    obtain ⟨F, rfl⟩ : ∃ f, F = f + 1 := ⟨F - 1, by omega⟩
    refine ⟨I1, J1, kl1, ?_, h1, f1, fun F => ?_⟩
    · rw [show lpX0_spread_76 (F + 1) o op o' (nI pl) (nI (2 * mi)) (nI (2 * hi)) (nI (2 * lo + lx.length)) (nI (2 * mi + ly.length)) (nI (2 * hi + lz.length)) (nI (2 * lo + j)) (gb_mk I1 J1) = fbX0_spread_76 (fun v0 v2 v3 v4 v6 v7 v8 v9 v10 v11 h => lpX0_spread_76 F v0 v2 v3 v4 v6 v7 v8 v9 v10 v11 h) o op o' (nI pl) (nI (2 * mi)) (nI (2 * hi)) (nI (2 * lo + lx.length)) (nI (2 * mi + ly.length)) (nI (2 * hi + lz.length)) (nI (2 * lo + j)) (gb_mk I1 J1) from rfl]
      unfold fbX0_spread_76
      rw [if_pos (show nI (2 * lo + lx.length) ≤ nI (2 * lo + j) from nI_le (by omega) (by omega))]
    · rw [List.drop_eq_nil_of_le (by omega)]
      show bP kl1 (gq J1 o') F = bP kl1 (gq J1 o') F + q4 (gq J o pl) qZ
      rw [q4_Z]
      grind
  | succ m ih =>
    intro j F I1 J1 kl1 hj hF h1 f1
    obtain ⟨F, rfl⟩ : ∃ f, F = f + 1 := ⟨F - 1, by omega⟩
    have jl : j < lx.length := by omega
    have gx : lx[j]? = some (lx[j]) := List.getElem?_eq_getElem jl
    generalize lx[j] = ex at gx
    obtain ⟨I2, J2, kl2, a1, a2, a3, a4⟩ := x_sp87 (k76 := fun v0 v2 v3 v4 v6 v7 v8 v9 v10 v11 h => lpX0_spread_76 F v0 v2 v3 v4 v6 v7 v8 v9 v10 v11 h) (v6 := nI (2 * mi)) (v8 := nI (2 * lo + lx.length)) hB hB' hO hop hoo hpl sx sy sz hlo hmi hhi gx bx by' bz (hkp ex (List.mem_of_getElem? gx)) ly.length 0 gb_FU I1 J1 kl1 (by omega) (show ly.length < 1000000 by omega) h1 f1
    obtain ⟨I3, J3, kl3, e1, e2, e3, e4⟩ := ih (j + 1) F I2 J2 kl2 (by omega) (by omega) a2 a3
    refine ⟨I3, J3, kl3, ?_, e2, e3, fun F => ?_⟩
    · rw [show lpX0_spread_76 (F + 1) o op o' (nI pl) (nI (2 * mi)) (nI (2 * hi)) (nI (2 * lo + lx.length)) (nI (2 * mi + ly.length)) (nI (2 * hi + lz.length)) (nI (2 * lo + j)) (gb_mk I1 J1) = fbX0_spread_76 (fun v0 v2 v3 v4 v6 v7 v8 v9 v10 v11 h => lpX0_spread_76 F v0 v2 v3 v4 v6 v7 v8 v9 v10 v11 h) o op o' (nI pl) (nI (2 * mi)) (nI (2 * hi)) (nI (2 * lo + lx.length)) (nI (2 * mi + ly.length)) (nI (2 * hi + lz.length)) (nI (2 * lo + j)) (gb_mk I1 J1) from rfl]
      unfold fbX0_spread_76
      rw [if_neg (show ¬ nI (2 * lo + lx.length) ≤ nI (2 * lo + j) from nI_ge (by omega) (by omega))]
      rw [Nat.add_zero] at a1
      exact a1.trans e1
    · rw [e4 F, a4 F, gb_drop gx, List.drop_zero]
      show _ = _ + q4 (gq J o pl) (qA (qL ly (fun ey => qL lz (fun ez => gC F ex ey ez))) (qL (lx.drop (j + 1)) (fun ex => qL ly (fun ey => qL lz (fun ez => gC F ex ey ez)))))
      rw [q4_A]
      grind
/-- all branches of a product -/
def gG (tb : Nat → List gb_br) (F : Nat → gb_q) (k : Nat) : gb_q := qL (tb (k % 32)) (fun ex => qL (tb (k / 32 % 32)) (fun ey => qL (tb (k / 1024)) (fun ez => gC F ex ey ez)))
theorem x_spread {tb : Nat → List gb_br} (hB : gb_BM o n) (hB' : gb_BM o' n') (hO : gb_OP op) (hop : op + 5 < o') (hoo : o + 6 < o' ∨ o' + 6 < o) (hk : gb_sk k) (hpl : gb_kp k < n) (ht : ∀ s, s < 17 → xOs I op s (tb s) ∧ gb_bk (tb s)) (hkp : ∀ ex ∈ tb (k % 32), ∀ ey ∈ tb (k / 32 % 32), ∀ ez ∈ tb (k / 1024), gb_kp (gb_ky ex.2.2.2 ey.2.2.2 ez.2.2.2) < n') (h : xBl I J o' n' kl) :
    ∃ I2 J2 kl2, fnX0_spread o (nI k) op o' (gb_mk I J) = some ((), gb_mk I2 J2) ∧ xBl I2 J2 o' n' kl2 ∧ gb_fB o' I I2 J J2 ∧ ∀ F, bP kl2 (gq J2 o') F = bP kl (gq J o') F + q4 (gq J o (gb_kp k)) (gG tb F k) := by
  obtain ⟨b1, b2, b3, b4, b5⟩ := gb_sk_b hk
  obtain ⟨sx, bx⟩ := ht _ b1
  obtain ⟨sy, by'⟩ := ht _ b2
  obtain ⟨sz, bz⟩ := ht _ b3
  obtain ⟨I2, J2, kl2, a1, a2, a3, a4⟩ := x_sp76 hB hB' hO hop hoo hpl sx sy sz b1 b2 b3 bx by' bz hkp (tb (k % 32)).length 0 gb_FU I J kl (by omega) (show (tb (k % 32)).length < 1000000 from Nat.lt_of_le_of_lt sx.2.1 (by decide)) h gb_fB.r
  refine ⟨I2, J2, kl2, ?_, a2, a3, fun F => by rw [a4 F, List.drop_zero]; rfl⟩
  have k0 : ∀ (I : gb_FI) (J : gb_FJ), gb_k (gb_mk I J) op 4 = true := fun I J => (hO I J).1
  have r0 : ∀ (I : gb_FI) (J : gb_FJ), gb_R (gb_mk I J) op 0 = some (op + 1) := fun I J => (hO I J).2.1
  have d1 : ∀ (I : gb_FI) (J : gb_FJ), gb_kd (gb_mk I J) (op + 1) = (20, 17) := fun I J => (hO I J).2.2.2.2.2.2.1
  have k1 : ∀ (I : gb_FI) (J : gb_FJ), gb_k (gb_mk I J) (op + 1) 20 = true := fun I J => by simp [gb_k, d1]
  have i1 : ∀ s, s < 17 → ∀ (I : gb_FI) (J : gb_FJ), gb_in (gb_mk I J) (op + 1) (nI s) = true := fun s hs I J => gb_in_k (by rw [d1]) hs (by omega)
  have e2 : ∀ x, (2 : Int32) * nI x = nI (2 * x) := fun x => gb_nI_mul 2 x
  unfold fnX0_spread
  simp (disch := omega) only [gb_lt_d, gb_gd_t, gb_rd_s, gb_bd_s, gb_I_mk, gb_L_mk, gb_sI_mk, gb_sL_mk, x_place hk, x_low hk, x_mid hk, x_high hk, e2, k0, r0, k1, i1, nI_clamp, sx.1, sy.1, sz.1, nI_add]
  exact a1
theorem x_idle {b : Nat} (hk : gb_sk k) (hb : b < 1000) (h : gb_H) : fnX0_idleFactor (nI k) (nI b) h = some ((if k % 32 = 0 then 1 else lN b) * (if k / 32 % 32 = 0 then 1 else lN b) * (if k / 1024 = 0 then 1 else lN b), h) := by
  obtain ⟨b1, b2, b3, b4, b5⟩ := gb_sk_b hk
  have z : ∀ x, x < 17 → (nI x = 0 ↔ x = 0) := fun x hx => nI_eq (b := 0) (by omega) (by omega)
  have lb : (nI b).toInt64 = lN b := nI_L (by omega)
  have one : ∀ x : Int64, x * 1 = x := fun x => by grind
  unfold fnX0_idleFactor fbX0_idleFactor_13 fbX0_idleFactor_28 fbX0_idleFactor_45
  simp only [x_low hk, x_mid hk, x_high hk, gb_bd_s, gb_lt_d, z _ b1, z _ b2, z _ b3, lb]
  split <;> split <;> split <;> first | rfl | (rw [one]; done) | (rw [one, one])
/-- whether a part acts on a product -/
def gb_ac (p : gb_P) (k : Nat) : Bool := decide (p.2.2.2.2.2.2.1 = 5 ∨ gb_gi k (p.2.2.2.2.2.2.1 + 1) = p.2.2.2.2.2.2.2.1)
theorem gb_gi_b (k t : Nat) : gb_gi k t ≤ 3 := by unfold gb_gi; split <;> split <;> split <;> omega
theorem x_actsOn {q : Nat} {p : gb_P} (hq : ∀ (I : gb_FI) (J : gb_FJ), gb_k (gb_mk I J) q 5 = true) (hp : xP (I q) p) (ok : gb_pOK p) (hk : gb_sk k) : fnX5_actsOn q (nI k) (gb_mk I J) = some (if gb_ac p k = true then 1 else 0, gb_mk I J) := by
  obtain ⟨f0, f1, f2, f3, f4, f5, f6, f7, f8⟩ := hp
  have w5 := ok.2.2.2.2.2.2.1
  have w3 := ok.2.2.2.2.2.2.2.1
  have ac : gb_ac p k = true ↔ (p.2.2.2.2.2.2.1 = 5 ∨ gb_gi k (p.2.2.2.2.2.2.1 + 1) = p.2.2.2.2.2.2.2.1) := by simp [gb_ac]
  simp only [fnX5_actsOn, fbX5_actsOn_25, fbX5_actsOn_30, gb_lt_d, gb_gd_t, gb_rd_s, gb_bd_s, gb_I_mk, gb_L_mk, gb_sI_mk, gb_sL_mk, hq, f6, f7]
  by_cases e : p.2.2.2.2.2.2.1 = 5
  · rw [show gb_m1 5 p.2.2.2.2.2.2.1 = -1 from if_pos e, if_pos (show (-1 : Int32) = -1 from rfl), if_pos (ac.mpr (Or.inl e))]
    rfl
  · rw [show gb_m1 5 p.2.2.2.2.2.2.1 = nI p.2.2.2.2.2.2.1 from if_neg e, if_neg (gb_nmi _ (by omega)), nI_1, x_grainsIn hk (by omega), gb_bd_s]
    have gb := gb_gi_b k (p.2.2.2.2.2.2.1 + 1)
    simp only [gb_lt_d, gb_gd_t, gb_rd_s, gb_bd_s, gb_I_mk, gb_L_mk, gb_sI_mk, gb_sL_mk, hq, f7]
    by_cases e2 : gb_gi k (p.2.2.2.2.2.2.1 + 1) = p.2.2.2.2.2.2.2.1
    · rw [if_pos (show nI _ = nI _ by rw [e2]), if_pos (ac.mpr (Or.inr e2))]
      rfl
    · rw [if_neg (fun w => e2 ((nI_eq (by omega) (by omega)).mp w)), if_neg (fun w => by rcases ac.mp w with y | y; exact e y; exact e2 y)]
      rfl
end SPREAD2
