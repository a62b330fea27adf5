section SPREAD
variable {I I' I1 I2 : gb_FI} {J J' J1 J2 : gb_FJ} {o n op o' n' k : Nat} {kl : List Nat}
def qL {α : Type} : List α → (α → gb_q) → gb_q
  | [], _ => qZ
  | a :: l, f => qA (f a) (qL l f)
/-- three branches taken -/
def gC (F : Nat → gb_q) (ex ey ez : gb_br) : gb_q := qM (lN (ex.1 * ey.1 * ez.1)) (ex.2.1 + ey.2.1 + ez.2.1) (ex.2.2.1 + ey.2.2.1 + ez.2.2.1) (F (gb_ky ex.2.2.2 ey.2.2.2 ez.2.2.2))
def gb_bk (l : List gb_br) : Prop := ∀ e ∈ l, e.1 ≤ 5 ∧ e.2.1 ≤ 1 ∧ e.2.2.1 ≤ 3 ∧ e.2.2.2 < 17
theorem gb_drop {α : Type} {l : List α} {j : Nat} {a : α} (h : l[j]? = some a) : l.drop j = a :: l.drop (j + 1) := by
  have hj : j < l.length := (List.getElem?_eq_some_iff.mp h).1
  rw [List.drop_eq_getElem_cons hj]
  have : l[j] = a := (List.getElem?_eq_some_iff.mp h).2
  rw [this]
theorem x_sp98 (hB : gb_BM o n) (hB' : gb_BM o' n') (hO : gb_OP op) (hop : op + 5 < o') (hoo : o + 6 < o' ∨ o' + 6 < o) {pl lo mi hi jx jy : Nat} {lx ly lz : List gb_br} {ex ey : gb_br} (hpl : pl < n)
    (sx : xOs I op lo lx) (sy : xOs I op mi ly) (sz : xOs I op hi lz) (hlo : lo < 17) (hmi : mi < 17) (hhi : hi < 17) (gx : lx[jx]? = some ex) (gy' : ly[jy]? = some ey) (bx : gb_bk lx) (by' : gb_bk ly) (bz : gb_bk lz) (hkp : ∀ ez ∈ lz, gb_kp (gb_ky ex.2.2.2 ey.2.2.2 ez.2.2.2) < n')
    {k76 : Nat → Nat → Nat → Int32 → Int32 → Int32 → Int32 → Int32 → Int32 → Int32 → gb_H → Option (Unit × gb_H)} {k87 : Nat → Nat → Nat → Int32 → Int32 → Int32 → Int32 → Int32 → Int32 → Int32 → Int32 → gb_H → Option (Unit × gb_H)} {v6 v7 v8 v9 : Int32} :
    ∀ m j F (I1 : gb_FI) (J1 : gb_FJ) (kl1 : List Nat), j + m = lz.length → m < F → xBl I1 J1 o' n' kl1 → gb_fB o' I I1 J J1 →
      ∃ I2 J2 kl2, lpX0_spread_98 k76 k87 F o op o' (nI pl) v6 v7 v8 v9 (nI (2 * hi + lz.length)) (nI (2 * lo + jx)) (nI (2 * mi + jy)) (nI (2 * hi + j)) (gb_mk I1 J1) = k87 o op o' (nI pl) v6 v7 v8 v9 (nI (2 * hi + lz.length)) (nI (2 * lo + jx)) (nI (2 * mi + jy + 1)) (gb_mk I2 J2) ∧ xBl I2 J2 o' n' kl2 ∧ gb_fB o' I I2 J J2 ∧ ∀ F, bP kl2 (gq J2 o') F = bP kl1 (gq J1 o') F + q4 (gq J o pl) (qL (lz.drop j) (fun ez => gC F ex ey ez)) := by
  have lzl := sz.2.1
  have jxl : jx < lx.length := (List.getElem?_eq_some_iff.mp gx).1
  have jyl : jy < ly.length := (List.getElem?_eq_some_iff.mp gy').1
  have lxl := sx.2.1
  have lyl := sy.2.1
  obtain ⟨bx1, bx2, bx3, bx4⟩ := bx ex (List.mem_of_getElem? gx)
  obtain ⟨by1, by2, by3, by4⟩ := by' ey (List.mem_of_getElem? gy')
  obtain ⟨ox1, ox2, ox3, ox4⟩ := sx.2.2 jx ex gx
  obtain ⟨oy1, oy2, oy3, oy4⟩ := sy.2.2 jy ey gy'
  have k0' : ∀ (I : gb_FI) (J : gb_FJ), gb_k (gb_mk I J) o' 0 = true := fun I J => (hB'.2 I J).1
  have k0 : ∀ (I : gb_FI) (J : gb_FJ), gb_k (gb_mk I J) op 4 = true := fun I J => (hO I J).1
  have r1 : ∀ (I : gb_FI) (J : gb_FJ), gb_R (gb_mk I J) op 1 = some (op + 2) := fun I J => (hO I J).2.2.1
  have r2 : ∀ (I : gb_FI) (J : gb_FJ), gb_R (gb_mk I J) op 2 = some (op + 3) := fun I J => (hO I J).2.2.2.1
  have r3 : ∀ (I : gb_FI) (J : gb_FJ), gb_R (gb_mk I J) op 3 = some (op + 4) := fun I J => (hO I J).2.2.2.2.1
  have r4 : ∀ (I : gb_FI) (J : gb_FJ), gb_R (gb_mk I J) op 4 = some (op + 5) := fun I J => (hO I J).2.2.2.2.2.1
  have d2 : ∀ (I : gb_FI) (J : gb_FJ), gb_kd (gb_mk I J) (op + 2) = (20, 34) := fun I J => (hO I J).2.2.2.2.2.2.2.1
  have d3 : ∀ (I : gb_FI) (J : gb_FJ), gb_kd (gb_mk I J) (op + 3) = (20, 34) := fun I J => (hO I J).2.2.2.2.2.2.2.2.1
  have d4 : ∀ (I : gb_FI) (J : gb_FJ), gb_kd (gb_mk I J) (op + 4) = (20, 34) := fun I J => (hO I J).2.2.2.2.2.2.2.2.2.1
  have d5 : ∀ (I : gb_FI) (J : gb_FJ), gb_kd (gb_mk I J) (op + 5) = (20, 34) := fun I J => (hO I J).2.2.2.2.2.2.2.2.2.2
  have kk2 : ∀ (I : gb_FI) (J : gb_FJ), gb_k (gb_mk I J) (op + 2) 20 = true := fun I J => by simp [gb_k, d2]
  have kk3 : ∀ (I : gb_FI) (J : gb_FJ), gb_k (gb_mk I J) (op + 3) 20 = true := fun I J => by simp [gb_k, d3]
  have kk4 : ∀ (I : gb_FI) (J : gb_FJ), gb_k (gb_mk I J) (op + 4) 20 = true := fun I J => by simp [gb_k, d4]
  have kk5 : ∀ (I : gb_FI) (J : gb_FJ), gb_k (gb_mk I J) (op + 5) 20 = true := fun I J => by simp [gb_k, d5]
  have i2 : ∀ x, x < 34 → ∀ (I : gb_FI) (J : gb_FJ), gb_in (gb_mk I J) (op + 2) (nI x) = true := fun x hx I J => gb_in_k (by rw [d2]) hx (by omega)
  have i3 : ∀ x, x < 34 → ∀ (I : gb_FI) (J : gb_FJ), gb_in (gb_mk I J) (op + 3) (nI x) = true := fun x hx I J => gb_in_k (by rw [d3]) hx (by omega)
  have i4 : ∀ x, x < 34 → ∀ (I : gb_FI) (J : gb_FJ), gb_in (gb_mk I J) (op + 4) (nI x) = true := fun x hx I J => gb_in_k (by rw [d4]) hx (by omega)
  have i5 : ∀ x, x < 34 → ∀ (I : gb_FI) (J : gb_FJ), gb_in (gb_mk I J) (op + 5) (nI x) = true := fun x hx I J => gb_in_k (by rw [d5]) hx (by omega)
  intro m
  induction m with
  | zero =>
    intro j F I1 J1 kl1 hj hF h1 f1
    obtain ⟨F, rfl⟩ : ∃ f, F = f + 1 := ⟨F - 1, by omega⟩
    refine ⟨I1, J1, kl1, ?_, h1, f1, fun F => ?_⟩
    · rw [show lpX0_spread_98 k76 k87 (F + 1) o op o' (nI pl) v6 v7 v8 v9 (nI (2 * hi + lz.length)) (nI (2 * lo + jx)) (nI (2 * mi + jy)) (nI (2 * hi + j)) (gb_mk I1 J1) = fbX0_spread_98 k76 k87 (fun v0 v2 v3 v4 v6 v7 v8 v9 v10 v11 v12 v13 h => lpX0_spread_98 k76 k87 F v0 v2 v3 v4 v6 v7 v8 v9 v10 v11 v12 v13 h) o op o' (nI pl) v6 v7 v8 v9 (nI (2 * hi + lz.length)) (nI (2 * lo + jx)) (nI (2 * mi + jy)) (nI (2 * hi + j)) (gb_mk I1 J1) from rfl]
      unfold fbX0_spread_98
      rw [if_pos (show nI (2 * hi + lz.length) ≤ nI (2 * hi + j) from nI_le (by omega) (by omega)), gb_lt_d, nI_1]
    · rw [List.drop_eq_nil_of_le (by omega)]
      show bP kl1 (gq J1 o') F = bP kl1 (gq J1 o') F + q4 (gq J o pl) qZ
      rw [q4_Z]
      grind
  | succ m ih =>
    intro j F I1 J1 kl1 hj hF h1 f1
    obtain ⟨F, rfl⟩ : ∃ f, F = f + 1 := ⟨F - 1, by omega⟩
    have jl : j < lz.length := by omega
    have gz : lz[j]? = some (lz[j]) := List.getElem?_eq_getElem jl
    generalize lz[j] = ez at gz
    have mz := List.mem_of_getElem? gz
    obtain ⟨bz1, bz2, bz3, bz4⟩ := bz ez mz
    obtain ⟨oz1, oz2, oz3, oz4⟩ := sz.2.2 j ez gz
    have q2 : ∀ y, y ≤ op + 5 → I1 y = I y := fun y hy => (f1 y (by omega)).1
    have hky := (gb_ky_s bx4 by4 bz4).1
    have kpn := hkp ez mz
    have ff : nI ex.1 * nI ey.1 * nI ez.1 = nI (ex.1 * ey.1 * ez.1) := by rw [gb_nI_mul, gb_nI_mul]
    have fb : ex.1 * ey.1 * ez.1 ≤ 125 := by
      have a : ex.1 * ey.1 ≤ 5 * 5 := Nat.mul_le_mul bx1 by1
      exact Nat.le_trans (Nat.mul_le_mul a bz1) (by decide)
    have sc := x_addScaled (I := I1) (J := J1) (k := gb_ky ex.2.2.2 ey.2.2.2 ez.2.2.2) (r := ex.2.1 + ey.2.1 + ez.2.1) (t := ex.2.2.1 + ey.2.2.1 + ez.2.2.1) hB hB' hky hpl (by omega) (by omega) (lN (ex.1 * ey.1 * ez.1))
    obtain ⟨I2, J2, kl2, a1, a2, a3, a4⟩ := x_add (k := gb_ky ex.2.2.2 ey.2.2.2 ez.2.2.2) hB' h1 hky kpn (gy (gq J1 o pl) (lN (ex.1 * ey.1 * ez.1)) (ex.2.1 + ey.2.1 + ez.2.1) (ex.2.2.1 + ey.2.2.1 + ez.2.2.1))
    obtain ⟨I3, J3, kl3, e1, e2, e3, e4⟩ := ih (j + 1) F I2 J2 kl2 (by omega) (by omega) a2 (f1.t a3)
    have gJ : gq J1 o pl = gq J o pl := by
      unfold gq
      rw [(f1 (o + 3) (by omega)).2, (f1 (o + 4) (by omega)).2, (f1 (o + 5) (by omega)).2, (f1 (o + 6) (by omega)).2]
    refine ⟨I3, J3, kl3, ?_, e2, e3, fun F => ?_⟩
    · rw [show lpX0_spread_98 k76 k87 (F + 1) o op o' (nI pl) v6 v7 v8 v9 (nI (2 * hi + lz.length)) (nI (2 * lo + jx)) (nI (2 * mi + jy)) (nI (2 * hi + j)) (gb_mk I1 J1) = fbX0_spread_98 k76 k87 (fun v0 v2 v3 v4 v6 v7 v8 v9 v10 v11 v12 v13 h => lpX0_spread_98 k76 k87 F v0 v2 v3 v4 v6 v7 v8 v9 v10 v11 v12 v13 h) o op o' (nI pl) v6 v7 v8 v9 (nI (2 * hi + lz.length)) (nI (2 * lo + jx)) (nI (2 * mi + jy)) (nI (2 * hi + j)) (gb_mk I1 J1) from rfl]
      unfold fbX0_spread_98
      rw [if_neg (show ¬ nI (2 * hi + lz.length) ≤ nI (2 * hi + j) from nI_ge (by omega) (by omega))]
      simp (disch := omega) only [gb_lt_d, gb_gd_t, gb_rd_s, gb_bd_s, gb_I_mk, gb_L_mk, gb_sI_mk, gb_sL_mk, k0, r1, r2, r3, r4, kk2, kk3, kk4, kk5, i2, i3, i4, i5, nI_clamp, q2 (op + 2) (by omega), q2 (op + 3) (by omega), q2 (op + 4) (by omega), q2 (op + 5) (by omega), ox1, oy1, oz1, x_keyOf bx4 by4 bz4, ox2, oy2, oz2, ox3, oy3, oz3, ox4, oy4, oz4, ff, nI_add, nI_L, k0', sc, a1, nI_1]
      exact e1
    · rw [e4 F, a4 F, gb_drop gz]
      show _ = _ + q4 (gq J o pl) (qA (gC F ex ey ez) (qL (lz.drop (j + 1)) (fun ez => gC F ex ey ez)))
      rw [q4_A, gy_F _ _ _ (by omega), gJ]
      unfold gC
      grind
end SPREAD
