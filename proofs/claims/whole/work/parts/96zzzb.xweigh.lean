section XWEIGH
variable {S : gb_S} {I I' I1 I2 : gb_FI} {J J' J1 J2 : gb_FJ} {gs : List Nat} {sh : List gb_P} {ps qs : List gb_P} {pl n g k m q o N : Nat} {r b pre : List Nat} {kl : List Nat}
/-- the class's share of a row of counts -/
theorem x_shareRow (hB : gb_BM o N) (h : xBl I J o N kl) {W0 : Int32} (hW0 : ∀ k, nI (gb_rw k) = W0 ↔ gpk k = pl) (w : Int64) {t : Nat} (ht : ∀ I J, gb_k (gb_mk I J) t 8 = true) : fnX0_shareOfRow o W0 w t (gb_mk I J) = gb_bd (fnX8_put t (bS kl (fun k => if decide (gpk k = pl) = true then wU (gq J o) k else 0)) (bS kl (fun k => if decide (gpk k = pl) = true then wV (gq J o) k else 0)) w (gb_mk I J)) (fun _ h5 => some ((), h5)) := by
  have hlen := h.len
  have hn := hB.1
  have hO := hB.2
  obtain ⟨a1, a2, a3, a4⟩ := id h
  have k0 : ∀ (I : gb_FI) (J : gb_FJ), gb_k (gb_mk I J) o 0 = true := fun I J => (hO I J).1
  have r0 : ∀ (I : gb_FI) (J : gb_FJ), gb_R (gb_mk I J) o 0 = some (o + 1) := fun I J => (hO I J).2.1
  have d1 : ∀ (I : gb_FI) (J : gb_FJ), gb_kd (gb_mk I J) (o + 1) = (20, N) := fun I J => (hO I J).2.2.2.2.2.2.2.1
  have kk1 : ∀ (I : gb_FI) (J : gb_FJ), gb_k (gb_mk I J) (o + 1) 20 = true := fun I J => by simp [gb_k, d1]
  unfold fnX0_shareOfRow lpX0_shareOfRow_9
  refine gb_forF (fun i => (o, W0, w, t, bS (kl.take i) (fun k => if decide (gpk k = pl) = true then wU (gq J o) k else 0), bS (kl.take i) (fun k => if decide (gpk k = pl) = true then wV (gq J o) k else 0), nI i, gb_mk I J)) kl.length (by omega) ?_ ?_
  · intro i hi c
    obtain ⟨key, hkey⟩ : ∃ key, kl[i]? = some key := ⟨kl[i], List.getElem?_eq_getElem hi⟩
    obtain ⟨e1, e2, e3, e4⟩ := a2 i key hkey
    have i1 : gb_in (gb_mk I J) (o + 1) (nI i) = true := gb_in_k (by rw [d1]) (by omega) (by omega)
    have tk : kl.take (i + 1) = kl.take i ++ [key] := by rw [List.take_add_one, hkey]; rfl
    simp only [fbX0_shareOfRow_9, fbX0_shareOfRow_64]
    rw [k0, gb_gd_t, gb_I_mk, a1, if_neg (nI_ge hi (by omega)), gb_gd_t, r0, gb_rd_s, kk1, gb_gd_t, i1, gb_gd_t, nI_clamp (by omega), e1, x_rowOfKey e2, gb_bd_s, tk, bS_app, bS_app]
    by_cases c1 : gpk key = pl
    · rw [if_pos ((hW0 key).mpr c1), if_pos (decide_eq_true c1), if_pos (decide_eq_true c1), k0, gb_gd_t, r0, gb_rd_s, kk1, gb_gd_t, i1, gb_gd_t, gb_gd_t, gb_I_mk, e1, x_wU hB e2 e3, gb_bd_s, gb_lt_d, k0, gb_gd_t, r0, gb_rd_s, kk1, gb_gd_t, i1, gb_gd_t, gb_gd_t, gb_I_mk, e1, x_wV hB e2 e3, gb_bd_s, gb_lt_d, gb_lt_d, nI_1]
      rfl
    · rw [if_neg (fun z => c1 ((hW0 key).mp z)), if_neg (fun z => c1 (of_decide_eq_true z)), if_neg (fun z => c1 (of_decide_eq_true z)), gb_lt_d, nI_1, Int64.add_zero, Int64.add_zero]
  · intro c
    simp only [fbX0_shareOfRow_9]
    rw [k0, gb_gd_t, gb_I_mk, a1, if_pos (nI_le (Nat.le_refl _) (by omega)), ht, gb_gd_t, List.take_length]
/-- a beam that holds a row's light -/
def gBm (gs : List Nat) (ps : List gb_P) (o : Nat) (I : gb_FI) (J : gb_FJ) : Prop := ∃ kl, xBl I J o 286 kl ∧ ∀ F, bP kl (gq J o) F = (gb_ops ps F (gb_k0 gs)).1
theorem x_shareP (hgs : ∀ m ∈ gs, m < 10) (g3 : gs.length ≤ 3) (hw : gb_wl 0 0 ps) (hd : zD gs.length ps ≤ 300000) (hB : gb_BM o 286) (hm : gBm gs ps o I J) {W0 : Int32} (hW0 : ∀ k, nI (gb_rw k) = W0 ↔ gpk k = pl) {t : Nat} (ht : ∀ I J, gb_k (gb_mk I J) t 8 = true) : fnX0_shareOfRow o W0 (lN (gWz gs ps)) t (gb_mk I J) = some ((), gb_mk I (gsh J t (guP gs pl ps) (gvP gs pl ps) (gWz gs ps))) := by
  obtain ⟨kl, h, hF⟩ := hm
  obtain ⟨q1, q2, q3, q4, q5, q6⟩ := gtR (pl := pl) hgs g3 hw hd
  obtain ⟨y1, y2⟩ := h.sumU hF g3 hw (by decide) (gb_k0_ad hgs g3) (fun k => decide (gpk k = pl))
  rw [x_shareRow hB h hW0 _ ht, y1, y2]
  show gb_bd (fnX8_put t (iL (guP gs pl ps)) (iL (gvP gs pl ps)) (lN (gWz gs ps)) (gb_mk I J)) _ = _
  rw [x_put ht (by omega) (by omega) (by omega) q1, gb_bd_s]
  rfl
/-- two shares against each other: the sign of the difference of their values -/
theorem gcmp {C W W' : Nat} {u v u' v' : Int} {q p : Nat} (w0 : 0 < W) (w0' : 0 < W') (hC : W ∣ C) (hC' : W' ∣ C) (c0 : 0 < C) :
    ∃ L : Nat, 0 < L ∧ (L : Int) * (u.tdiv (gb_g3 u v W) * ((W' / gb_g3 u' v' W') / Nat.gcd (W / gb_g3 u v W) (W' / gb_g3 u' v' W') : Nat) - u'.tdiv (gb_g3 u' v' W') * ((W / gb_g3 u v W) / Nat.gcd (W / gb_g3 u v W) (W' / gb_g3 u' v' W') : Nat)) = ((C / W : Nat) : Int) * u - ((C / W' : Nat) : Int) * u' ∧ (L : Int) * (v.tdiv (gb_g3 u v W) * ((W' / gb_g3 u' v' W') / Nat.gcd (W / gb_g3 u v W) (W' / gb_g3 u' v' W') : Nat) - v'.tdiv (gb_g3 u' v' W') * ((W / gb_g3 u v W) / Nat.gcd (W / gb_g3 u v W) (W' / gb_g3 u' v' W') : Nat)) = ((C / W : Nat) : Int) * v - ((C / W' : Nat) : Int) * v' := by
  obtain ⟨x1, x2⟩ := gcm_u (u := u) (v := v) w0 hC
  obtain ⟨y1, y2⟩ := gcm_u (u := u') (v := v') w0' hC'
  have dw : W / gb_g3 u v W ∣ C := Nat.dvd_trans (Nat.div_dvd_of_dvd gb_g3_u.2.2) hC
  have dw' : W' / gb_g3 u' v' W' ∣ C := Nat.dvd_trans (Nat.div_dvd_of_dvd gb_g3_u.2.2) hC'
  have wp : 0 < W / gb_g3 u v W := Nat.div_pos (gb_g3_le w0) (gb_g3_pos w0)
  have wp' : 0 < W' / gb_g3 u' v' W' := Nat.div_pos (gb_g3_le w0') (gb_g3_pos w0')
  rw [← x1, ← x2, ← y1, ← y2]
  generalize W / gb_g3 u v W = w at *
  generalize W' / gb_g3 u' v' W' = w' at *
  generalize u.tdiv (gb_g3 u v W) = a at *
  generalize v.tdiv (gb_g3 u v W) = b at *
  generalize u'.tdiv (gb_g3 u' v' W') = a' at *
  generalize v'.tdiv (gb_g3 u' v' W') = b' at *
  have gp : 0 < Nat.gcd w w' := Nat.gcd_pos_of_pos_left _ wp
  obtain ⟨s, hs⟩ := Nat.gcd_dvd_left w w'
  obtain ⟨t, ht⟩ := Nat.gcd_dvd_right w w'
  have es : w / Nat.gcd w w' = s := by
    have := Nat.mul_div_cancel_left s gp
    rw [← hs] at this; exact this
  have et : w' / Nat.gcd w w' = t := by
    have := Nat.mul_div_cancel_left t gp
    rw [← ht] at this; exact this
  have lc : Nat.lcm w w' ∣ C := Nat.lcm_dvd dw dw'
  have el : Nat.lcm w w' = w * t := by
    unfold Nat.lcm
    rw [Nat.mul_div_assoc _ (Nat.gcd_dvd_right w w'), et]
  have el' : Nat.lcm w w' = w' * s := by
    rw [Nat.lcm_comm]
    unfold Nat.lcm
    rw [Nat.gcd_comm, Nat.mul_div_assoc _ (Nat.gcd_dvd_left w w'), es]
  obtain ⟨L, hL⟩ := lc
  have c1 : C / w = t * L := by rw [hL, el, Nat.mul_assoc, Nat.mul_div_cancel_left _ wp]
  have c2 : C / w' = s * L := by rw [hL, el', Nat.mul_assoc, Nat.mul_div_cancel_left _ wp']
  refine ⟨L, Nat.pos_of_ne_zero (fun z => by rw [z, Nat.mul_zero] at hL; omega), ?_, ?_⟩
  · rw [es, et, c1, c2, Int.natCast_mul, Int.natCast_mul, Int.mul_sub]
    congr 1
    · rw [Int.mul_comm a, ← Int.mul_assoc, Int.mul_comm (L : Int)]
    · rw [Int.mul_comm a', ← Int.mul_assoc, Int.mul_comm (L : Int)]
  · rw [es, et, c1, c2, Int.natCast_mul, Int.natCast_mul, Int.mul_sub]
    congr 1
    · rw [Int.mul_comm b, ← Int.mul_assoc, Int.mul_comm (L : Int)]
    · rw [Int.mul_comm b', ← Int.mul_assoc, Int.mul_comm (L : Int)]
/-- the best row so far, as the class holds it -/
def gBsC (gs : List Nat) (sh : List gb_P) (pl : Nat) (o : Option (List Nat)) (I : gb_FI) (J : gb_FJ) : Prop := match o with
  | none => I 139 7 = -1
  | some b => b.length ≤ 3 ∧ (∀ x ∈ b, x < sh.length) ∧ zD gs.length (gpt sh b) ≤ 300000 ∧ I 139 7 = nI b.length ∧ (∀ i j, b[i]? = some j → I 145 i = nI j) ∧ J 146 0 = iL ((guP gs pl (gpt sh b)).tdiv (gGP gs pl (gpt sh b))) ∧ J 146 1 = iL ((gvP gs pl (gpt sh b)).tdiv (gGP gs pl (gpt sh b))) ∧ J 146 2 = lN (gWz gs (gpt sh b) / gGP gs pl (gpt sh b))
def gstC (gs : List Nat) (sh : List gb_P) (pl : Nat) (o : Option (List Nat)) (r : List Nat) : Option (List Nat) := some (match o with | none => r | some b => stepC (gvr gs sh pl) b r)
theorem x_wg98 (hm : m ≤ 3) : ∀ k i F (I1 : gb_FI), i + k = m → k < F → (∀ x, x ≠ 145 → I1 x = I x) → (∀ j, j < i → I1 145 j = I 143 j) → ∃ I2, lpX6_weigh_98 F 139 (nI m) (nI i) (gb_mk I1 J) = some ((), gb_mk I2 J) ∧ (∀ x, x ≠ 145 → I2 x = I x) ∧ ∀ j, j < m → I2 145 j = I 143 j := by
  intro k
  induction k with
  | zero =>
    intro i F I1 hi hF h1 h2
    obtain ⟨F, rfl⟩ : ∃ f, F = f + 1 := ⟨F - 1, by omega⟩
    refine ⟨I1, ?_, h1, fun j hj => h2 j (by omega)⟩
    rw [show lpX6_weigh_98 (F + 1) 139 (nI m) (nI i) (gb_mk I1 J) = fbX6_weigh_98 (fun v0 v1 v7 h => lpX6_weigh_98 F v0 v1 v7 h) 139 (nI m) (nI i) (gb_mk I1 J) from rfl]
    unfold fbX6_weigh_98
    rw [if_pos (nI_le (by omega) (by omega))]
    rfl
  | succ k ih =>
    intro i F I1 hi hF h1 h2
    obtain ⟨F, rfl⟩ : ∃ f, F = f + 1 := ⟨F - 1, by omega⟩
    rw [show lpX6_weigh_98 (F + 1) 139 (nI m) (nI i) (gb_mk I1 J) = fbX6_weigh_98 (fun v0 v1 v7 h => lpX6_weigh_98 F v0 v1 v7 h) 139 (nI m) (nI i) (gb_mk I1 J) from rfl]
    unfold fbX6_weigh_98
    rw [if_neg (nI_ge (by omega) (by omega)), gk139, gb_gd_t, gr139_6, gb_rd_s, gb_gd_t, gr139_4, gb_rd_s, gk143, gb_gd_t, gi143 (by omega), gb_gd_t, gk145, gb_gd_t, gi145 (by omega), gb_gd_t, gb_lt_d, gb_sI_mk, gb_lt_d, nI_1, nI_clamp (by omega), gb_I_mk, h1 143 (by decide)]
    refine ih (i + 1) F _ (by omega) (by omega) (fun x hx => by rw [gb_u_row _ _ hx]; exact h1 x hx) (fun j hj => ?_)
    by_cases e : j = i
    · rw [e, gb_u_s]
    · rw [gb_u_nk _ _ e]; exact h2 j (by omega)
end XWEIGH
