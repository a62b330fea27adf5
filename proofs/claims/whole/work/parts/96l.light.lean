section LIGHT2
variable {I I' I1 I2 : gb_FI} {J J' J1 J2 : gb_FJ} {b : Nat} {kl : List Nat} {p : gb_P} {ps : List gb_P}
theorem x_light19 (hb : b < 4) (hl : ps.length ≤ 16) (h1 : I (24 + 23 * b) 1 = nI ps.length) (hp : ∀ i p, ps[i]? = some p → gb_pOK p ∧ xP (I (26 + 23 * b + i)) p) (hne : ∀ p ∈ ps, (p.1 = 0 ∨ p.1 = 3) → p.2.2.1 ≠ p.2.1) :
    ∀ m j F o o' (I1 : gb_FI) (J1 : gb_FJ) (kl1 : List Nat), j + m = ps.length → m < F → gb_2b o o' → xBl I1 J1 o 969 kl1 → (∃ kl1', xBl I1 J1 o' 969 kl1') → gb_fLi I I1 J J1 →
      ∃ o2 o2' I2 J2, ∃ kl2 : List Nat, lpX10_lightThrough_19 F 0 (24 + 23 * b) o o' (nI j) (gb_mk I1 J1) = some (o2, gb_mk I2 J2) ∧ gb_2b o2 o2' ∧ xBl I2 J2 o2 969 kl2 ∧ (∃ kl2', xBl I2 J2 o2' 969 kl2') ∧ gb_fLi I I2 J J2 ∧ ∀ F, bP kl2 (gq J2 o2) F = bP kl1 (gq J1 o) (gb_ops (ps.drop j) F) := by
  intro m
  induction m with
  | zero =>
    intro j F o o' I1 J1 kl1 hj hF ho x1 x2 f1
    obtain ⟨F, rfl⟩ : ∃ f, F = f + 1 := ⟨F - 1, by omega⟩
    have e1 : I1 (24 + 23 * b) 1 = nI ps.length := by rw [(f1 (24 + 23 * b) (by omega) (by omega)).1]; exact h1
    refine ⟨o, o', I1, J1, kl1, ?_, ho, x1, x2, f1, fun F => by rw [List.drop_eq_nil_of_le (by omega)]; rfl⟩
    rw [show lpX10_lightThrough_19 (F + 1) 0 (24 + 23 * b) o o' (nI j) (gb_mk I1 J1) = fbX10_lightThrough_19 (fun v0 v1 v3 v4 v5 h => lpX10_lightThrough_19 F v0 v1 v3 v4 v5 h) 0 (24 + 23 * b) o o' (nI j) (gb_mk I1 J1) from rfl]
    unfold fbX10_lightThrough_19
    rw [gx_lyk hb, gb_gd_t, if_pos (show gb_I (gb_mk I1 J1) (24 + 23 * b) 1 ≤ nI j by rw [gb_I_mk, e1]; exact nI_le (by omega) (by omega))]
  | succ m ih =>
    intro j F o o' I1 J1 kl1 hj hF ho x1 x2 f1
    obtain ⟨F, rfl⟩ : ∃ f, F = f + 1 := ⟨F - 1, by omega⟩
    have e1 : I1 (24 + 23 * b) 1 = nI ps.length := by rw [(f1 (24 + 23 * b) (by omega) (by omega)).1]; exact h1
    have jl : j < ps.length := by omega
    have gp : ps[j]? = some (ps[j]) := List.getElem?_eq_getElem jl
    generalize ps[j] = p at gp
    obtain ⟨ok, xp⟩ := hp j p gp
    have ne := hne p (List.mem_of_getElem? gp)
    have xp1 : xP (I1 (26 + 23 * b + j)) p := xp.keep (f1 (26 + 23 * b + j) (by omega) (by omega)).1
    have kq := gx_lk hb (show j < 16 by omega)
    have ki : gb_in (gb_mk I1 J1) (25 + 23 * b) (nI j) = true := gb_in_k (by rw [gx_lak hb]) (show j < 16 by omega) (by omega)
    have kk : gb_k (gb_mk I1 J1) (25 + 23 * b) 35 = true := by simp [gb_k, gx_lak hb]
    have f0 : gb_I (gb_mk I1 J1) (26 + 23 * b + j) 0 = nI p.1 := by rw [gb_I_mk]; exact xp1.1
    have p5 := ok.1
    rw [show lpX10_lightThrough_19 (F + 1) 0 (24 + 23 * b) o o' (nI j) (gb_mk I1 J1) = fbX10_lightThrough_19 (fun v0 v1 v3 v4 v5 h => lpX10_lightThrough_19 F v0 v1 v3 v4 v5 h) 0 (24 + 23 * b) o o' (nI j) (gb_mk I1 J1) from rfl]
    unfold fbX10_lightThrough_19
    rw [gx_lyk hb, gb_gd_t, if_neg (show ¬ gb_I (gb_mk I1 J1) (24 + 23 * b) 1 ≤ nI j by rw [gb_I_mk, e1]; exact nI_ge jl (by omega)), gb_gd_t, gx_l0 hb, gb_rd_s, kk, gb_gd_t, ki, gb_gd_t, nI_clamp (by omega), gx_lr hb (show j < 16 by omega), gb_rd_s, kq, gb_gd_t, f0]
    unfold fbX10_lightThrough_77
    by_cases c : p.1 = 5
    · rw [if_pos (show nI p.1 = 5 by rw [c]; rfl), gb_lt_d, nI_1]
      obtain ⟨o2, o2', I2, J2, kl2, a1, a2, a3, a4, a5, a6⟩ := ih (j + 1) F o o' I1 J1 kl1 (by omega) (by omega) ho x1 x2 f1
      refine ⟨o2, o2', I2, J2, kl2, a1, a2, a3, a4, a5, fun F => ?_⟩
      rw [a6 F, gb_drop gp, gb_ops, if_pos c]
    · obtain ⟨B1, B2, o1, o1', oo, q1, q2, q3, q4'⟩ := ho.bm
      rw [if_neg (show ¬ nI p.1 = 5 from fun w => c ((nI_eq (b := 5) (by omega) (by omega)).mp w)), gk0, gb_gd_t, gr0_7, gb_rd_s, gk133, gb_gd_t]
      obtain ⟨I2, y1, y2, y3⟩ := x_aim (J := J1) gb_OP133 kq xp1 ok ne (Or.inl (by omega))
      rw [y1, gb_bd_s, gk0, gb_gd_t, gr0_7, gb_rd_s, (B1.2 I2 J1).1, gb_gd_t]
      obtain ⟨kl1', x2⟩ := x2
      have z1 : xBl I2 J1 o 969 kl1 := x1.k (fun m m1 m2 => ⟨y3 m (by omega), rfl⟩)
      have z2 : xBl I2 J1 o' 969 kl1' := x2.k (fun m m1 m2 => ⟨y3 m (by omega), rfl⟩)
      have xp2 : xP (I2 (26 + 23 * b + j)) p := xp1.keep (y3 _ (by omega))
      obtain ⟨I3, J3, kl3, s1, s2, s3, s4⟩ := x_send B1 B2 gb_OP133 (by omega) oo kq (by omega) xp2 ok z1 z2 y2 (fun k mk => by
        obtain ⟨i, hi⟩ := List.mem_iff_getElem?.mp mk
        obtain ⟨_, sk, _, _⟩ := z1.2.1 i k hi
        obtain ⟨t1, t2, t3, t4, t5⟩ := gb_sk_b sk
        refine ⟨gb_kp_b sk, fun ex hx ey hy ez hz => gb_kp_b (gb_ky_s (gb_tb_bk ok t1 ex hx).2.2.2 (gb_tb_bk ok t2 ey hy).2.2.2 (gb_tb_bk ok t3 ez hz).2.2.2).1⟩)
      rw [s1, gb_bd_s, gb_lt_d, nI_1]
      have fL : gb_fLi I I3 J J3 := f1.t (fun m m1 m2 => ⟨((s3 m (by omega)).1).trans (y3 m (by omega)), (s3 m (by omega)).2⟩)
      obtain ⟨o2, o2', I4, J4, kl4, a1, a2, a3, a4, a5, a6⟩ := ih (j + 1) F o' o I3 J3 kl3 (by omega) (by omega) (by rcases ho with w | w; exact Or.inr ⟨w.2, w.1⟩; exact Or.inl ⟨w.2, w.1⟩) s2 ⟨kl1, z1.k (fun m m1 m2 => s3 m (by omega))⟩ fL
      refine ⟨o2, o2', I4, J4, kl4, a1, a2, a3, a4, a5, fun F => ?_⟩
      rw [a6 F, s4, gb_drop gp, gb_ops, if_neg c]
end LIGHT2
