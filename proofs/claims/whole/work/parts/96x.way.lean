section WAY2
variable {cOK : gb_CP} {S : gb_S} {I I' I1 I2 : gb_FI} {J J' J1 J2 : gb_FJ}
theorem gb_rgN {v : Int32} {n : Nat} (h : ¬ gb_rg v n = true) : v < 0 ∨ ∃ j, n ≤ j ∧ j < 2 ^ 31 ∧ v = nI j := by
  by_cases h0 : v < 0
  · exact Or.inl h0
  · obtain ⟨j, hj, rfl⟩ := nI_of h0
    rw [gb_rg_nI hj] at h
    refine Or.inr ⟨j, ?_, hj, rfl⟩
    simp at h
    exact h
def gb_wv (ps : List gb_P) (f t w : Nat) : Int32 := if 300000 < gb_dpt 1 ps then -2000000000 else if w = 4 then nI (gb_dpt 1 ps) else (gb_ops ps (qpt (gb_ky 0 0 (t + 1)) w) (gb_ky 0 0 (f + 1))).1.toInt32
def a_way (b f t w : Int32) (S : gb_S) : Int32 × gb_S :=
  if gb_rg b 4 = true ∧ gb_rg f 10 = true ∧ gb_rg t 10 = true ∧ gb_rg w 5 = true then (gb_wv (S.2.2.2.2.1 b.toNatClampNeg) f.toNatClampNeg t.toNatClampNeg w.toNatClampNeg, S) else (-2000000000, S)
theorem gb_wl_ne : ∀ {ps : List gb_P} {cs ls : Nat}, gb_wl cs ls ps → ∀ p ∈ ps, (p.1 = 0 ∨ p.1 = 3) → p.2.2.1 ≠ p.2.1
  | [], _, _, _, p, h => absurd h (by simp)
  | a :: as, _, _, w, p, h => by
    rcases List.mem_cons.mp h with e | e
    · rw [e]; exact fun z => (w.1.2.2.1 z).1
    · exact gb_wl_ne w.2 p e
theorem gb_ky0 {x : Nat} (hx : x < 17) : gb_sk (gb_ky 0 0 x) := (gb_ky_s (by decide) (by decide) hx).1
/-- what way does behind its first checks -/
theorem x_wayIn (h : RX cOK S I J) {b f t : Nat} (hb : b < 4) (hf : f < 10) (ht : t < 10) (hW : gb_wl 0 0 (S.2.2.2.2.1 b)) (w : Int32) :
    ∃ I' J', fnX10_way 0 (nI b) (nI f) (nI t) w (gb_mk I J) = some ((if gb_rg w 5 = true then gb_wv (S.2.2.2.2.1 b) f t w.toNatClampNeg else -2000000000), gb_mk I' J') ∧ RX cOK S I' J' ∧ gb_fx I I' J J' := by
  obtain ⟨q1, q2, q3⟩ := h.2.2.2.2.1 b hb
  have dp := x_depthFor (I := I) (J := J) (g := 1) hb (by decide) q1 q2 q3
  have dq := gb_dq_b (g := 1) (ps := S.2.2.2.2.1 b) (S.2.2.2.2.1 b).length
  have rb : gb_rg (nI b) 4 = true := by rw [gb_rg_nI (by omega)]; simp; exact hb
  unfold fnX10_way fbX10_way_27 fbX10_way_60 gb_wv
  rw [x_isBench, gb_bd_s, if_pos rb, if_neg gb_n10, if_neg (nI_pos (by omega)), if_neg (show ¬ (10 : Int32) ≤ nI f from nI_ge (a := f) (b := 10) hf (by omega)), if_neg (nI_pos (by omega)), if_pos (show nI t < 10 from nI_lt (a := t) (b := 10) ht (by omega)), gk0, gb_gd_t, gr0_2, gb_rd_s, gk22, gb_gd_t, gi22 hb, gb_gd_t, nI_clamp (by omega), gx_ly hb, gb_rd_s, gx_lyk hb, gb_gd_t, show fnX2_depthFor (24 + 23 * b) 1 (gb_mk I J) = _ from dp, gb_bd_s]
  have dle : gb_dpt 1 (S.2.2.2.2.1 b) ≤ 300001 := dq.2
  by_cases d : 300000 < gb_dpt 1 (S.2.2.2.2.1 b)
  · rw [if_pos (show (300000 : Int32) < nI _ from nI_lt (a := 300000) d (by omega)), if_pos d, ite_self]
    exact ⟨I, J, rfl, h, gb_fx.r⟩
  · rw [if_neg (show ¬ (300000 : Int32) < nI _ from nI_nlt (a := 300000) (by omega) (by omega)), if_neg d]
    by_cases w5 : gb_rg w 5 = true
    · obtain ⟨v, hv, _, rfl⟩ := gb_rgT w5
      rw [if_pos w5, if_neg (nI_pos (by omega)), if_pos (show nI v ≤ 4 from nI_le (a := v) (b := 4) (by omega) (by omega)), nI_clamp (by omega)]
      by_cases e : v = 4
      · rw [if_pos (show nI v = 4 by rw [e]; rfl), if_pos e]
        exact ⟨I, J, rfl, h, gb_fx.r⟩
      · rw [if_neg (show ¬ nI v = 4 from fun z => e ((nI_eq (b := 4) (by omega) (by omega)).mp z)), if_neg e, gk0, gb_gd_t, gr0_2, gb_rd_s, gk22, gb_gd_t, gi22 hb, gb_gd_t, gx_ly hb, gb_rd_s, nI_1, show fnX0_keyOf 0 0 (nI (f + 1)) (gb_mk I J) = _ from x_keyOf (x := 0) (y := 0) (z := f + 1) (by decide) (by decide) (by omega) _, gb_bd_s, gk0, gb_gd_t]
        obtain ⟨o2, o2', I2, J2, kl2, s1, s2, s3, s4, s5, s6⟩ := x_light (I := I) (J := J) hb q1 q2 q3 (gb_wl_ne hW) (gb_ky0 (show f + 1 < 17 by omega)) (gb_bW_l.mp (h.2.2.2.2.2.2.2.2.2.2 (224, 969) (by decide))) (gb_bW_l.mp (h.2.2.2.2.2.2.2.2.2.2 (231, 969) (by decide)))
        obtain ⟨B1, B2, _⟩ := s2.bm
        rw [s1, gb_bd_s, nI_1, show fnX0_keyOf 0 0 (nI (t + 1)) (gb_mk I2 J2) = _ from x_keyOf (x := 0) (y := 0) (z := t + 1) (by decide) (by decide) (by omega) _, gb_bd_s, (B1.2 I2 J2).1, gb_gd_t, x_numP B1 (gb_ky0 (show t + 1 < 17 by omega)) (gb_kp_b (gb_ky0 (show t + 1 < 17 by omega))) (show v < 4 by omega), gb_bd_s, ← s3.pt (gb_ky0 (show t + 1 < 17 by omega)) (gb_kp_b (gb_ky0 (show t + 1 < 17 by omega))), s6]
        refine ⟨I2, J2, rfl, ?_, fun m hm => s5 m (by omega) (by omega)⟩
        rcases s2 with ⟨e1, e2⟩ | ⟨e1, e2⟩
        · subst e1; subst e2
          exact h.li s5 ⟨kl2, s3⟩ s4
        · subst e1; subst e2
          exact h.li s5 s4 ⟨kl2, s3⟩
    · rw [if_neg w5]
      rcases gb_rgN w5 with z | ⟨j, j1, j2, rfl⟩
      · rw [if_pos z]
        exact ⟨I, J, rfl, h, gb_fx.r⟩
      · rw [if_neg (nI_pos j2), if_neg (show ¬ nI j ≤ 4 from nI_ge (a := 4) (b := j) (by omega) j2)]
        exact ⟨I, J, rfl, h, gb_fx.r⟩
theorem X_way (h : RX cOK S I J) (hW : ∀ b, b < 4 → gb_wl 0 0 (S.2.2.2.2.1 b)) (b f t w : Int32) : xok cOK (fnX10_way 0 b f t w) I J (a_way b f t w S) := by
  have bad : ∃ I' J', (some ((-2000000000 : Int32), gb_mk I J) : Option (Int32 × gb_H)) = some (-2000000000, gb_mk I' J') ∧ RX cOK S I' J' ∧ gb_fx I I' J J' := ⟨I, J, rfl, h, gb_fx.r⟩
  unfold a_way xok
  by_cases h1 : gb_rg b 4 = true
  · by_cases h2 : gb_rg f 10 = true
    · by_cases h3 : gb_rg t 10 = true
      · obtain ⟨b', hb, _, rfl⟩ := gb_rgT h1
        obtain ⟨f', hf, _, rfl⟩ := gb_rgT h2
        obtain ⟨t', ht, _, rfl⟩ := gb_rgT h3
        obtain ⟨I', J', s1, s2, s3⟩ := x_wayIn h hb hf ht (hW b' hb) w
        rw [nI_clamp (by omega), nI_clamp (by omega), nI_clamp (by omega)]
        by_cases h4 : gb_rg w 5 = true
        · rw [if_pos ⟨h1, h2, h3, h4⟩]
          rw [if_pos h4] at s1
          exact ⟨I', J', s1, s2, s3⟩
        · rw [if_neg (fun z => h4 z.2.2.2)]
          rw [if_neg h4] at s1
          exact ⟨I', J', s1, s2, s3⟩
      · rw [if_neg (fun z => h3 z.2.2.1)]
        obtain ⟨f', hf, _, rfl⟩ := gb_rgT h2
        unfold fnX10_way fbX10_way_27
        rw [x_isBench, gb_bd_s, if_pos h1, if_neg gb_n10, if_neg (nI_pos (by omega)), if_neg (show ¬ (10 : Int32) ≤ nI f' from nI_ge (a := f') (b := 10) hf (by omega))]
        rcases gb_rgN h3 with z | ⟨j, j1, j2, rfl⟩
        · rw [if_pos z]
          exact bad
        · rw [if_neg (nI_pos j2), if_neg (show ¬ nI j < 10 from nI_nlt (a := j) (b := 10) j1 j2)]
          exact bad
    · rw [if_neg (fun z => h2 z.2.1)]
      unfold fnX10_way fbX10_way_27
      rw [x_isBench, gb_bd_s, if_pos h1, if_neg gb_n10]
      rcases gb_rgN h2 with z | ⟨j, j1, j2, rfl⟩
      · rw [if_pos z]
        exact bad
      · rw [if_neg (nI_pos j2), if_pos (show (10 : Int32) ≤ nI j from nI_le (a := 10) (b := j) j1 j2)]
        exact bad
  · rw [if_neg (fun z => h1 z.1)]
    unfold fnX10_way fbX10_way_27
    rw [x_isBench, gb_bd_s, if_neg h1, if_pos (show (0 : Int32) = 0 from rfl)]
    exact bad
end WAY2
