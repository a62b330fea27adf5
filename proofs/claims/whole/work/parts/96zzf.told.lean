section TOLD
variable {S : gb_S} {I I' I1 I2 : gb_FI} {J J' J1 J2 : gb_FJ} {g b : Nat} {gs : List Nat} {ps : List gb_P}
/-- what the odds are told through -/
def gb_Wd (gs : List Nat) (ps : List gb_P) : Nat := gb_dpt gs.length ps * gb_dpt gs.length ps * gb_od (gb_k0 gs)
/-- what is kept of a bench's odds -/
def gCK : gb_CP := fun d w ru rv su sv gs ps => d = nI (gb_dpt gs.length ps) ∧ (gb_dpt gs.length ps ≤ 300000 → w = lN (gb_Wd gs ps) ∧ (∀ r, r < 56 → ru r = iL (pU gs.length ps (gb_k0 gs) (fun k => decide (gb_rw k = r))) ∧ rv r = iL (pV gs.length ps (gb_k0 gs) (fun k => decide (gb_rw k = r)))) ∧ ∀ r, r < 32 → su r = iL (pU gs.length ps (gb_k0 gs) (fun k => decide (gb_sP k = r))) ∧ sv r = iL (pV gs.length ps (gb_k0 gs) (fun k => decide (gb_sP k = r))))
theorem x_startKey (h : xG (I 0 13) (I 239) gs) : fnX10_startKey 0 (gb_mk I J) = some (nI (gb_k0 gs), gb_mk I J) := by
  obtain ⟨a, b, c, d⟩ := h
  have e : ∀ i, i < 3 → I 239 i = nI (gst gs i) := d
  have b0 := gst_b b 0
  have b1 := gst_b b 1
  have b2 := gst_b b 2
  unfold fnX10_startKey
  rw [gk0, gb_gd_t, gr0_11, gb_rd_s, gk239, gb_gd_t, show gb_in (gb_mk I J) 239 (0 : Int32) = true from gi239 (j := 0) (by decide), gb_gd_t, gb_gd_t, gb_rd_s, gk239, gb_gd_t, show gb_in (gb_mk I J) 239 (1 : Int32) = true from gi239 (j := 1) (by decide), gb_gd_t, gb_gd_t, gb_rd_s, gk239, gb_gd_t, show gb_in (gb_mk I J) 239 (2 : Int32) = true from gi239 (j := 2) (by decide), gb_gd_t, gb_I_mk, show (0 : Int32).toNatClampNeg = 0 from rfl, show (1 : Int32).toNatClampNeg = 1 from rfl, show (2 : Int32).toNatClampNeg = 2 from rfl, e 0 (by decide), e 1 (by decide), e 2 (by decide), x_keyOf (by omega) (by omega) (by omega), gb_bd_s]
  rfl
theorem RX.ch (h : RX gCK S I J) (f : ∀ m, m ≠ 42 + 23 * b → (m < 133 ∨ 138 < m) → (m < 224 ∨ 237 < m) → I' m = I m) (fJ : ∀ m, (m < 42 + 23 * b ∨ 46 + 23 * b < m) → (m < 133 ∨ 138 < m) → (m < 224 ∨ 237 < m) → J' m = J m) (hb : b < 4) (hA : ∃ kl, xBl I' J' 224 969 kl) (hB : ∃ kl, xBl I' J' 231 969 kl)
    (hc : I' (42 + 23 * b) 6 = 0 ∨ (I' (42 + 23 * b) 6 = 1 ∧ gCK (I' (42 + 23 * b) 5) (J' (42 + 23 * b) 4) (J' (43 + 23 * b)) (J' (44 + 23 * b)) (J' (45 + 23 * b)) (J' (46 + 23 * b)) S.1 (S.2.2.2.2.1 b))) : RX gCK S I' J' := by
  obtain ⟨h1, h2, h3, h4, h5, h6, h7, h8, h9, h10, h11⟩ := h
  refine ⟨?_, ?_, ?_, ?_, h5.keep (fun n n1 n2 n3 => f n (fun z => n3 b hb (by omega)) (by omega) (by omega)), h6.keep (fun n _ _ => f n (by omega) (by omega) (by omega)), ?_, ?_, ?_, ?_, ?_⟩
  · rw [f 0 (by omega) (by decide) (by decide), f 239 (by omega) (by decide) (by decide)]; exact h1
  · rw [f 0 (by omega) (by decide) (by decide)]; exact h2
  · rw [f 1 (by omega) (by decide) (by decide), f 2 (by omega) (by decide) (by decide)]; exact h3
  · rw [f 0 (by omega) (by decide) (by decide)]; exact h4
  · rw [f 240 (by omega) (by decide) (by decide)]; exact h7
  · rw [f 126 (by omega) (by decide) (by decide), f 127 (by omega) (by decide) (by decide), f 128 (by omega) (by decide) (by decide), f 129 (by omega) (by decide) (by decide)]; exact h8
  · rw [f 139 (by omega) (by decide) (by decide), f 145 (by omega) (by decide) (by decide), fJ 146 (by omega) (by decide) (by decide)]; exact h9
  · intro b' hb'
    by_cases e : b' = b
    · subst e; exact hc
    · rw [f (42 + 23 * b') (by omega) (by omega) (by omega), fJ (42 + 23 * b') (by omega) (by omega) (by omega), fJ (43 + 23 * b') (by omega) (by omega) (by omega), fJ (44 + 23 * b') (by omega) (by omega) (by omega), fJ (45 + 23 * b') (by omega) (by omega) (by omega), fJ (46 + 23 * b') (by omega) (by omega) (by omega)]
      exact h10 b' hb'
  · intro q hq
    have old : ∀ q ∈ gb_beams, q.1 + 6 < 224 → gb_bW (I' q.1 6) (I' (q.1 + 1)) (I' (q.1 + 2)) (J' (q.1 + 3)) (J' (q.1 + 4)) (J' (q.1 + 5)) (J' (q.1 + 6)) q.2 := fun q hq hl => by
      have hl2 : 196 ≤ q.1 := by
        have : ∀ q ∈ gb_beams, 196 ≤ q.1 := by decide
        exact this q hq
      have := h11 q hq
      rw [f q.1 (by omega) (by omega) (by omega), f (q.1 + 1) (by omega) (by omega) (by omega), f (q.1 + 2) (by omega) (by omega) (by omega), fJ (q.1 + 3) (by omega) (by omega) (by omega), fJ (q.1 + 4) (by omega) (by omega) (by omega), fJ (q.1 + 5) (by omega) (by omega) (by omega), fJ (q.1 + 6) (by omega) (by omega) (by omega)]
      exact this
    simp only [gb_beams, List.mem_cons, List.not_mem_nil, or_false] at hq
    rcases hq with e | e | e | e | e | e
    · subst e; exact old (196, 286) (by decide) (by decide)
    · subst e; exact old (203, 286) (by decide) (by decide)
    · subst e; exact old (210, 286) (by decide) (by decide)
    · subst e; exact old (217, 286) (by decide) (by decide)
    · subst e; exact gb_bW_l.mpr hA
    · subst e; exact gb_bW_l.mpr hB
/-- the class's odds of a bench -/
theorem x_isTold (h : RX gCK S I J) (hb : b < 4) (hW : gb_wl 0 0 (S.2.2.2.2.1 b)) : ∃ I' J', fnX10_isTold 0 (nI b) (gb_mk I J) = some (if gb_dpt S.1.length (S.2.2.2.2.1 b) ≤ 300000 then 1 else 0, gb_mk I' J') ∧ RX gCK S I' J' ∧ gb_fx I I' J J' ∧ I' (42 + 23 * b) 6 = 1 ∧ (∀ m, m ≠ 42 + 23 * b → (m < 133 ∨ 138 < m) → (m < 224 ∨ 237 < m) → I' m = I m) := by
  obtain ⟨q1, q2, q3⟩ := h.2.2.2.2.1 b hb
  obtain ⟨x1, x2, x3, x4⟩ := id h.1
  have c := gb_CHs hb
  have rb : gb_rg (nI b) 4 = true := by rw [gb_rg_nI (by omega)]; simp; exact hb
  have dle : gb_dpt S.1.length (S.2.2.2.2.1 b) ≤ 300001 := (gb_dq_b (g := S.1.length) (ps := S.2.2.2.2.1 b) (S.2.2.2.2.1 b).length).2
  have ad := gb_k0_ad x2 x1
  have ob := gb_od_b (gb_k0 S.1)
  unfold fnX10_isTold
  rw [x_isBench, gb_bd_s, if_pos rb, if_neg gb_n10, gk0, gb_gd_t, gr0_4, gb_rd_s, gk23, gb_gd_t, gi23 hb, gb_gd_t, nI_clamp (by omega), gx_ch hb, gb_rd_s, gx_chk hb, gb_gd_t, gb_I_mk]
  rcases h.2.2.2.2.2.2.2.2.2.1 b hb with z | ⟨z, ck⟩
  · rw [if_pos z, gb_gd_t, gb_lt_d, gb_sI_mk, gk0, gb_gd_t, gr0_2, gb_rd_s, gk22, gb_gd_t, gi22 hb, gb_gd_t, gx_ly hb, gb_rd_s, gb_gd_t, gx_lyk hb, gb_gd_t, gb_I_mk]
    have k1 : ∀ m, m ≠ 42 + 23 * b → gb_u (gb_u I (42 + 23 * b) 6 1) (42 + 23 * b) 5 (nI (gb_dpt S.1.length (S.2.2.2.2.1 b))) m = I m := fun m hm => by rw [gb_u_row _ _ hm, gb_u_row _ _ hm]
    have e13 : gb_u I (42 + 23 * b) 6 1 0 13 = nI S.1.length := by rw [gb_u_ne _ _ (by omega)]; exact x3
    have dp := x_depthFor (I := gb_u I (42 + 23 * b) 6 1) (J := J) (g := S.1.length) hb (by omega) q1 (by rw [gb_u_ne _ _ (by omega)]; exact q2) (fun i p hp => by rw [gb_u_row _ _ (by have := (List.getElem?_eq_some_iff.mp hp).1; omega)]; exact q3 i p hp)
    rw [e13, dp, gb_bd_s, (c _ _).1, gb_gd_t, gb_lt_d, gb_sI_mk, (c _ _).1, gb_gd_t, gb_I_mk]
    have e5 : gb_u (gb_u I (42 + 23 * b) 6 1) (42 + 23 * b) 5 (nI (gb_dpt S.1.length (S.2.2.2.2.1 b))) (42 + 23 * b) 5 = nI (gb_dpt S.1.length (S.2.2.2.2.1 b)) := gb_u_s _ _ _ _
    have e6 : gb_u (gb_u I (42 + 23 * b) 6 1) (42 + 23 * b) 5 (nI (gb_dpt S.1.length (S.2.2.2.2.1 b))) (42 + 23 * b) 6 = 1 := by rw [gb_u_nk _ _ (by decide), gb_u_s]
    generalize gb_u (gb_u I (42 + 23 * b) 6 1) (42 + 23 * b) 5 (nI (gb_dpt S.1.length (S.2.2.2.2.1 b))) = K at *
    have bA : ∃ kl, xBl K J 224 969 kl := gb_bW_l.mp (by rw [k1 224 (by omega), k1 225 (by omega), k1 226 (by omega)]; exact h.2.2.2.2.2.2.2.2.2.2 (224, 969) (by decide))
    have bB : ∃ kl, xBl K J 231 969 kl := gb_bW_l.mp (by rw [k1 231 (by omega), k1 232 (by omega), k1 233 (by omega)]; exact h.2.2.2.2.2.2.2.2.2.2 (231, 969) (by decide))
    rw [e5]
    by_cases d : gb_dpt S.1.length (S.2.2.2.2.1 b) ≤ 300000
    · rw [if_pos d, if_pos (show nI (gb_dpt S.1.length (S.2.2.2.2.1 b)) ≤ 300000 from nI_le (b := 300000) d (by omega)), gk0, gb_gd_t, x_startKey (gs := S.1) (by rw [k1 0 (by omega), k1 239 (by omega)]; exact h.1), gb_bd_s, (c _ _).1, gb_gd_t, gb_gd_t, x_orders ad.1, gb_bd_s, gb_lt_d, gb_I_mk, e5, nI_L (by omega), nI_L (by omega), gk0, gb_gd_t, gr0_2, gb_rd_s, gk22, gb_gd_t, gi22 hb, gb_gd_t, gx_ly hb, gb_rd_s, gb_gd_t]
      obtain ⟨o2, o2', I2, J2, kl2, s1, s2, s3, s4, s5, s6⟩ := x_light (I := K) (J := J) hb q1 (by rw [k1 _ (by omega)]; exact q2) (fun i p hp => by rw [k1 _ (by have := (List.getElem?_eq_some_iff.mp hp).1; omega)]; exact q3 i p hp) (gb_wl_ne hW) ad.1 bA bB
      obtain ⟨B1, B2, B3⟩ := s2.bm
      obtain ⟨J3, t1, t2, t3⟩ := x_gather (I := I2) (J := J2) hb B1 B3.1 s3 (lN (gb_dpt S.1.length (S.2.2.2.2.1 b)) * lN (gb_dpt S.1.length (S.2.2.2.2.1 b)) * lN (gb_od (gb_k0 S.1)))
      rw [s1, gb_bd_s, (c _ _).1, gb_gd_t, t1, gb_bd_s]
      have fI : ∀ m, m ≠ 42 + 23 * b → (m < 133 ∨ 138 < m) → (m < 224 ∨ 237 < m) → I2 m = I m := fun m m1 m2 m3 => ((s5 m m2 m3).1).trans (k1 m m1)
      have i2 : I2 (42 + 23 * b) = K (42 + 23 * b) := (s5 _ (by omega) (by omega)).1
      have xk : ∀ o kl, (o = 224 ∨ o = 231) → xBl I2 J2 o 969 kl → xBl I2 J3 o 969 kl := fun o kl ho hx => hx.k (fun m m1 m2 => ⟨rfl, t3 m (by omega)⟩)
      refine ⟨I2, J3, rfl, ?_, fun m hm => ⟨fI m (by omega) (by omega) (by omega), (t3 m (by omega)).trans (s5 m (by omega) (by omega)).2⟩, by rw [i2]; exact e6, fI⟩
      have cc : I2 (42 + 23 * b) 6 = 1 ∧ gCK (I2 (42 + 23 * b) 5) (J3 (42 + 23 * b) 4) (J3 (43 + 23 * b)) (J3 (44 + 23 * b)) (J3 (45 + 23 * b)) (J3 (46 + 23 * b)) S.1 (S.2.2.2.2.1 b) := by
        obtain ⟨u1, u2, u3⟩ := t2
        rw [i2]
        refine ⟨e6, e5, fun _ => ⟨?_, fun r hr => ?_, fun r hr => ?_⟩⟩
        · rw [u1, lN_mul, lN_mul]
          rfl
        · obtain ⟨v1, v2⟩ := u2 r hr
          obtain ⟨y1, y2⟩ := s3.sumU s6 x1 hW (by decide) ad (fun k => decide (gb_rw k = r))
          rw [v1, v2, ← y1, ← y2]
          exact ⟨bS_congr _ (fun k _ => by simp), bS_congr _ (fun k _ => by simp)⟩
        · obtain ⟨v1, v2⟩ := u3 r hr
          obtain ⟨y1, y2⟩ := s3.sumU s6 x1 hW (by decide) ad (fun k => decide (gb_sP k = r))
          rw [v1, v2, ← y1, ← y2]
          exact ⟨bS_congr _ (fun k _ => by simp), bS_congr _ (fun k _ => by simp)⟩
      have fJ : ∀ m, (m < 42 + 23 * b ∨ 46 + 23 * b < m) → (m < 133 ∨ 138 < m) → (m < 224 ∨ 237 < m) → J3 m = J m := fun m m1 m2 m3 => (t3 m m1).trans (s5 m m2 m3).2
      rcases s2 with ⟨e1, e2⟩ | ⟨e1, e2⟩
      · subst e1; subst e2
        exact h.ch fI fJ hb ⟨kl2, xk _ _ (Or.inl rfl) s3⟩ (s4.imp (fun kl hx => xk _ kl (Or.inr rfl) hx)) (Or.inr cc)
      · subst e1; subst e2
        exact h.ch fI fJ hb (s4.imp (fun kl hx => xk _ kl (Or.inl rfl) hx)) ⟨kl2, xk _ _ (Or.inr rfl) s3⟩ (Or.inr cc)
    · rw [if_neg d, if_neg (show ¬ nI (gb_dpt S.1.length (S.2.2.2.2.1 b)) ≤ 300000 from nI_ge (a := 300000) (by omega) (by omega))]
      exact ⟨K, J, rfl, h.ch (fun m m1 _ _ => k1 m m1) (fun _ _ _ _ => rfl) hb bA bB (Or.inr ⟨e6, e5, fun q => absurd q d⟩), fun m hm => ⟨k1 m (by omega), rfl⟩, e6, fun m m1 _ _ => k1 m m1⟩
  · rw [if_neg (show ¬ I (42 + 23 * b) 6 = 0 by rw [z]; decide), gb_gd_t, ck.1]
    unfold fbX10_isTold_37
    by_cases d : gb_dpt S.1.length (S.2.2.2.2.1 b) ≤ 300000
    · rw [if_pos d, if_neg (show ¬ (300000 : Int32) < nI _ from nI_nlt (a := 300000) d (by omega)), gb_b_1, gb_gd_t]
      exact ⟨I, J, rfl, h, gb_fx.r, z, fun _ _ _ _ => rfl⟩
    · rw [if_neg d, if_pos (show (300000 : Int32) < nI _ from nI_lt (a := 300000) (by omega) (by omega)), gb_b_0, gb_gd_t]
      exact ⟨I, J, rfl, h, gb_fx.r, z, fun _ _ _ _ => rfl⟩
end TOLD
