section MWAY
variable {S : gb_S} {I I' I1 I2 : gb_FI} {J J' J1 J2 : gb_FJ}
theorem gb_wl_wp : ∀ {ps : List gb_P} {cs ls : Nat}, gb_wl cs ls ps → ∀ p ∈ ps, ∃ cs ls, gb_wp cs ls p
  | [], _, _, _, p, h => absurd h (by simp)
  | a :: as, cs, ls, w, p, h => by
    rcases List.mem_cons.mp h with e | e
    · rw [e]; exact ⟨cs, ls, w.1⟩
    · exact gb_wl_wp w.2 p e
theorem RM.fR (h : RM S I J) (f : gm_fR I I' J J') : RM S I' J' := by
  have r : ∀ x, x ≠ 241 → I' x = I x := fun x hx => funext (fun k => f.1 x k (fun z => hx z.1))
  have q : ∀ k, k ≠ 23 → k ≠ 24 → k ≠ 25 → I' 241 k = I 241 k := fun k h1 h2 h3 => f.1 241 k (fun z => by omega)
  have j1 : J' 241 = J 241 := f.2 241 (by decide)
  unfold RM at h ⊢
  rw [q 1 (by decide) (by decide) (by decide), r 242 (by decide), q 0 (by decide) (by decide) (by decide), q 14 (by decide) (by decide) (by decide), r 248 (by decide), q 18 (by decide) (by decide) (by decide), r 244 (by decide), r 243 (by decide), q 6 (by decide) (by decide) (by decide), r 245 (by decide), r 260 (by decide), q 37 (by decide) (by decide) (by decide), r 261 (by decide), r 262 (by decide), r 263 (by decide), q 46 (by decide) (by decide) (by decide), r 268 (by decide), r 267 (by decide), j1]
  exact h
theorem gm_fR.fm (f : gm_fR I I' J J') : gb_fm I I' J J' := fun n hn => ⟨funext (fun k => f.1 n k (fun z => by omega)), f.2 n (by omega)⟩
theorem gw_k1 {w : Nat} (h : w < 16) : gw_k 1 w = gb_ky 0 0 (w + 1) := by
  show gb_ky 0 0 (gw_m 1 w 0 + 1) = _
  rw [show gw_m 1 w 0 = w by unfold gw_m; simp; omega]
theorem gb_ky00 (x : Nat) : gb_ky 0 0 x = 1024 * x := by
  unfold gb_ky gb_mi gb_ma
  omega
theorem gP_way {X : Nat → gb_q} {t v : Nat} (ht : t < 16) : gP (16 ^ 1) X (fun w => qpt (gb_ky 0 0 (t + 1)) v (gw_k 1 w)) = qc (X t) v := by
  have e : ∀ i, i < 16 → q4 (X i) (qpt (gb_ky 0 0 (t + 1)) v (gw_k 1 i)) = if i = t then qc (X t) v else 0 := fun i hi => by
    rw [gw_k1 hi]
    unfold qpt
    by_cases z : i = t
    · subst z; rw [if_pos rfl, if_pos rfl, q4_e]
    · rw [if_neg (fun y => z (by rw [gb_ky00, gb_ky00] at y; omega)), if_neg z, q4_Z]
  show gS 16 _ = _
  rw [gS_congr 16 e, gS_pt, if_pos ht]
theorem M_way (hB : ∀ b, b < 4 → (S.2.2.2.2.1 b).length ≤ 16 ∧ gb_wl 0 0 (S.2.2.2.2.1 b)) (h : RM S I J) (b f t w : Int32) : mok (fnX11_way 241 b f t w) I J (a_way b f t w S) := by
  have bad : ∃ I' J', (some ((-2000000000 : Int32), gb_mk I J) : Option (Int32 × gb_H)) = some (-2000000000, gb_mk I' J') ∧ RM S I' J' ∧ gb_fm I I' J J' := ⟨I, J, rfl, h, gb_fm.r⟩
  unfold a_way mok
  simp only [fnX11_way, fbX11_way_39, m_inR _ 3 (by decide) _ (show (3 : Int32) = nI 3 from rfl), m_inR _ 9 (by decide) _ (show (9 : Int32) = nI 9 from rfl), m_inR _ 4 (by decide) _ (show (4 : Int32) = nI 4 from rfl), gb_lt_d, gb_gd_t, gb_rd_s, gb_bd_s, gb_I_mk, gb_L_mk, gb_sI_mk, gb_sL_mk]
  by_cases h1 : gb_rg b 4 = true
  · rw [if_pos (show gb_rg b (3 + 1) = true from h1), if_neg gb_n10]
    by_cases h2 : gb_rg f 10 = true
    · rw [if_pos (show gb_rg f (9 + 1) = true from h2), if_neg gb_n10]
      by_cases h3 : gb_rg t 10 = true
      · rw [if_pos (show gb_rg t (9 + 1) = true from h3), if_neg gb_n10]
        by_cases h4 : gb_rg w 5 = true
        · rw [if_pos (show gb_rg w (4 + 1) = true from h4), if_neg gb_n10, if_pos (show gb_rg b 4 = true ∧ gb_rg f 10 = true ∧ gb_rg t 10 = true ∧ gb_rg w 5 = true from ⟨h1, h2, h3, h4⟩)]
          obtain ⟨b', hb, _, rfl⟩ := gb_rgT h1
          obtain ⟨f', hf, _, rfl⟩ := gb_rgT h2
          obtain ⟨t', ht, _, rfl⟩ := gb_rgT h3
          obtain ⟨v, hv, _, rfl⟩ := gb_rgT h4
          obtain ⟨q1, q2⟩ := h.2.2.2.2.1 b' hb
          obtain ⟨w1, w2⟩ := hB b' hb
          have e128 : (128 : Int32) * nI b' = nI (128 * b') := gb_nI_mul 128 b'
          have d := m_deepOf (I := I) (J := J) (o := 243) (a := 128 * b') (g := 1) (room := 512) (ps := S.2.2.2.2.1 b') (fun I J => gk243) (fun j hj => gi243 hj) (by decide) (by omega) (by decide) (fun i p hi => ⟨gb_wl_mem w2 p (List.mem_of_getElem? hi), q2 i p hi⟩)
          have dq := gb_dq_b (g := 1) (ps := S.2.2.2.2.1 b') (S.2.2.2.2.1 b').length
          have dle : gb_dpt 1 (S.2.2.2.2.1 b') ≤ 300001 := dq.2
          rw [nI_clamp (by omega), nI_clamp (by omega), nI_clamp (by omega), nI_clamp (by omega)]
          rw [gk241, gb_gd_t, gr241_3, gb_rd_s, gb_gd_t, gr241_4, gb_rd_s, gk244, gb_gd_t, gi244 hb, gb_gd_t, e128, q1, show fnX11_deepOf 243 (nI (128 * b')) (nI (S.2.2.2.2.1 b').length) 1 (gb_mk I J) = _ from d, gb_bd_s]
          unfold gb_wv
          by_cases dd : 300000 < gb_dpt 1 (S.2.2.2.2.1 b')
          · rw [if_pos dd, if_neg (show ¬ nI _ ≤ (300000 : Int32) from nI_ge (a := 300000) dd (by omega))]
            exact bad
          · rw [if_neg dd, if_pos (show nI _ ≤ (300000 : Int32) from nI_le (b := 300000) (by omega) (by omega))]
            by_cases e : v = 4
            · rw [if_pos (show nI v = 4 by rw [e]; rfl), if_pos e]
              exact ⟨I, J, rfl, h, gb_fm.r⟩
            · obtain ⟨I2, J2, s1, s2, s3, s4, s5⟩ := m_runs (I := I) (J := J) (o := 243) (a := 128 * b') (room := 512) (g := 1) (ps := S.2.2.2.2.1 b') (fun I J => gk243) (fun j hj I J => gi243 hj) (by decide) (by decide) (by omega) (fun i p hi => q2 i p hi) (gb_wl_wp w2) (by decide) (md := fun _ => f') (fun _ => by omega) (v5 := nI f') (Or.inr ⟨gb_nmi f' (by omega), fun _ _ => rfl⟩)
              have val := s5 (qpt (gb_ky 0 0 (t' + 1)) v)
              rw [gP_way (by omega), show gw_st (fun _ => f') 1 = f' by show 16 * 0 + f' = f'; omega, gw_k1 (by omega)] at val
              have f4 : (4 : Int32) * nI t' = nI (4 * t') := gb_nI_mul 4 t'
              refine ⟨I2, J2, ?_, h.fR s2, s2.fm⟩
              rw [if_neg (show ¬ nI v = 4 from fun z => e ((nI_eq (b := 4) (by omega) (by omega)).mp z)), if_neg e, gk241, gb_gd_t, gr241_3, gb_rd_s, gb_gd_t, gr241_4, gb_rd_s, gk244, gb_gd_t, gi244 hb, gb_gd_t, gb_gd_t, gb_I_mk, q1, show fnX11_runs 241 243 (nI (128 * b')) (nI (S.2.2.2.2.1 b').length) 1 (nI f') (gb_mk I J) = _ from s1, ← val]
              simp (disch := omega) only [gb_lt_d, gb_gd_t, gb_rd_s, gb_bd_s, gb_I_mk, gb_L_mk, gb_sI_mk, gb_sL_mk, gk241, gr241_20, gk251, f4, nI_add, gi251, nI_clamp]
              unfold qc rq
              match v, hv with
              | 0, _ => rfl
              | 1, _ => rfl
              | 2, _ => rfl
              | 3, _ => rfl
              | 4, _ => exact absurd rfl e
        · rw [if_neg (show ¬ gb_rg w (4 + 1) = true from h4), if_pos (show (0 : Int32) = 0 from rfl), if_neg (fun z => h4 z.2.2.2)]
          exact bad
      · rw [if_neg (show ¬ gb_rg t (9 + 1) = true from h3), if_pos (show (0 : Int32) = 0 from rfl), if_neg (fun z => h3 z.2.2.1)]
        exact bad
    · rw [if_neg (show ¬ gb_rg f (9 + 1) = true from h2), if_pos (show (0 : Int32) = 0 from rfl), if_neg (fun z => h2 z.2.1)]
      exact bad
  · rw [if_neg (show ¬ gb_rg b (3 + 1) = true from h1), if_pos (show (0 : Int32) = 0 from rfl), if_neg (fun z => h1 z.1)]
    exact bad
end MWAY
