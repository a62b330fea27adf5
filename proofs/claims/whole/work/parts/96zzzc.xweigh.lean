section XWEIGH2
variable {S : gb_S} {I I' I1 I2 : gb_FI} {J J' J1 J2 : gb_FJ} {gs : List Nat} {sh : List gb_P} {ps qs : List gb_P} {pl n g k m q o N : Nat} {r b pre : List Nat} {kl : List Nat}
theorem gx_bm {l : Nat} (h : l < 4) : gb_R (gb_mk I J) 141 l = some (196 + 7 * l) := by
  match l, h with
  | 0, _ => exact gr141_0
  | 1, _ => exact gr141_1
  | 2, _ => exact gr141_2
  | 3, _ => exact gr141_3
theorem gx_op {i : Nat} (h : i < 8) : gb_R (gb_mk I J) 140 i = some (148 + 6 * i) := by
  match i, h with
  | 0, _ => exact gr140_0
  | 1, _ => exact gr140_1
  | 2, _ => exact gr140_2
  | 3, _ => exact gr140_3
  | 4, _ => exact gr140_4
  | 5, _ => exact gr140_5
  | 6, _ => exact gr140_6
  | 7, _ => exact gr140_7
theorem gx_BM {l : Nat} (h : l < 4) : gb_BM (196 + 7 * l) 286 := by
  match l, h with
  | 0, _ => exact gb_BMs (196, 286) (by decide)
  | 1, _ => exact gb_BMs (203, 286) (by decide)
  | 2, _ => exact gb_BMs (210, 286) (by decide)
  | 3, _ => exact gb_BMs (217, 286) (by decide)
theorem gCm_p : 0 < gCm g := by
  unfold gCm
  split
  · decide
  · split <;> decide
theorem x_weigh (hgs : ∀ m ∈ gs, m < 10) (g3 : gs.length ≤ 3) (g1 : 1 ≤ gs.length) (hs : ∀ p ∈ sh, gso p) (rl : r.length ≤ 3) (ri : ∀ x ∈ r, x < sh.length) (hd : zD gs.length (gpt sh r) ≤ 300000) (hm : gBm gs (gpt sh r) (196 + 7 * r.length) I J) (e2 : I 142 r.length = nI (zD gs.length (gpt sh r))) (hr : ∀ i j, r[i]? = some j → I 143 i = nI j) {W0 : Int32} (hW0 : ∀ k, nI (gb_rw k) = W0 ↔ gpk k = pl) {o : Option (List Nat)} (hb : gBsC gs sh pl o I J) :
    ∃ I2 J2, fnX6_weigh 139 (nI r.length) W0 (nI (gb_od (gb_k0 gs))) (gb_mk I J) = some ((), gb_mk I2 J2) ∧ (∀ x y, x ≠ 145 → ¬ (x = 139 ∧ y = 7) → I2 x y = I x y) ∧ (∀ x, x ≠ 146 → x ≠ 147 → J2 x = J x) ∧ gBsC gs sh pl (gstC gs sh pl o r) I2 J2 := by
  have k8 : ∀ (I : gb_FI) (J : gb_FJ), gb_k (gb_mk I J) 147 8 = true := fun I J => gk147
  have k6 : ∀ (I : gb_FI) (J : gb_FJ), gb_k (gb_mk I J) 146 8 = true := fun I J => gk146
  have wl := gso_wl (gpt_so hs ri)
  have ob := gb_od_b (gb_k0 gs)
  obtain ⟨q1, q2, q3, q4, q5, q6⟩ := gtR (pl := pl) hgs g3 wl hd
  have hW := gWdvd hgs g3 g1 (show (gpt sh r).length ≤ 3 by unfold gpt; rw [List.length_map]; exact rl) hd
  have eW : (nI (zD gs.length (gpt sh r))).toInt64 * (nI (zD gs.length (gpt sh r))).toInt64 * (nI (gb_od (gb_k0 gs))).toInt64 = lN (gWz gs (gpt sh r)) := by
    rw [nI_L (by omega), nI_L (by omega), lN_mul, lN_mul]
    rfl
  have sp := x_shareP (pl := pl) hgs g3 wl hd (gx_BM (show r.length < 4 by omega)) hm hW0 k8
  unfold fnX6_weigh
  rw [gk139, gb_gd_t, gr139_3, gb_rd_s, gk142, gb_gd_t, gi142 (by omega), gb_gd_t, gb_gd_t, gb_rd_s, gk142, gb_gd_t, gi142 (by omega), gb_gd_t, gb_lt_d, gb_I_mk, nI_clamp (by omega), e2, eW, gb_gd_t, gr139_2, gb_rd_s, gk141, gb_gd_t, gi141 (by omega), gb_gd_t, gx_bm (by omega), gb_rd_s, gb_gd_t, gr139_9, gb_rd_s, ((gx_BM (show r.length < 4 by omega)).2 I J).1, gb_gd_t, sp, gb_bd_s, gk139, gb_gd_t, gb_I_mk]
  generalize hu : guP gs pl (gpt sh r) = u at *
  generalize hv : gvP gs pl (gpt sh r) = v at *
  generalize hW' : gWz gs (gpt sh r) = W at *
  have eG : gGP gs pl (gpt sh r) = gb_g3 u v W := by unfold gGP; rw [hu, hv, hW']
  have t0 : gsh J 147 u v W 147 0 = iL (u.tdiv (gb_g3 u v W)) := by unfold gsh; rw [gb_u_nk _ _ (by decide), gb_u_nk _ _ (by decide), gb_u_s]
  have t1 : gsh J 147 u v W 147 1 = iL (v.tdiv (gb_g3 u v W)) := by unfold gsh; rw [gb_u_nk _ _ (by decide), gb_u_s]
  have t2 : gsh J 147 u v W 147 2 = lN (W / gb_g3 u v W) := by unfold gsh; rw [gb_u_s]
  have jn : ∀ x, x ≠ 147 → gsh J 147 u v W x = J x := fun x hx => gsh_ne hx
  generalize gsh J 147 u v W = K at *
  -- the row is kept
  have take : ∃ I4 J4, fbX6_weigh_79 139 (nI r.length) (gb_mk I K) = some ((), gb_mk I4 J4) ∧ (∀ x y, x ≠ 145 → ¬ (x = 139 ∧ y = 7) → I4 x y = I x y) ∧ (∀ x, x ≠ 146 → x ≠ 147 → J4 x = J x) ∧ gBsC gs sh pl (some r) I4 J4 := by
    obtain ⟨I4, w1, w2, w3⟩ := x_wg98 (I := gb_u I 139 7 (nI r.length)) (J := gb_u (gb_u (gb_u K 146 0 (iL (u.tdiv (gb_g3 u v W)))) 146 1 (iL (v.tdiv (gb_g3 u v W)))) 146 2 (lN (W / gb_g3 u v W))) rl r.length 0 gb_FU (gb_u I 139 7 (nI r.length)) (by omega) (show r.length < 1000000 by omega) (fun _ _ => rfl) (fun j hj => absurd hj (by omega))
    refine ⟨I4, gb_u (gb_u (gb_u K 146 0 (iL (u.tdiv (gb_g3 u v W)))) 146 1 (iL (v.tdiv (gb_g3 u v W)))) 146 2 (lN (W / gb_g3 u v W)), ?_, fun x y h1 h2 => by rw [w2 x h1, gb_u1, if_neg h2], fun x h1 h2 => by rw [gb_u_row _ _ h1, gb_u_row _ _ h1, gb_u_row _ _ h1, jn x h2], rl, ri, hd, ?_, fun i j hj => ?_, ?_, ?_, ?_⟩
    · unfold fbX6_weigh_79 fnX8_copyShare
      rw [gk139, gb_gd_t, gr139_8, gb_rd_s, gb_gd_t, gr139_9, gb_rd_s, k6, gb_gd_t, k8, gb_gd_t, gb_gd_t, gb_lt_d, gb_sL_mk, gb_L_mk, t0, k8, gb_gd_t, k6, gb_gd_t, gb_lt_d, gb_sL_mk, gb_L_mk, gb_u_ne _ _ (show 147 ≠ 146 by decide), t1, k8, gb_gd_t, k6, gb_gd_t, gb_lt_d, gb_sL_mk, gb_L_mk, gb_u_ne _ _ (show 147 ≠ 146 by decide), gb_u_ne _ _ (show 147 ≠ 146 by decide), t2, gb_bd_s, gk139, gb_gd_t, gb_lt_d, gb_sI_mk, show (0 : Int32) = nI 0 from rfl, w1]
    · rw [w2 139 (by decide), gb_u_s]
    · rw [w3 i (List.getElem?_eq_some_iff.mp hj).1, gb_u_row _ _ (by decide)]
      exact hr i j hj
    · rw [hu, eG, gb_u_nk _ _ (by decide), gb_u_nk _ _ (by decide), gb_u_s]
    · rw [hv, eG, gb_u_nk _ _ (by decide), gb_u_s]
    · rw [hW', eG, gb_u_s]
  unfold fbX6_weigh_59 fbX6_weigh_124
  cases o with
  | none =>
    rw [if_pos (show I 139 7 = -1 from hb), if_pos (show (0 : Int32) < 1 by decide)]
    exact take
  | some b =>
    obtain ⟨b1, b2, b3, b4, b5, b6, b7, b8⟩ := hb
    have keep : gBsC gs sh pl (some b) I K := by
      refine ⟨b1, b2, b3, b4, b5, ?_, ?_, ?_⟩
      · rw [jn 146 (by decide)]; exact b6
      · rw [jn 146 (by decide)]; exact b7
      · rw [jn 146 (by decide)]; exact b8
    have bwl := gso_wl (gpt_so hs b2)
    obtain ⟨p1, p2, p3, p4, p5, p6⟩ := gtR (pl := pl) hgs g3 bwl b3
    have hWb := gWdvd hgs g3 g1 (show (gpt sh b).length ≤ 3 by unfold gpt; rw [List.length_map]; exact b1) b3
    have df := gdiff (gs := gs) (ps := gpt sh r) (qs := gpt sh b) (pl := pl)
    rw [hu, hv, hW'] at df
    have j0 : K 146 0 = _ := (congrFun (jn 146 (by decide)) 0).trans b6
    have j1 : K 146 1 = _ := (congrFun (jn 146 (by decide)) 1).trans b7
    have j2 : K 146 2 = _ := (congrFun (jn 146 (by decide)) 2).trans b8
    have eGb : gGP gs pl (gpt sh b) = gb_g3 (guP gs pl (gpt sh b)) (gvP gs pl (gpt sh b)) (gWz gs (gpt sh b)) := rfl
    rw [eGb] at j0 j1 j2
    generalize guP gs pl (gpt sh b) = u' at *
    generalize gvP gs pl (gpt sh b) = v' at *
    generalize gWz gs (gpt sh b) = W2 at *
    have Cb := gCm_b (g := gs.length)
    obtain ⟨L, L0, c1, c2⟩ := gcmp (u := u) (v := v) (u' := u') (v' := v') (q := 0) (p := 0) q1 p1 hW hWb (gCm_p (g := gs.length))
    obtain ⟨z1, z2, z3, z4⟩ := gbd q1 hW q3 q4 q5 q6
    obtain ⟨z5, z6, z7, z8⟩ := gbd p1 hWb p3 p4 p5 p6
    have wp : 0 < W / gb_g3 u v W := Nat.div_pos (gb_g3_le q1) (gb_g3_pos q1)
    have wp' : 0 < W2 / gb_g3 u' v' W2 := Nat.div_pos (gb_g3_le p1) (gb_g3_pos p1)
    have wl1 : W / gb_g3 u v W ≤ W := Nat.div_le_self _ _
    have wl2 : W2 / gb_g3 u' v' W2 ≤ W2 := Nat.div_le_self _ _
    rw [← c1, ← c2, gph_m] at df
    have bx : ∀ x : Int, ((L : Int) * x).natAbs ≤ 1000000000000000 → x.natAbs ≤ 1000000000000000 := fun x hx => by
      rw [Int.natAbs_mul] at hx
      have : x.natAbs ≤ (L : Int).natAbs * x.natAbs := Nat.le_mul_of_pos_left _ (by omega)
      omega
    have cp := x_compare (I := I) (J := K) k8 k6 t0 t1 t2 j0 j1 j2 wp wp' (by omega) (by omega) (bx _ (by rw [c1]; omega)) (bx _ (by rw [c2]; omega))
    rw [if_neg (show ¬ I 139 7 = -1 by rw [b4]; exact gb_nm1 _ (by omega)), gb_gd_t, gr139_9, gb_rd_s, gb_gd_t, gr139_8, gb_rd_s, k8, gb_gd_t, cp, gb_bd_s]
    generalize gph _ _ = z at df
    have Lz : (0 : Int) < L := by omega
    show ∃ I2 J2, _ ∧ _ ∧ _ ∧ gBsC gs sh pl (some (if gvr gs sh pl b < gvr gs sh pl r ∨ (gvr gs sh pl b = gvr gs sh pl r ∧ r.length < b.length) then r else b)) I2 J2
    have er : gvr gs sh pl r - gvr gs sh pl b = (L : Int) * z := df.symm
    unfold gsgn
    rcases Int.lt_trichotomy z 0 with d | d | d
    · have lz : (L : Int) * z < 0 := Int.mul_neg_of_pos_of_neg Lz d
      rw [if_neg (show ¬ 0 < z by omega), if_neg (show ¬ z = 0 by omega), if_neg (show ¬ (0 : Int32) < -1 by decide), if_neg (show ¬ (-1 : Int32) = 0 by decide), if_neg (show ¬ (gvr gs sh pl b < gvr gs sh pl r ∨ (gvr gs sh pl b = gvr gs sh pl r ∧ r.length < b.length)) by omega)]
      exact ⟨I, K, rfl, fun _ _ _ _ => rfl, fun x _ h2 => jn x h2, keep⟩
    · subst d
      rw [Int.mul_zero] at er
      rw [if_neg (show ¬ (0 : Int) < 0 by omega), if_pos rfl, if_neg (show ¬ (0 : Int32) < 0 by decide), if_pos rfl, gk139, gb_gd_t, gb_I_mk, b4]
      by_cases l : b.length ≤ r.length
      · rw [if_pos (nI_le l (by omega)), if_neg (show ¬ (gvr gs sh pl b < gvr gs sh pl r ∨ (gvr gs sh pl b = gvr gs sh pl r ∧ r.length < b.length)) by omega)]
        exact ⟨I, K, rfl, fun _ _ _ _ => rfl, fun x _ h2 => jn x h2, keep⟩
      · rw [if_neg (nI_ge (by omega) (by omega)), if_pos (show gvr gs sh pl b < gvr gs sh pl r ∨ (gvr gs sh pl b = gvr gs sh pl r ∧ r.length < b.length) by omega)]
        exact take
    · have lz : 0 < (L : Int) * z := Int.mul_pos Lz d
      rw [if_pos d, if_pos (show (0 : Int32) < 1 by decide), if_pos (show gvr gs sh pl b < gvr gs sh pl r ∨ (gvr gs sh pl b = gvr gs sh pl r ∧ r.length < b.length) by omega)]
      exact take
end XWEIGH2
