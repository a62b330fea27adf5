section XPLAN
variable {S : gb_S} {I I' I1 I2 : gb_FI} {J J' J1 J2 : gb_FJ} {gs : List Nat} {sh : List gb_P} {pl n g k m q f : Nat} {r b : List Nat}
theorem x_sr9 (hs : ∀ p ∈ sh, gso p) (s8 : sh.length ≤ 8) (hx : ∀ i p, sh[i]? = some p → xP (I (118 + i)) p) (e6 : I 116 1 = nI sh.length) (v1 v2 v3 v4 v5 : Int32) :
    ∀ k i F (I1 : gb_FI), i + k = sh.length → k < F → (∀ y, ¬ (148 ≤ y ∧ y ≤ 195) → I1 y = I y) → (∀ a p, a < i → sh[a]? = some p → ∀ s, s < 17 → xOs I1 (148 + 6 * a) s (gb_tb p 2 s)) →
      ∃ F2 I2, lpX6_search_9 F 139 v1 v2 v3 v4 v5 (nI i) (gb_mk I1 J) = fbX6_search_9 (fun v0 v1 v2 v3 v4 v5 v6 h => lpX6_search_9 F2 v0 v1 v2 v3 v4 v5 v6 h) 139 v1 v2 v3 v4 v5 (nI sh.length) (gb_mk I2 J) ∧ (∀ y, ¬ (148 ≤ y ∧ y ≤ 195) → I2 y = I y) ∧ ∀ a p, sh[a]? = some p → ∀ s, s < 17 → xOs I2 (148 + 6 * a) s (gb_tb p 2 s) := by
  intro k
  induction k with
  | zero =>
    intro i F I1 hi hF h1 h2
    obtain ⟨F, rfl⟩ : ∃ f, F = f + 1 := ⟨F - 1, by omega⟩
    obtain rfl : i = sh.length := by omega
    exact ⟨F, I1, rfl, h1, fun a p hp => h2 a p (List.getElem?_eq_some_iff.mp hp).1 hp⟩
  | succ k ih =>
    intro i F I1 hi hF h1 h2
    obtain ⟨F, rfl⟩ : ∃ f, F = f + 1 := ⟨F - 1, by omega⟩
    have il : i < sh.length := by omega
    have ep : sh[i]? = some sh[i] := List.getElem?_eq_getElem il
    have so := hs _ (List.getElem_mem il)
    obtain ⟨I2, y1, y2, y3⟩ := x_aim (J := J) (gb_OPp i (by omega)) (gx_sk (show i < 8 by omega)) ((hx i _ ep).keep (h1 (118 + i) (by omega))) so.1.1 (fun z => (so.1.2.2.1 z).1) (Or.inl (by omega))
    obtain ⟨F2, I3, a1, a2, a3⟩ := ih (i + 1) F I2 (by omega) (by omega) (fun y hy => (y3 y (by omega)).trans (h1 y hy)) (fun a p ha hp s hs' => by
      by_cases z : a = i
      · subst z
        rw [ep] at hp
        cases hp
        exact y2 s hs'
      · have := h2 a p (by omega) hp s hs'
        unfold xOs at this ⊢
        rw [y3 (148 + 6 * a + 1) (by omega), y3 (148 + 6 * a + 2) (by omega), y3 (148 + 6 * a + 3) (by omega), y3 (148 + 6 * a + 4) (by omega), y3 (148 + 6 * a + 5) (by omega)]
        exact this)
    refine ⟨F2, I3, ?_, a2, a3⟩
    rw [← a1, show ∀ h, lpX6_search_9 (F + 1) 139 v1 v2 v3 v4 v5 (nI i) h = fbX6_search_9 (fun v0 v1 v2 v3 v4 v5 v6 h => lpX6_search_9 F v0 v1 v2 v3 v4 v5 v6 h) 139 v1 v2 v3 v4 v5 (nI i) h from fun _ => rfl]
    unfold fbX6_search_9
    rw [gk139, gb_gd_t, gr139_0, gb_rd_s, gk116, gb_gd_t, gb_I_mk, h1 116 (by omega), e6, if_neg (nI_ge (by omega) (by omega)), gb_gd_t, gr139_1, gb_rd_s, gk140, gb_gd_t, gi140 (by omega), gb_gd_t, nI_clamp (by omega), gx_op (by omega), gb_rd_s, gb_gd_t, gb_rd_s, gk116, gb_gd_t, gr116_0, gb_rd_s, gk117, gb_gd_t, gi117 (by omega), gb_gd_t, gx_sr (by omega), gb_rd_s, (gb_OPp i (by omega) I1 J).1, gb_gd_t, y1, gb_bd_s, gb_lt_d, nI_1]
theorem gTm_8 : ∀ n, n ≤ 3 → gTm n 8 ≤ 1169 := by
  intro n hn
  match n, hn with
  | 0, _ => decide
  | 1, _ => decide
  | 2, _ => decide
  | 3, _ => decide
theorem gfoldC : ∀ (l : List (List Nat)) (b : List Nat), l.foldl (gstC gs sh pl) (some b) = some (l.foldl (stepC (gvr gs sh pl)) b)
  | [], b => rfl
  | r :: l, b => by
    rw [List.foldl_cons, List.foldl_cons, ← gfoldC l]
    rfl
theorem gb_k0_kp (h : ∀ m ∈ gs, m < 10) : gb_kp (gb_k0 gs) < 286 := by
  have b0 := gst_b h 0
  have b1 := gst_b h 1
  have b2 := gst_b h 2
  exact gkp_hi _ (by omega) _ (by omega) _ (by omega)
theorem x_search (hgs : ∀ m ∈ gs, m < 10) (g3 : gs.length ≤ 3) (g1 : 1 ≤ gs.length) (hs : ∀ p ∈ sh, gso p) (s8 : sh.length ≤ 8) (n3 : n ≤ 3) {W0 : Int32} (hW0 : ∀ k, nI (gb_rw k) = W0 ↔ gpk k = pl) (hx : ∀ i p, sh[i]? = some p → xP (I (118 + i)) p) (e6 : I 116 1 = nI sh.length) (hb : ∀ l, l < 4 → ∃ kl, xBl I J (196 + 7 * l) 286 kl) :
    ∃ I2 J2, fnX6_search 139 (nI n) (nI (gb_k0 gs)) (nI gs.length) W0 (gb_mk I J) = some ((), gb_mk I2 J2) ∧ (∀ x y, ¬ (x = 139 ∧ y = 7) → ¬ (142 ≤ x ∧ x ≤ 145) → ¬ (148 ≤ x ∧ x ≤ 223) → I2 x y = I x y) ∧ (∀ x, x ≠ 146 → x ≠ 147 → ¬ (196 ≤ x ∧ x ≤ 223) → J2 x = J x) ∧ (∀ l, l < 4 → ∃ kl, xBl I2 J2 (196 + 7 * l) 286 kl) ∧ gBsC gs sh pl (some (gbR gs sh pl n)) I2 J2 := by
  have ad := gb_k0_ad hgs g3
  obtain ⟨F2, Ia, a1, a2, a3⟩ := x_sr9 (J := J) hs s8 hx e6 (nI n) (nI (gb_k0 gs)) (nI gs.length) W0 (nI (gb_od (gb_k0 gs))) sh.length 0 gb_FU I (by omega) (show sh.length < 1000000 by omega) (fun _ _ => rfl) (fun a p ha => absurd ha (by omega))
  obtain ⟨kl0, x0⟩ := hb 0 (by decide)
  have x0' : xBl (gb_u Ia 139 7 (-1)) J 196 286 kl0 := x0.k (fun m m1 m2 => ⟨by rw [gb_u_row _ _ (by omega), a2 m (by omega)], rfl⟩)
  obtain ⟨Ib, Jb, kl, c1, c2, c3, c4⟩ := x_begin (gx_BM (l := 0) (by decide)) x0' ad.1 (gb_k0_kp hgs)
  have fb : ∀ m, m < 196 ∨ 202 < m → Ib m = gb_u Ia 139 7 (-1) m ∧ Jb m = J m := c3
  generalize hI : gb_u (gb_u Ib 142 0 1) 144 0 0 = Ic
  have fc : ∀ m, m ≠ 142 → m ≠ 144 → Ic m = Ib m := fun m h1 h2 => by rw [← hI, gb_u_row _ _ h2, gb_u_row _ _ h1]
  have fd : ∀ m, m ≠ 139 → m ≠ 142 → m ≠ 144 → (m < 148 ∨ 202 < m) → Ic m = I m := fun m h1 h2 h3 h4 => by rw [fc m h2 h3, (fb m (by omega)).1, gb_u_row _ _ h1, a2 m (by omega)]
  have P : gPI gs sh [] Ic Jb := by
    refine ⟨fun l hl => ?_, fun i j hj => (by cases hj), fun l hl => ?_, fun i p hp => ?_, by rw [fd 116 (by decide) (by decide) (by decide) (by decide)]; exact e6⟩
    · obtain rfl : l = 0 := Nat.le_zero.mp hl
      refine ⟨⟨kl, c2.k (fun m m1 m2 => ⟨fc m (by omega) (by omega), rfl⟩), c4⟩, ?_⟩
      rw [← hI, gb_u_ne _ _ (by decide), gb_u_s]
      rfl
    · by_cases z : l = 0
      · subst z
        exact ⟨kl, c2.k (fun m m1 m2 => ⟨fc m (by omega) (by omega), rfl⟩)⟩
      · obtain ⟨kl', x1⟩ := hb l hl
        exact ⟨kl', x1.k (fun m m1 m2 => ⟨fd m (by omega) (by omega) (by omega) (by omega), (fb m (by omega)).2⟩)⟩
    · have il := (List.getElem?_eq_some_iff.mp hp).1
      refine ⟨(hx i p hp).keep (fd _ (by omega) (by omega) (by omega) (by omega)), fun s hs' => ?_⟩
      have e : ∀ y, 148 ≤ y → y < 196 → Ic y = Ia y := fun y h1 h2 => by rw [fc y (by omega) (by omega), (fb y (by omega)).1, gb_u_row _ _ (by omega)]
      have := a3 i p hp s hs'
      unfold xOs at this ⊢
      rw [e (148 + 6 * i + 1) (by omega) (by omega), e (148 + 6 * i + 2) (by omega) (by omega), e (148 + 6 * i + 3) (by omega) (by omega), e (148 + 6 * i + 4) (by omega) (by omega), e (148 + 6 * i + 5) (by omega) (by omega)]
      exact this
  have h7 : Ic 139 7 = -1 := by rw [fc 139 (by decide) (by decide), (fb 139 (by decide)).1, gb_u_s]
  obtain ⟨Id, Jd, w1, w2, w3, w4⟩ := x_weigh (r := []) (o := none) hgs g3 g1 hs (Nat.zero_le _) (fun x hx => by cases hx) (show zD gs.length [] ≤ 300000 by rw [zD]; decide) (P.1 0 (Nat.le_refl _)).1 (P.1 0 (Nat.le_refl _)).2 (fun i j hj => by cases hj) hW0 h7
  have P3 : gPI gs sh [] Id Jd := P.kp (fun x b1 b2 b3 => funext (fun y => w2 x y b3 (fun z => b1 z.1))) (fun x b1 b2 => w3 x (by omega) (by omega)) (Nat.zero_le _) s8
  obtain ⟨T, Ie, Je, t1, t2, t3, t4, t5, t6⟩ := x_srch hgs g3 g1 hs s8 n3 hW0 n [] (by show 0 + n = n; omega) (fun x hx => by cases hx) (show zD gs.length [] ≤ 300000 by rw [zD]; decide) sh.length 0 Id Jd _ (by omega) P3 (by show Id 144 0 = _; rw [w2 144 0 (by decide) (by decide), ← hI, gb_u_s]; rfl) w4
  have tb : T ≤ 1169 := Nat.le_trans t1 (Nat.le_trans (gTm_m s8) (gTm_8 n n3))
  obtain ⟨G, hG⟩ : ∃ G, gb_FU = (G + 1) + T := ⟨1000000 - T - 1, by show 1000000 = _; omega⟩
  refine ⟨Ie, Je, ?_, fun x y b1 b2 b3 => ?_, fun x b1 b2 b3 => ?_, t4.2.2.1, ?_⟩
  · unfold fnX6_search
    rw [x_orders ad.1, gb_bd_s, show (0 : Int32) = nI 0 from rfl, a1]
    unfold fbX6_search_9
    rw [gk139, gb_gd_t, gr139_0, gb_rd_s, gk116, gb_gd_t, gb_I_mk, a2 116 (by omega), e6, if_pos (nI_le (Nat.le_refl _) (by omega)), gb_gd_t, gb_lt_d, gb_sI_mk, gk139, gb_gd_t, gr139_2, gb_rd_s, gk141, gb_gd_t, show (0 : Int32) = nI 0 from rfl, gi141 (by decide), gb_gd_t, nI_clamp (by decide), gx_bm (by decide), gb_rd_s, ((gx_BM (l := 0) (by decide)).2 _ _).1, gb_gd_t, show 196 + 7 * 0 = 196 from rfl, c1, gb_bd_s, gk139, gb_gd_t, gr139_3, gb_rd_s, gk142, gb_gd_t, gi142 (by decide), gb_gd_t, gb_lt_d, gb_sI_mk, gk139, gb_gd_t, gr139_5, gb_rd_s, gk144, gb_gd_t, gi144 (by decide), gb_gd_t, gb_lt_d, gb_sI_mk, gk139, gb_gd_t, show gb_u (gb_u Ib 142 0 1) 144 0 (nI 0) = Ic from hI]
    rw [show fnX6_weigh 139 (nI 0) W0 (nI (gb_od (gb_k0 gs))) (gb_mk Ic Jb) = some ((), gb_mk Id Jd) from w1, gb_bd_s, hG]
    have := t2 (G + 1) 0 (by omega)
    rw [show lpX6_search_91 (G + 1 + T) 139 (nI n) (nI gs.length) W0 (nI (gb_od (gb_k0 gs))) (nI 0) (nI 0) (gb_mk Id Jd) = _ from this]
    rw [show ∀ x y h, lpX6_search_91 (G + 1) 139 (nI n) (nI gs.length) W0 (nI (gb_od (gb_k0 gs))) x y h = fbX6_search_91 (fun v0 v1 v3 v4 v5 v6 v7 h => lpX6_search_91 G v0 v1 v3 v4 v5 v6 v7 h) 139 (nI n) (nI gs.length) W0 (nI (gb_od (gb_k0 gs))) x y h from fun _ _ _ => rfl]
    unfold fbX6_search_91
    rw [if_neg (show ¬ (10000 : Int32) ≤ nI (0 + T) from nI_ge (b := 10000) (by omega) (by omega)), if_pos (show nI ([] : List Nat).length + (-1) < 0 by decide)]
    rfl
  · rw [t3.1 x y b1 b2 (by omega), w2 x y (by omega) b1]
    by_cases z : x = 139
    · subst z
      rw [fc 139 (by decide) (by decide), (fb 139 (by decide)).1, gb_u_nk _ _ (fun z => b1 ⟨rfl, z⟩), a2 139 (by omega)]
    · rw [fd x z (by omega) (by omega) (by omega)]
  · rw [t3.2 x b1 b2 b3, w3 x b1 b2, (fb x (by omega)).2]
  · rw [← dfsP_F] at t6
    rw [show gstC gs sh pl none [] = some [] from rfl, gfoldC] at t6
    rw [← gb_CR hgs g3 g1 hs n3]
    exact t6
end XPLAN
