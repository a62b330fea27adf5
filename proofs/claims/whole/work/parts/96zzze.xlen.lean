section XLEN
variable {S : gb_S} {I I' I1 I2 : gb_FI} {J J' J1 J2 : gb_FJ} {gs : List Nat} {sh : List gb_P} {ps qs : List gb_P} {pl n g k m q o N f : Nat} {r b pre : List Nat} {kl : List Nat} {p : gb_P}
theorem gkp_11 : ∀ z, z < 17 → 11 ≤ z → 286 ≤ z * (z + 1) * (z + 2) / 6 := by decide
theorem gkp_lo (h : gb_sk k) (hp : gb_kp k < 286) : k / 1024 < 11 := by
  refine Nat.lt_of_not_le (fun c => ?_)
  obtain ⟨b1, b2, b3, b4, b5⟩ := gb_sk_b h
  have := gkp_11 _ b3 c
  unfold gb_kp at hp
  rw [b5] at hp
  omega
theorem gkp_hi : ∀ z, z < 11 → ∀ y, y < 11 → ∀ x, x < 11 → gb_kp (gb_ky x y z) < 286 := by decide +kernel
/-- the planner stands behind a row -/
def gPI (gs : List Nat) (sh : List gb_P) (r : List Nat) (I : gb_FI) (J : gb_FJ) : Prop :=
  (∀ l, l ≤ r.length → gBm gs (gpt sh (r.take l)) (196 + 7 * l) I J ∧ I 142 l = nI (zD gs.length (gpt sh (r.take l)))) ∧ (∀ i j, r[i]? = some j → I 143 i = nI j) ∧ (∀ l, l < 4 → ∃ kl, xBl I J (196 + 7 * l) 286 kl) ∧ (∀ i p, sh[i]? = some p → xP (I (118 + i)) p ∧ ∀ s, s < 17 → xOs I (148 + 6 * i) s (gb_tb p 2 s)) ∧ I 116 1 = nI sh.length
theorem gPI.kp (h : gPI gs sh r I J) (f : ∀ x, x ≠ 139 → x ≠ 144 → x ≠ 145 → I' x = I x) (fJ : ∀ x, 196 ≤ x → x ≤ 223 → J' x = J x) (rl : r.length ≤ 3) (s8 : sh.length ≤ 8) : gPI gs sh r I' J' := by
  have xb : ∀ l kl, l < 4 → xBl I J (196 + 7 * l) 286 kl → xBl I' J' (196 + 7 * l) 286 kl := fun l kl hl hx => hx.k (fun m m1 m2 => ⟨f m (by omega) (by omega) (by omega), fJ m (by omega) (by omega)⟩)
  have gqe : ∀ l, l < 4 → gq J' (196 + 7 * l) = gq J (196 + 7 * l) := fun l hl => by
    funext x
    unfold gq
    rw [fJ _ (by omega) (by omega), fJ _ (by omega) (by omega), fJ _ (by omega) (by omega), fJ _ (by omega) (by omega)]
  obtain ⟨h1, h2, h3, h4, h5⟩ := h
  refine ⟨fun l hl => ?_, fun i j hj => by rw [f 143 (by decide) (by decide) (by decide)]; exact h2 i j hj, fun l hl => (h3 l hl).imp (fun kl hx => xb l kl hl hx), fun i p hp => ?_, by rw [f 116 (by decide) (by decide) (by decide)]; exact h5⟩
  · obtain ⟨⟨kl, a, b⟩, c⟩ := h1 l hl
    refine ⟨⟨kl, xb l kl (by omega) a, fun F => by rw [gqe l (by omega)]; exact b F⟩, by rw [f 142 (by decide) (by decide) (by decide)]; exact c⟩
  · have il := (List.getElem?_eq_some_iff.mp hp).1
    obtain ⟨a, b⟩ := h4 i p hp
    refine ⟨by rw [f (118 + i) (by omega) (by omega) (by omega)]; exact a, fun s hs => ?_⟩
    have := b s hs
    unfold xOs at this ⊢
    rw [f (148 + 6 * i + 1) (by omega) (by omega) (by omega), f (148 + 6 * i + 2) (by omega) (by omega) (by omega), f (148 + 6 * i + 3) (by omega) (by omega) (by omega), f (148 + 6 * i + 4) (by omega) (by omega) (by omega), f (148 + 6 * i + 5) (by omega) (by omega) (by omega)]
    exact this
theorem x_isVain (g3 : gs.length ≤ 3) (hgs : ∀ m ∈ gs, m < 10) (hw : gb_wl 0 0 ps) (hB : gb_BM o 286) (hm : gBm gs ps o I J) (hq : ∀ (I : gb_FI) (J : gb_FJ), gb_k (gb_mk I J) q 5 = true) (hp : xP (I q) p) (ok : gb_pOK p) (last : Prop) [Decidable last] : ∃ v : Int32, fnX6_isVain q o (if last then 1 else 0) (gb_mk I J) = some (v, gb_mk I J) ∧ ((last ∧ ¬ gjn p = true) ∨ ¬ gMet gs.length ps (gb_k0 gs) p → v = 1) ∧ (¬ ((last ∧ ¬ gjn p = true) ∨ ¬ gMet gs.length ps (gb_k0 gs) p) → v = 0) := by
  obtain ⟨w, s1, s2, s3⟩ := x_isMet g3 hgs hw hB hm hq hp ok
  have f11 : ∃ v : Int32, fbX6_isVain_11 q o (gb_mk I J) = some (v, gb_mk I J) ∧ (¬ gMet gs.length ps (gb_k0 gs) p → v = 1) ∧ (gMet gs.length ps (gb_k0 gs) p → v = 0) := by
    unfold fbX6_isVain_11 fbX6_isVain_19 fbX6_isVain_24
    rw [(hB.2 I J).1, gb_gd_t, s1, gb_bd_s, gb_b_0, gb_b_1, gb_gd_t, gb_gd_t]
    by_cases c : gMet gs.length ps (gb_k0 gs) p
    · rw [s2 c, if_neg gb_n10]
      exact ⟨0, rfl, fun z => absurd c z, fun _ => rfl⟩
    · rw [s3 c, if_pos (show (0 : Int32) = 0 from rfl)]
      exact ⟨1, rfl, fun _ => rfl, fun z => absurd z c⟩
  obtain ⟨v, t1, t2, t3⟩ := f11
  unfold fnX6_isVain
  by_cases c : last
  · rw [if_pos c, if_neg gb_n10, hq, gb_gd_t, x_joins hq hp ok, gb_bd_s]
    by_cases j : gjn p = true
    · rw [if_pos j, if_neg gb_n10]
      refine ⟨v, t1, fun z => t2 ?_, fun z => t3 (Classical.byContradiction (fun y => z (Or.inr y)))⟩
      rcases z with z | z
      · exact absurd j z.2
      · exact z
    · rw [if_neg j, if_pos (show (0 : Int32) = 0 from rfl)]
      unfold fbX6_isVain_19 fbX6_isVain_24
      rw [gb_b_1, gb_gd_t]
      exact ⟨1, rfl, fun _ => rfl, fun z => absurd (Or.inl ⟨c, j⟩) z⟩
  · rw [if_neg c, if_pos (show (0 : Int32) = 0 from rfl)]
    refine ⟨v, t1, fun z => t2 ?_, fun z => t3 (Classical.byContradiction (fun y => z (Or.inr y)))⟩
    rcases z with z | z
    · exact absurd z.1 c
    · exact z
theorem gb_opsA (qs : List gb_P) (F : Nat → gb_q) : ∀ ps : List gb_P, gb_ops (ps ++ qs) F = gb_ops ps (gb_ops qs F)
  | [] => rfl
  | p :: ps => by
    show (if p.1 = 5 then gb_ops (ps ++ qs) F else gb_op p (gb_ops (ps ++ qs) F)) = (if p.1 = 5 then gb_ops ps (gb_ops qs F) else gb_op p (gb_ops ps (gb_ops qs F)))
    rw [gb_opsA qs F ps]
theorem x_lengthen (hgs : ∀ m ∈ gs, m < 10) (g3 : gs.length ≤ 3) (hs : ∀ p ∈ sh, gso p) (s8 : sh.length ≤ 8) (n3 : n ≤ 3) (rl : r.length < n) (ri : ∀ x ∈ r, x < sh.length) (rd : zD gs.length (gpt sh r) ≤ 300000) (h : gPI gs sh r I J) (hf : f < sh.length) (ef : I 144 r.length = nI f) :
    ∃ I2 J2, ∃ v : Int32, fnX6_lengthen 139 (nI r.length) (nI n) (nI gs.length) (gb_mk I J) = some (v, gb_mk I2 J2) ∧ (∀ x y, ¬ (142 ≤ x ∧ x ≤ 144) → ¬ (196 ≤ x ∧ x ≤ 223) → I2 x y = I x y) ∧ (∀ x, ¬ (196 ≤ x ∧ x ≤ 223) → J2 x = J x) ∧ (∀ l, l < r.length → I2 144 l = I 144 l) ∧ I2 144 r.length = nI (f + 1) ∧
      (gokc n gs.length (gb_k0 gs) sh r f = true → v = 1 ∧ gPI gs sh (r ++ [f]) I2 J2 ∧ I2 144 (r.length + 1) = 0) ∧ (¬ gokc n gs.length (gb_k0 gs) sh r f = true → v = 0 ∧ gPI gs sh r I2 J2) := by
  have sf : sh[f]? = some (sh.getD f (0, 0, 0, 0, 0, 0, 0, 0, 0)) := by rw [List.getD_eq_getElem?_getD, List.getElem?_eq_getElem hf]; rfl
  generalize hp : sh.getD f (0, 0, 0, 0, 0, 0, 0, 0, 0) = p at *
  have pso : gso p := hs p (List.mem_of_getElem? sf)
  have ok := pso.1.1
  have wl := gso_wl (gpt_so hs ri)
  have hq := gx_sk (j := f) (by omega)
  obtain ⟨h1, h2, h3, h4, h5⟩ := id h
  obtain ⟨p1, p2⟩ := h4 f p sf
  obtain ⟨bm, ed⟩ := h1 r.length (Nat.le_refl _)
  rw [List.take_length] at bm ed
  have e1 : gpt sh (r ++ [f]) = gpt sh r ++ [p] := by
    rw [gpt_app, ← hp]
    rfl
  have D3 : zD gs.length (gpt sh (r ++ [f])) = zD gs.length (gpt sh r) * gb_ba p ^ gs.length := by
    rw [e1, zD_app]
    show _ * (gb_ba p ^ gs.length * 1) = _
    rw [Nat.mul_one]
  have i144 : ∀ (I : gb_FI) (J : gb_FJ), gb_in (gb_mk I J) 144 (nI r.length) = true := fun I J => gi144 (by omega)
  have u144 : ∀ x, x ≠ 144 → gb_u I 144 r.length (nI (f + 1)) x = I x := fun x hx => gb_u_row _ _ hx
  have us : gb_u I 144 r.length (nI (f + 1)) 144 r.length = nI (f + 1) := gb_u_s _ _ _ _
  have un : ∀ l, l ≠ r.length → gb_u I 144 r.length (nI (f + 1)) 144 l = I 144 l := fun l hl => gb_u_nk _ _ hl
  unfold fnX6_lengthen
  rw [gk139, gb_gd_t, gr139_5, gb_rd_s, gk144, gb_gd_t, i144, gb_gd_t, gb_lt_d, gb_I_mk, nI_clamp (by omega), ef, gb_gd_t, gb_rd_s, gk144, gb_gd_t, i144, gb_gd_t, gb_gd_t, gb_gd_t, gb_lt_d, gb_sI_mk, ef, nI_1 f]
  generalize gb_u I 144 r.length (nI (f + 1)) = K at *
  have hK : gPI gs sh r K J := h.kp (fun x _ h2 _ => u144 x h2) (fun _ _ _ => rfl) (by omega) s8
  have bmK : gBm gs (gpt sh r) (196 + 7 * r.length) K J := by
    have := (hK.1 r.length (Nat.le_refl _)).1
    rw [List.take_length] at this
    exact this
  have pK : xP (K (118 + f)) p := by rw [u144 (118 + f) (by omega)]; exact p1
  rw [gk139, gb_gd_t, gr139_0, gb_rd_s, gk116, gb_gd_t, gr116_0, gb_rd_s, gk117, gb_gd_t, gi117 (by omega), gb_gd_t, nI_clamp (by omega), gx_sr (by omega), gb_rd_s, gb_gd_t, gr139_3, gb_rd_s, gk142, gb_gd_t, gi142 (by omega), gb_gd_t, hq, gb_gd_t, x_base hq pK ok, gb_bd_s, gb_I_mk, u144 142 (by decide), ed, x_deepen (gb_ba_b p) (by omega) (by omega), gb_bd_s, ← D3]
  have no : ∀ v : Int32, v = 0 → ¬ gokc n gs.length (gb_k0 gs) sh r f = true → ∃ I2 J2, ∃ w : Int32, (some (v, gb_mk K J) : Option (Int32 × gb_H)) = some (w, gb_mk I2 J2) ∧ (∀ x y, ¬ (142 ≤ x ∧ x ≤ 144) → ¬ (196 ≤ x ∧ x ≤ 223) → I2 x y = I x y) ∧ (∀ x, ¬ (196 ≤ x ∧ x ≤ 223) → J2 x = J x) ∧ (∀ l, l < r.length → I2 144 l = I 144 l) ∧ I2 144 r.length = nI (f + 1) ∧ (gokc n gs.length (gb_k0 gs) sh r f = true → w = 1 ∧ gPI gs sh (r ++ [f]) I2 J2 ∧ I2 144 (r.length + 1) = 0) ∧ (¬ gokc n gs.length (gb_k0 gs) sh r f = true → w = 0 ∧ gPI gs sh r I2 J2) := fun v hv nk =>
    ⟨K, J, v, rfl, fun x y a _ => by rw [u144 x (by omega)], fun _ _ => rfl, fun l hl => un l (by omega), us, fun z => absurd z nk, fun _ => ⟨hv, hK⟩⟩
  by_cases d : zD gs.length (gpt sh (r ++ [f])) ≤ 300000
  · rw [Nat.min_eq_left (by omega), if_neg (show ¬ (300000 : Int32) < nI _ from nI_nlt (a := 300000) d (by omega)), gk139, gb_gd_t, gr139_2, gb_rd_s, gk141, gb_gd_t, gi141 (by omega), gb_gd_t, gx_bm (by omega), gb_rd_s, nI_1]
    obtain ⟨v, s1, s2, s3⟩ := x_isVain (last := n ≤ r.length + 1) g3 hgs wl (gx_BM (show r.length < 4 by omega)) bmK hq pK ok
    have e74 : (if nI (r.length + 1) < nI n then fbX6_lengthen_74 139 (nI r.length) (nI f) (118 + f) (nI (zD gs.length (gpt sh (r ++ [f])))) (118 + f) (196 + 7 * r.length) 0 (gb_mk K J) else fbX6_lengthen_74 139 (nI r.length) (nI f) (118 + f) (nI (zD gs.length (gpt sh (r ++ [f])))) (118 + f) (196 + 7 * r.length) 1 (gb_mk K J)) = fbX6_lengthen_74 139 (nI r.length) (nI f) (118 + f) (nI (zD gs.length (gpt sh (r ++ [f])))) (118 + f) (196 + 7 * r.length) (if n ≤ r.length + 1 then 1 else 0) (gb_mk K J) := by
      by_cases c : n ≤ r.length + 1
      · rw [if_pos c, if_neg (nI_nlt c (by omega))]
      · rw [if_neg c, if_pos (nI_lt (by omega) (by omega))]
    rw [e74]
    unfold fbX6_lengthen_74 fbX6_lengthen_80
    rw [s1, gb_bd_s]
    have vn : gVain n gs.length (gb_k0 gs) sh r f ↔ ((n ≤ r.length + 1 ∧ ¬ gjn p = true) ∨ ¬ gMet gs.length (gpt sh r) (gb_k0 gs) p) := by unfold gVain; rw [hp]
    by_cases vv : gVain n gs.length (gb_k0 gs) sh r f
    · rw [s2 (vn.mp vv), if_neg gb_n10]
      exact no 0 rfl (fun z => (gokc_t.mp z).2 vv)
    · rw [s3 (fun z => vv (vn.mpr z)), if_pos (show (0 : Int32) = 0 from rfl)]
      have okc : gokc n gs.length (gb_k0 gs) sh r f = true := gokc_t.mpr ⟨d, vv⟩
      have l4 : r.length + 1 < 4 := by omega
      have kA : ∀ x, x ≠ 143 → gb_u K 143 r.length (nI f) x = K x := fun x hx => gb_u_row _ _ hx
      obtain ⟨kl, bk1, bk2⟩ := bmK
      obtain ⟨kl', bk'⟩ := hK.2.2.1 (r.length + 1) l4
      have hK4 := hK.2.2.2.1 f p sf
      obtain ⟨I3, J3, kl3, x1, x2, x3, x4⟩ := x_send (I := gb_u K 143 r.length (nI f)) (J := J) (o := 196 + 7 * r.length) (n := 286) (o' := 196 + 7 * (r.length + 1)) (n' := 286) (op := 148 + 6 * f) (q := 118 + f) (p := p) (gx_BM (by omega)) (gx_BM l4) (gb_OPp f (by omega)) (by omega) (by omega) hq (by omega) (by rw [kA (118 + f) (by omega)]; exact pK) ok (bk1.k (fun m m1 m2 => ⟨kA m (by omega), rfl⟩)) (bk'.k (fun m m1 m2 => ⟨kA m (by omega), rfl⟩)) (fun s hs' => by
        have := hK4.2 s hs'
        unfold xOs at this ⊢
        rw [kA (148 + 6 * f + 1) (by omega), kA (148 + 6 * f + 2) (by omega), kA (148 + 6 * f + 3) (by omega), kA (148 + 6 * f + 4) (by omega), kA (148 + 6 * f + 5) (by omega)]
        exact this) (fun k hk => by
        obtain ⟨i, hi⟩ := List.mem_iff_getElem?.mp hk
        obtain ⟨_, sk, kp, _⟩ := bk1.2.1 i k hi
        have lo := gkp_lo sk kp
        have sk' := sk
        unfold gb_sk at sk'
        refine ⟨kp, fun ex hx ey hy ez hz => ?_⟩
        have nl := gso_nl pso
        have a1 := (zk_tg pso.1 (by decide) (show k % 32 < 11 + 2 * 0 by omega) hx).1
        have a2 := (zk_tg pso.1 (by decide) (show k / 32 % 32 < 11 + 2 * 0 by omega) hy).1
        have a3 := (zk_tg pso.1 (by decide) (show k / 1024 < 11 + 2 * 0 by omega) hz).1
        rw [nl] at a1 a2 a3
        exact gkp_hi _ (by omega) _ (by omega) _ (by omega))
      rw [gk139, gb_gd_t, gr139_4, gb_rd_s, gk143, gb_gd_t, gi143 (by omega), gb_gd_t, gb_lt_d, gb_sI_mk, nI_clamp (by omega), gk139, gb_gd_t, gr139_2, gb_rd_s, gk141, gb_gd_t, gi141 (by omega), gb_gd_t, gx_bm (by omega), gb_rd_s, gb_gd_t, gr139_1, gb_rd_s, gk140, gb_gd_t, gi140 (by omega), gb_gd_t, nI_clamp (by omega), gx_op (by omega), gb_rd_s, gb_gd_t, gb_rd_s, gb_lt_d, nI_1, gk141, gb_gd_t, gi141 l4, gb_gd_t, nI_clamp (by omega), gx_bm l4, gb_rd_s, ((gx_BM (show r.length < 4 by omega)).2 _ _).1, gb_gd_t, x1, gb_bd_s, gk139, gb_gd_t, gr139_3, gb_rd_s, gb_lt_d, gk142, gb_gd_t, gi142 l4, gb_gd_t, gb_lt_d, gb_sI_mk, gk139, gb_gd_t, gr139_5, gb_rd_s, gb_lt_d, gk144, gb_gd_t, gi144 l4, gb_gd_t, gb_lt_d, gb_sI_mk, nI_clamp (show r.length + 1 < 2 ^ 31 by omega)]
      have fin : ∀ x, x ≠ 142 → x ≠ 143 → x ≠ 144 → (x < 196 + 7 * (r.length + 1) ∨ 196 + 7 * (r.length + 1) + 6 < x) → gb_u (gb_u I3 142 (r.length + 1) (nI (zD gs.length (gpt sh (r ++ [f]))))) 144 (r.length + 1) 0 x = I x := fun x a1 a2 a3 a4 => by
        rw [gb_u_row _ _ a3, gb_u_row _ _ a1, (x3 x a4).1, kA x a2, u144 x a3]
      have f142 : ∀ l, gb_u (gb_u I3 142 (r.length + 1) (nI (zD gs.length (gpt sh (r ++ [f]))))) 144 (r.length + 1) 0 142 l = if l = r.length + 1 then nI (zD gs.length (gpt sh (r ++ [f]))) else I 142 l := fun l => by
        rw [gb_u_ne _ _ (by decide), gb_ua, (x3 142 (by omega)).1, kA 142 (by decide), u144 142 (by decide)]
      have f143 : ∀ l, gb_u (gb_u I3 142 (r.length + 1) (nI (zD gs.length (gpt sh (r ++ [f]))))) 144 (r.length + 1) 0 143 l = if l = r.length then nI f else I 143 l := fun l => by
        rw [gb_u_ne _ _ (by decide), gb_u_ne _ _ (by decide), (x3 143 (by omega)).1, gb_ua, u144 143 (by decide)]
      have f144 : ∀ l, gb_u (gb_u I3 142 (r.length + 1) (nI (zD gs.length (gpt sh (r ++ [f]))))) 144 (r.length + 1) 0 144 l = if l = r.length + 1 then 0 else K 144 l := fun l => by
        rw [gb_ua, gb_u_ne _ _ (by decide), (x3 144 (by omega)).1, kA 144 (by decide)]
      have fB : ∀ x, 196 + 7 * (r.length + 1) ≤ x → x ≤ 196 + 7 * (r.length + 1) + 6 → gb_u (gb_u I3 142 (r.length + 1) (nI (zD gs.length (gpt sh (r ++ [f]))))) 144 (r.length + 1) 0 x = I3 x := fun x a1 a2 => by
        rw [gb_u_row _ _ (by omega), gb_u_row _ _ (by omega)]
      generalize gb_u (gb_u I3 142 (r.length + 1) (nI (zD gs.length (gpt sh (r ++ [f]))))) 144 (r.length + 1) 0 = I4 at *
      have xo : ∀ l kl, l < 4 → l ≠ r.length + 1 → xBl I J (196 + 7 * l) 286 kl → xBl I4 J3 (196 + 7 * l) 286 kl := fun l kl hl hn hx => hx.k (fun m m1 m2 => ⟨fin m (by omega) (by omega) (by omega) (by omega), (x3 m (by omega)).2⟩)
      have xn : xBl I4 J3 (196 + 7 * (r.length + 1)) 286 kl3 := x2.k (fun m m1 m2 => ⟨fB m m1 m2, rfl⟩)
      have gqo : ∀ l, l < 4 → l ≠ r.length + 1 → gq J3 (196 + 7 * l) = gq J (196 + 7 * l) := fun l hl hn => by
        funext x
        unfold gq
        rw [(x3 _ (by omega)).2, (x3 _ (by omega)).2, (x3 _ (by omega)).2, (x3 _ (by omega)).2]
      refine ⟨I4, J3, 1, rfl, fun x y a1 a2 => by rw [fin x (by omega) (by omega) (by omega) (by omega)], fun x a1 => (x3 x (by omega)).2, fun l hl => by rw [f144 l, if_neg (by omega), un l (by omega)], by rw [f144, if_neg (by omega), us], fun _ => ⟨rfl, ⟨fun l hl => ?_, fun i j hj => ?_, fun l hl => ?_, fun i p' hp' => ?_, ?_⟩, by rw [f144, if_pos rfl]⟩, fun z => absurd okc z⟩
      · rw [List.length_append, List.length_singleton] at hl
        rcases Nat.lt_or_ge l (r.length + 1) with c | c
        · have tk : (r ++ [f]).take l = r.take l := List.take_append_of_le_length (by omega)
          obtain ⟨⟨kl4, y1, y2⟩, y3⟩ := h1 l (by omega)
          rw [tk]
          refine ⟨⟨kl4, xo l kl4 (by omega) (by omega) y1, fun F => by rw [gqo l (by omega) (by omega)]; exact y2 F⟩, ?_⟩
          rw [f142, if_neg (by omega)]
          exact y3
        · obtain rfl : l = r.length + 1 := by omega
          have tk : (r ++ [f]).take (r.length + 1) = r ++ [f] := List.take_of_length_le (by simp)
          rw [tk]
          refine ⟨⟨kl3, xn, fun F => ?_⟩, by rw [f142, if_pos rfl]⟩
          rw [x4 F, bk2, e1, gb_opsA]
          show _ = (gb_ops (gpt sh r) (if p.1 = 5 then gb_ops [] F else gb_op p (gb_ops [] F)) (gb_k0 gs)).1
          rw [if_neg (by have := pso.2.1; omega)]
          rfl
      · rw [f143]
        rcases Nat.lt_or_ge i r.length with c | c
        · rw [List.getElem?_append_left c] at hj
          rw [if_neg (by omega)]
          exact h2 i j hj
        · rw [List.getElem?_append_right c] at hj
          have e0 : i - r.length = 0 := by
            have := (List.getElem?_eq_some_iff.mp hj).1
            simp at this
            omega
          rw [e0] at hj
          have : f = j := by simpa using hj
          rw [if_pos (by omega), this]
      · by_cases c : l = r.length + 1
        · rw [c]; exact ⟨kl3, xn⟩
        · exact (h3 l hl).imp (fun kl hx => xo l kl hl c hx)
      · have il := (List.getElem?_eq_some_iff.mp hp').1
        obtain ⟨a, b⟩ := h4 i p' hp'
        refine ⟨by rw [fin (118 + i) (by omega) (by omega) (by omega) (by omega)]; exact a, fun s hs' => ?_⟩
        have := b s hs'
        unfold xOs at this ⊢
        rw [fin (148 + 6 * i + 1) (by omega) (by omega) (by omega) (by omega), fin (148 + 6 * i + 2) (by omega) (by omega) (by omega) (by omega), fin (148 + 6 * i + 3) (by omega) (by omega) (by omega) (by omega), fin (148 + 6 * i + 4) (by omega) (by omega) (by omega) (by omega), fin (148 + 6 * i + 5) (by omega) (by omega) (by omega) (by omega)]
        exact this
      · rw [fin 116 (by decide) (by decide) (by decide) (by omega)]; exact h5
  · rw [if_pos (show (300000 : Int32) < nI _ from nI_lt (a := 300000) (by omega) (by omega))]
    unfold fbX6_lengthen_80
    exact no 0 rfl (fun z => d (gokc_t.mp z).1)
end XLEN
