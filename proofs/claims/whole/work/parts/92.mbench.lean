section MBENCH3
variable {S : gb_S} {I I' I1 I2 : gb_FI} {J J' : gb_FJ} {c : Nat → Nat} {n s cs ls a m b : Nat}
theorem mP.k {r r' : Nat → Int32} {x y : Nat} {p : gb_P} (h : mP r x p) (k : ∀ j, j < 8 → r' (y + j) = r (x + j)) : mP r' y p := by
  unfold mP at h ⊢
  have k0 := k 0 (by decide)
  rw [Nat.add_zero, Nat.add_zero] at k0
  rw [k0, k 1 (by decide), k 2 (by decide), k 3 (by decide), k 4 (by decide), k 5 (by decide), k 6 (by decide), k 7 (by decide)]
  exact h
/-- plans speak of the shelf as it stands -/
def gb_pls (S : gb_S) : Prop := ∀ q, S.2.2.2.2.2.2.2.2 = some q → ∀ (i j : Nat), q.1[i]? = some j → j < S.2.2.2.2.2.1.length
theorem RM.new (h : RM S I J) {bn : Nat → List gb_P} {sh : List gb_P} {f v : Int32} (k : ∀ x, x ≠ 241 → x ≠ 243 → x ≠ 244 → x ≠ 245 → x ≠ 246 → x ≠ 247 → x ≠ 249 → I' x = I x) (k1 : ∀ j, j = 1 ∨ j = 37 ∨ j = 46 → I' 241 j = I 241 j)
    (e14 : I' 241 14 = 0) (e18 : I' 241 18 = f) (e0 : I' 241 0 = v) (hB : mB (I' 244) (I' 243) bn) (hS : mS (I' 241 6) (I' 245) sh) (hp : gb_pls S) (hs : ∀ j, j < S.2.2.2.2.2.1.length → sh[j]? = S.2.2.2.2.2.1[j]?) : RM (S.1, v, [], f, bn, sh, S.2.2.2.2.2.2) I' J := by
  obtain ⟨h1, h2, h3, h4, h5, h6, h7, h8, h9⟩ := h
  have kk : ∀ x, x = 242 ∨ x = 260 ∨ x = 261 ∨ x = 262 ∨ x = 263 ∨ x = 267 ∨ x = 268 → I' x = I x := fun x hx => k x (by omega) (by omega) (by omega) (by omega) (by omega) (by omega) (by omega)
  refine ⟨?_, e0, ⟨e14, fun i b hb => absurd hb (by simp)⟩, e18, hB, hS, ?_, ?_, ?_⟩
  · rw [k1 1 (by decide), kk 242 (by decide)]; exact h1
  · rw [kk 260 (by decide)]; exact h7
  · rw [k1 37 (by decide), kk 261 (by decide), kk 262 (by decide), kk 263 (by decide)]; exact h8
  · rw [k1 46 (by decide), kk 268 (by decide), kk 267 (by decide)]
    show mL (I 241 46) (I 268) (I 267) (J 241) sh S.2.2.2.2.2.2.2.2
    unfold gb_pls at hp
    revert h9 hp
    generalize S.2.2.2.2.2.2.2.2 = pl
    cases pl with
    | none => exact fun _ h => h
    | some q =>
      rintro hp ⟨a, b, d⟩
      refine ⟨a, fun i j hi => ⟨(b i j hi).1, fun p hpp => (b i j hi).2 p ?_⟩, d⟩
      rw [← hs j (hp q rfl i j hi)]
      exact hpp
theorem gb_fm.k (k : ∀ m, m < 241 → I' m = I m) : gb_fm I I' J J := fun n hn => ⟨k n hn, rfl⟩
theorem mT.h (hT : S.2.2.1.length ≤ 400 ∧ ∀ b ∈ S.2.2.1, b < 256) (h : RM S I J) : ∀ i, i < S.2.2.1.length → gb_cc S.2.2.1 i < 256 ∧ I 248 i = sb_b (gb_cc S.2.2.1 i) := by
  intro i hi
  have g : S.2.2.1[i]? = some (S.2.2.1[i]) := List.getElem?_eq_getElem hi
  have g2 : gb_cc S.2.2.1 i = S.2.2.1[i] := by
    unfold gb_cc
    rw [List.getD_eq_getElem?_getD, g]; rfl
  rw [g2]
  exact ⟨hT.2 _ (List.getElem_mem hi), h.2.2.1.2 i _ g⟩
theorem m_text {b' : Int32} (h : mRd I c n (gt_s c n 0)) (g : I 241 19 = -1) (hc : mCs I 0) (h10 : I 241 10 = nI 0) (h9 : I 241 9 = nI 0) : match g_text c n with
    | .error e => ∃ I', (if (nI n : Int32) ≤ nI (gt_s c n 0) then lpX11_bench_40 gb_FU 241 b' (gb_mk I J) else gb_bd (fnX11_part 241 (gb_mk I J)) fun _ h17 => lpX11_bench_40 gb_FU 241 b' h17) = fbX11_bench_78 241 b' (gb_mk I' J) ∧ I' 241 19 = nI e ∧ gm_fp 0 I I'
    | .ok ps => ∃ I', (if (nI n : Int32) ≤ nI (gt_s c n 0) then lpX11_bench_40 gb_FU 241 b' (gb_mk I J) else gb_bd (fnX11_part 241 (gb_mk I J)) fun _ h17 => lpX11_bench_40 gb_FU 241 b' h17) = fbX11_bench_78 241 b' (gb_mk I' J) ∧ I' 241 19 = -1 ∧ I' 241 9 = nI ps.length ∧ (∀ j p, ps[j]? = some p → mP (I' 246) (8 * j) p) ∧ gm_fp 0 I I' := by
  have hn := h.1.1
  have hs := h.2.1
  unfold g_text
  by_cases q : gt_s c n 0 < n
  · rw [if_pos q, if_neg (show ¬ nI n ≤ nI (gt_s c n 0) from nI_ge q (by omega)), g_parts_1]
    have u := m_part (J := J) h g hc h10 (by decide) h9 (by decide)
    have bb := fun r => g_part_b (c := c) (n := n) (s := gt_s c n 0) (cs := 0) (ls := 0) (by decide) (by decide) (r := r)
    have we := (g_part_e (c := c) (cs := 0) (ls := 0) hs).1
    revert u bb we
    cases g_part c n 0 0 (gt_s c n 0) with
    | error e =>
      rintro ⟨I2, b1, b2, b3⟩ - we
      have := we e rfl
      refine ⟨I2, ?_, b2, b3.z⟩
      rw [b1, gb_bd_s]
      exact m_loopB (mBd.of b2 (by omega)) 999999 b'
    | ok r =>
      rintro ⟨I2, b1, b2, b3, b4, b5, b6, b7, b8⟩ bb -
      obtain ⟨c1, c2⟩ := bb r rfl
      have v := m_loop (J := J) (b := b') (c := c) (n := n) 15 gb_FU r.1.2.1 r.1.2.2 r.2 [r.1.1] I2 rfl (by decide) b2 b3 b4 b5 c2 b6 (fun j p hj => by
        have ej : j = 0 := by
          by_cases w : j = 0
          · exact w
          · rw [List.getElem?_eq_none (by simp; omega)] at hj
            exact absurd hj (by simp)
        subst ej
        have : r.1.1 = p := by simpa using hj
        rw [← this]
        exact b7)
      rw [b1, gb_bd_s]
      revert v
      show _ → match g_after c n 15 r.1.2.1 r.1.2.2 r.2 [r.1.1] with
        | .error e => _
        | .ok ps => _
      cases g_after c n 15 r.1.2.1 r.1.2.2 r.2 [r.1.1] with
      | error e =>
        rintro ⟨I3, z1, z2, z3⟩
        exact ⟨I3, z1, z2, b8.z.t z3⟩
      | ok ps =>
        rintro ⟨I3, z1, z2, z3, z4, z5⟩
        exact ⟨I3, z1, z2, z3, z4, b8.z.t z5⟩
  · rw [if_neg q, if_pos (show nI n ≤ nI (gt_s c n 0) from nI_le (by omega) (by omega))]
    have v := m_loop (J := J) (b := b') (c := c) (n := n) 16 gb_FU 0 0 (gt_s c n 0) [] I rfl (by decide) h g hc h10 (by decide) h9 (fun j p hj => absurd hj (by simp))
    unfold g_after at v
    rw [if_neg q] at v
    exact v
theorem M_bench (hT : S.2.2.1.length ≤ 400 ∧ ∀ b ∈ S.2.2.1, b < 256) (hp : gb_pls S) (h16 : ∀ b, b < 4 → (S.2.2.2.2.1 b).length ≤ 16) (h : RM S I J) (b : Int32) : mok (fnX11_bench 241 b) I J (a_bench b S) := by
  have h8 := mT.h hT h
  have h14 := h.2.2.1.1
  have hn := hT.1
  unfold a_bench mok
  simp only [fnX11_bench, m_inR _ 3 (by decide) _ (show (3 : Int32) = nI 3 from rfl), gb_lt_d, gb_gd_t, gb_rd_s, gb_bd_s, gb_I_mk, gb_L_mk, gb_sI_mk, gb_sL_mk, gk241, gr241_2, gr241_3, gr241_4, gr241_5, gr241_7, gr241_8, gr241_11, gr241_12, gr241_13, gr241_20, gr241_21, gr241_22, gr241_26, gr241_27, gr241_28, gr241_29, gr241_31, gr241_32, gr241_33, gr241_38, gr241_39, gr241_40, gr241_41, gr241_42, gr241_43, gr241_44, gr241_45]
  by_cases h1 : gb_rg b 4 = true
  · rw [if_pos (show gb_rg b (3 + 1) = true from h1), if_pos h1, if_neg gb_n10]
    obtain ⟨b', hb, _, rfl⟩ := gb_rgT h1
    rw [nI_clamp (by omega)]
    obtain ⟨I1, a1, a2, a3, a4, a5, a6, a7, a8, a9⟩ := m_begins (J := J) hn h14 h8
    simp only [a1, gb_lt_d, gb_gd_t, gb_rd_s, gb_bd_s, gb_I_mk, gb_L_mk, gb_sI_mk, gb_sL_mk, gk241, gr241_2, gr241_3, gr241_4, gr241_5, gr241_7, gr241_8, gr241_11, gr241_12, gr241_13, gr241_20, gr241_21, gr241_22, gr241_26, gr241_27, gr241_28, gr241_29, gr241_31, gr241_32, gr241_33, gr241_38, gr241_39, gr241_40, gr241_41, gr241_42, gr241_43, gr241_44, gr241_45, a2.1.2.1, a2.2.2.1]
    have t := m_text (J := J) (b' := nI b') a2 a3 a4 a5 a6
    have we := fun e => g_text_e (c := gb_cc S.2.2.1) (n := S.2.2.1.length) (e := e)
    have wo := fun ps => g_text_w (c := gb_cc S.2.2.1) (n := S.2.2.1.length) (ps := ps)
    revert t we wo
    cases g_text (gb_cc S.2.2.1) S.2.2.1.length with
    | error e =>
      rintro ⟨I2, b1, b2, b3⟩ we -
      have he := we e rfl
      have kx : ∀ x, x ≠ 241 → x ≠ 246 → x ≠ 247 → x ≠ 249 → I2 x = I x := fun x x1 x2 x3 x4 => (b3.1 x x1 x2 x3).trans (a8 x x1 x3 x4)
      have ky : ∀ j, j = 1 ∨ j = 6 ∨ j = 37 ∨ j = 46 → I2 241 j = I 241 j := fun j hj => (b3.2.1 j (by omega) (by omega) (by omega) (by omega) (by omega)).trans (a9 j (by omega) (by omega) (by omega) (by omega) (by omega) (by omega) (by omega))
      refine ⟨gb_u (gb_u I2 241 18 (nI e)) 241 0 (-6), J, ?_, ?_, gb_fm.k (fun m hm => ?_)⟩
      · rw [b1]
        exact m_bench78B (by omega) b2 _
      · refine h.new (bn := S.2.2.2.2.1) (sh := S.2.2.2.2.2.1) (f := nI e) (v := -6) (fun x x1 x2 x3 x4 x5 x6 x7 => ?_) (fun j hj => ?_) ?_ ?_ (gb_u_s _ _ _ _) ?_ ?_ hp (fun _ _ => rfl)
        · rw [gb_u_row _ _ x1, gb_u_row _ _ x1]; exact kx x x1 x5 x6 x7
        · rw [gb_u_nk _ _ (by omega), gb_u_nk _ _ (by omega)]; exact ky j (by omega)
        · rw [gb_u_nk _ _ (by decide), gb_u_nk _ _ (by decide), b3.2.1 14 (by decide) (by decide) (by decide) (by decide) (by decide)]; exact a7
        · rw [gb_u_nk _ _ (by decide), gb_u_s]
        · rw [gb_u_row _ _ (by decide), gb_u_row _ _ (by decide), gb_u_row _ _ (by decide), gb_u_row _ _ (by decide), kx 244 (by decide) (by decide) (by decide) (by decide), kx 243 (by decide) (by decide) (by decide) (by decide)]
          exact h.2.2.2.2.1
        · rw [gb_u_nk _ _ (by decide), gb_u_nk _ _ (by decide), gb_u_row _ _ (by decide), gb_u_row _ _ (by decide), kx 245 (by decide) (by decide) (by decide) (by decide), ky 6 (by decide)]
          exact h.2.2.2.2.2.1
      · rw [gb_u_row _ _ (by omega), gb_u_row _ _ (by omega)]; exact kx m (by omega) (by omega) (by omega) (by omega)
    | ok ps =>
      rintro ⟨I2, b1, b2, b3, b4, b5⟩ - wo
      obtain ⟨w1, w2⟩ := wo ps rfl
      have kx : ∀ x, x ≠ 241 → x ≠ 246 → x ≠ 247 → x ≠ 249 → I2 x = I x := fun x x1 x2 x3 x4 => (b5.1 x x1 x2 x3).trans (a8 x x1 x3 x4)
      have ky : ∀ j, j = 1 ∨ j = 6 ∨ j = 37 ∨ j = 46 → I2 241 j = I 241 j := fun j hj => (b5.2.1 j (by omega) (by omega) (by omega) (by omega) (by omega)).trans (a9 j (by omega) (by omega) (by omega) (by omega) (by omega) (by omega) (by omega))
      refine ⟨gb_u (gm_cb (gb_u (gb_u I2 241 18 (-1)) 244 b' (nI ps.length)) b' (8 * ps.length)) 241 0 0, J, ?_, ?_, gb_fm.k (fun m hm => ?_)⟩
      · rw [b1]
        exact m_bench78G b2 hb w1 b3
      · refine h.new (bn := gb_ub S.2.2.2.2.1 b' ps) (sh := S.2.2.2.2.2.1) (f := -1) (v := 0) (fun x x1 x2 x3 x4 x5 x6 x7 => ?_) (fun j hj => ?_) ?_ ?_ (gb_u_s _ _ _ _) ?_ ?_ hp (fun _ _ => rfl)
        · rw [gb_u_row _ _ x1, gm_cb_ne x2, gb_u_row _ _ x3, gb_u_row _ _ x1]; exact kx x x1 x5 x6 x7
        · rw [gb_u_nk _ _ (by omega), gm_cb_ne (by decide), gb_u_row _ _ (by decide), gb_u_nk _ _ (by omega)]; exact ky j (by omega)
        · rw [gb_u_nk _ _ (by decide), gm_cb_ne (by decide), gb_u_row _ _ (by decide), gb_u_nk _ _ (by decide), b5.2.1 14 (by decide) (by decide) (by decide) (by decide) (by decide)]; exact a7
        · rw [gb_u_nk _ _ (by decide), gm_cb_ne (by decide), gb_u_row _ _ (by decide), gb_u_s]
        · intro x hx
          rw [gb_u_row _ _ (by decide), gb_u_row _ _ (by decide), gm_cb_ne (by decide)]
          obtain ⟨q1, q2⟩ := h.2.2.2.2.1 x hx
          by_cases e : x = b'
          · subst e
            rw [show gb_ub S.2.2.2.2.1 x ps x = ps from if_pos rfl]
            refine ⟨gb_u_s _ _ _ _, fun i p hi => ?_⟩
            have hi' : i < ps.length := (List.getElem?_eq_some_iff.mp hi).1
            refine (b4 i p hi).k (fun j hj => ?_)
            rw [show 128 * x + 8 * i + j = 128 * x + (8 * i + j) by omega, gm_cb_i _ (by omega), gb_u_row _ _ (by decide), gb_u_row _ _ (by decide)]
          · rw [show gb_ub S.2.2.2.2.1 b' ps x = S.2.2.2.2.1 x from if_neg e, gb_u_nk _ _ e, gb_u_row _ _ (by decide), kx 244 (by decide) (by decide) (by decide) (by decide)]
            refine ⟨q1, fun i p hi => (q2 i p hi).k (fun j hj => ?_)⟩
            have hi' : i < 16 := Nat.lt_of_lt_of_le (List.getElem?_eq_some_iff.mp hi).1 (h16 x hx)
            rw [gm_cb_o _ (by omega), gb_u_row _ _ (by decide), gb_u_row _ _ (by decide), kx 243 (by decide) (by decide) (by decide) (by decide)]
        · rw [gb_u_nk _ _ (by decide), gm_cb_ne (by decide), gb_u_row _ _ (by decide), gb_u_nk _ _ (by decide), gb_u_row _ _ (by decide), gm_cb_ne (by decide), gb_u_row _ _ (by decide), gb_u_row _ _ (by decide), kx 245 (by decide) (by decide) (by decide) (by decide), ky 6 (by decide)]
          exact h.2.2.2.2.2.1
      · rw [gb_u_row _ _ (by omega), gm_cb_ne (by omega), gb_u_row _ _ (by omega), gb_u_row _ _ (by omega)]; exact kx m (by omega) (by omega) (by omega) (by omega)
  · rw [if_neg (show ¬ gb_rg b (3 + 1) = true from h1), if_neg h1, if_pos (show (0 : Int32) = 0 from rfl)]
    refine ⟨gb_u (gb_u I 241 14 0) 241 0 (-2), J, ?_, ?_, gb_fm.k (fun m hm => ?_)⟩
    · simp only [gb_lt_d, gb_gd_t, gb_rd_s, gb_bd_s, gb_I_mk, gb_L_mk, gb_sI_mk, gb_sL_mk, gk241, gr241_2, gr241_3, gr241_4, gr241_5, gr241_7, gr241_8, gr241_11, gr241_12, gr241_13, gr241_20, gr241_21, gr241_22, gr241_26, gr241_27, gr241_28, gr241_29, gr241_31, gr241_32, gr241_33, gr241_38, gr241_39, gr241_40, gr241_41, gr241_42, gr241_43, gr241_44, gr241_45, m_ends]
      rfl
    · refine h.new (bn := S.2.2.2.2.1) (sh := S.2.2.2.2.2.1) (f := S.2.2.2.1) (v := -2) (fun x x1 x2 x3 x4 x5 x6 x7 => ?_) (fun j hj => ?_) ?_ ?_ (gb_u_s _ _ _ _) ?_ ?_ hp (fun _ _ => rfl)
      · rw [gb_u_row _ _ x1, gb_u_row _ _ x1]
      · rw [gb_u_nk _ _ (by omega), gb_u_nk _ _ (by omega)]
      · rw [gb_u_nk _ _ (by decide), gb_u_s]
      · rw [gb_u_nk _ _ (by decide), gb_u_nk _ _ (by decide)]; exact h.2.2.2.1
      · rw [gb_u_row _ _ (by decide), gb_u_row _ _ (by decide), gb_u_row _ _ (by decide), gb_u_row _ _ (by decide)]; exact h.2.2.2.2.1
      · rw [gb_u_nk _ _ (by decide), gb_u_nk _ _ (by decide), gb_u_row _ _ (by decide), gb_u_row _ _ (by decide)]; exact h.2.2.2.2.2.1
    · rw [gb_u_row _ _ (by omega), gb_u_row _ _ (by omega)]
end MBENCH3
