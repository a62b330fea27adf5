section BEAM2
variable {I I' I1 I2 : gb_FI} {J J' J1 J2 : gb_FJ} {o n : Nat} {kl : List Nat}
/-- a beam against functionals of its products -/
def bP : List Nat → (Nat → gb_q) → (Nat → gb_q) → Int64
  | [], _, _ => 0
  | k :: l, X, F => q4 (X (gb_kp k)) (F k) + bP l X F
theorem bP_app {X F : Nat → gb_q} {k : Nat} : ∀ l, bP (l ++ [k]) X F = bP l X F + q4 (X (gb_kp k)) (F k)
  | [] => by show q4 (X (gb_kp k)) (F k) + 0 = 0 + q4 (X (gb_kp k)) (F k); grind
  | a :: l => by
    show q4 (X (gb_kp a)) (F a) + bP (l ++ [k]) X F = q4 (X (gb_kp a)) (F a) + bP l X F + q4 (X (gb_kp k)) (F k)
    rw [bP_app l]
    grind
theorem bP_keep {X X' F : Nat → gb_q} : ∀ l, (∀ k ∈ l, X' (gb_kp k) = X (gb_kp k)) → bP l X' F = bP l X F
  | [], _ => rfl
  | a :: l, h => by
    show q4 (X' (gb_kp a)) (F a) + bP l X' F = q4 (X (gb_kp a)) (F a) + bP l X F
    rw [h a (by simp), bP_keep l (fun k hk => h k (List.mem_cons_of_mem _ hk))]
theorem bP_upd {X X' F : Nat → gb_q} {k : Nat} {v : gb_q} (hX : X' (gb_kp k) = qA (X (gb_kp k)) v) (hO : ∀ p, p ≠ gb_kp k → X' p = X p) : ∀ l, (∀ (i j a a' : Nat), l[i]? = some a → l[j]? = some a' → gb_kp a = gb_kp a' → i = j) → k ∈ l → bP l X' F = bP l X F + q4 v (F k)
  | [], _, h => absurd h (by simp)
  | a :: l, d, h => by
    show q4 (X' (gb_kp a)) (F a) + bP l X' F = q4 (X (gb_kp a)) (F a) + bP l X F + q4 v (F k)
    by_cases e : a = k
    · subst e
      rw [hX, q4_A', bP_keep l (fun b hb => hO _ (fun w => by
        obtain ⟨i, hi⟩ := List.mem_iff_getElem?.mp hb
        have := d 0 (i + 1) a b (by simp) (by simpa using hi) w.symm
        omega))]
      grind
    · have hl : k ∈ l := by
        rcases List.mem_cons.mp h with w | w
        · exact absurd w.symm e
        · exact w
      rw [hO (gb_kp a) (fun w => by
        obtain ⟨i, hi⟩ := List.mem_iff_getElem?.mp hl
        have := d 0 (i + 1) a k (by simp) (by simpa using hi) w
        omega), bP_upd hX hO l (fun i j b b' hi hj w => by
        have := d (i + 1) (j + 1) b b' (by simpa using hi) (by simpa using hj) w
        omega) hl]
      grind
def gb_a4 (J : gb_FJ) (o p : Nat) (v : gb_q) : gb_FJ := gb_u (gb_u (gb_u (gb_u J (o + 3) p (J (o + 3) p + v.1)) (o + 4) p (J (o + 4) p + v.2.1)) (o + 5) p (J (o + 5) p + v.2.2.1)) (o + 6) p (J (o + 6) p + v.2.2.2)
theorem gq_a4 {p : Nat} {v : gb_q} : gq (gb_a4 J o p v) o p = qA (gq J o p) v := by
  unfold gq gb_a4 qA
  rw [gb_u_row _ _ (show o + 3 ≠ o + 6 by omega), gb_u_row _ _ (show o + 3 ≠ o + 5 by omega), gb_u_row _ _ (show o + 3 ≠ o + 4 by omega), gb_u_s, gb_u_row _ _ (show o + 4 ≠ o + 6 by omega), gb_u_row _ _ (show o + 4 ≠ o + 5 by omega), gb_u_s, gb_u_row _ _ (show o + 5 ≠ o + 6 by omega), gb_u_s, gb_u_s]
theorem gq_a4n {p r : Nat} {v : gb_q} (h : r ≠ p) : gq (gb_a4 J o p v) o r = gq J o r := by
  unfold gq gb_a4
  rw [gb_u_nk _ _ h, gb_u_nk _ _ h, gb_u_nk _ _ h, gb_u_nk _ _ h, gb_u_nk _ _ h, gb_u_nk _ _ h, gb_u_nk _ _ h, gb_u_nk _ _ h, gb_u_nk _ _ h, gb_u_nk _ _ h, gb_u_nk _ _ h, gb_u_nk _ _ h, gb_u_nk _ _ h, gb_u_nk _ _ h, gb_u_nk _ _ h, gb_u_nk _ _ h]
theorem gb_a4_ne {p m : Nat} {v : gb_q} (h : m < o + 3 ∨ o + 6 < m) : gb_a4 J o p v m = J m := by
  unfold gb_a4
  rw [gb_u_row _ _ (by omega), gb_u_row _ _ (by omega), gb_u_row _ _ (by omega), gb_u_row _ _ (by omega)]
theorem x_add50 (hB : gb_BM o n) {p : Nat} (hp : p < n) (v : gb_q) : fbX0_add_50 o (nI p) v.1 v.2.1 v.2.2.1 v.2.2.2 (gb_mk I J) = some ((), gb_mk I (gb_a4 J o p v)) := by
  obtain ⟨hn, hO⟩ := hB
  have k0 : ∀ (I : gb_FI) (J : gb_FJ), gb_k (gb_mk I J) o 0 = true := fun I J => (hO I J).1
  have r0 : ∀ (I : gb_FI) (J : gb_FJ), gb_R (gb_mk I J) o 0 = some (o + 1) := fun I J => (hO I J).2.1
  have r1 : ∀ (I : gb_FI) (J : gb_FJ), gb_R (gb_mk I J) o 1 = some (o + 2) := fun I J => (hO I J).2.2.1
  have r2 : ∀ (I : gb_FI) (J : gb_FJ), gb_R (gb_mk I J) o 2 = some (o + 3) := fun I J => (hO I J).2.2.2.1
  have r3 : ∀ (I : gb_FI) (J : gb_FJ), gb_R (gb_mk I J) o 3 = some (o + 4) := fun I J => (hO I J).2.2.2.2.1
  have r4 : ∀ (I : gb_FI) (J : gb_FJ), gb_R (gb_mk I J) o 4 = some (o + 5) := fun I J => (hO I J).2.2.2.2.2.1
  have r5 : ∀ (I : gb_FI) (J : gb_FJ), gb_R (gb_mk I J) o 5 = some (o + 6) := fun I J => (hO I J).2.2.2.2.2.2.1
  have d1 : ∀ (I : gb_FI) (J : gb_FJ), gb_kd (gb_mk I J) (o + 1) = (20, n) := fun I J => (hO I J).2.2.2.2.2.2.2.1
  have d2 : ∀ (I : gb_FI) (J : gb_FJ), gb_kd (gb_mk I J) (o + 2) = (21, n) := fun I J => (hO I J).2.2.2.2.2.2.2.2.1
  have d3 : ∀ (I : gb_FI) (J : gb_FJ), gb_kd (gb_mk I J) (o + 3) = (23, n) := fun I J => (hO I J).2.2.2.2.2.2.2.2.2.1
  have d4 : ∀ (I : gb_FI) (J : gb_FJ), gb_kd (gb_mk I J) (o + 4) = (23, n) := fun I J => (hO I J).2.2.2.2.2.2.2.2.2.2.1
  have d5 : ∀ (I : gb_FI) (J : gb_FJ), gb_kd (gb_mk I J) (o + 5) = (23, n) := fun I J => (hO I J).2.2.2.2.2.2.2.2.2.2.2.1
  have d6 : ∀ (I : gb_FI) (J : gb_FJ), gb_kd (gb_mk I J) (o + 6) = (23, n) := fun I J => (hO I J).2.2.2.2.2.2.2.2.2.2.2.2
  have kk1 : ∀ (I : gb_FI) (J : gb_FJ), gb_k (gb_mk I J) (o + 1) 20 = true := fun I J => by simp [gb_k, d1]
  have kk2 : ∀ (I : gb_FI) (J : gb_FJ), gb_k (gb_mk I J) (o + 2) 21 = true := fun I J => by simp [gb_k, d2]
  have kk3 : ∀ (I : gb_FI) (J : gb_FJ), gb_k (gb_mk I J) (o + 3) 23 = true := fun I J => by simp [gb_k, d3]
  have kk4 : ∀ (I : gb_FI) (J : gb_FJ), gb_k (gb_mk I J) (o + 4) 23 = true := fun I J => by simp [gb_k, d4]
  have kk5 : ∀ (I : gb_FI) (J : gb_FJ), gb_k (gb_mk I J) (o + 5) 23 = true := fun I J => by simp [gb_k, d5]
  have kk6 : ∀ (I : gb_FI) (J : gb_FJ), gb_k (gb_mk I J) (o + 6) 23 = true := fun I J => by simp [gb_k, d6]
  have i2 : ∀ (I : gb_FI) (J : gb_FJ), gb_in (gb_mk I J) (o + 2) (nI p) = true := fun I J => gb_in_k (by rw [d2]) hp (by omega)
  have i3 : ∀ (I : gb_FI) (J : gb_FJ), gb_in (gb_mk I J) (o + 3) (nI p) = true := fun I J => gb_in_k (by rw [d3]) hp (by omega)
  have i4 : ∀ (I : gb_FI) (J : gb_FJ), gb_in (gb_mk I J) (o + 4) (nI p) = true := fun I J => gb_in_k (by rw [d4]) hp (by omega)
  have i5 : ∀ (I : gb_FI) (J : gb_FJ), gb_in (gb_mk I J) (o + 5) (nI p) = true := fun I J => gb_in_k (by rw [d5]) hp (by omega)
  have i6 : ∀ (I : gb_FI) (J : gb_FJ), gb_in (gb_mk I J) (o + 6) (nI p) = true := fun I J => gb_in_k (by rw [d6]) hp (by omega)
  simp (disch := omega) only [fbX0_add_50, gb_lt_d, gb_gd_t, gb_rd_s, gb_bd_s, gb_I_mk, gb_L_mk, gb_sI_mk, gb_sL_mk, k0, r2, r3, r4, r5, kk3, kk4, kk5, kk6, i3, i4, i5, i6, nI_clamp, gb_u_ne _ _ (show o + 4 ≠ o + 3 by omega), gb_u_ne _ _ (show o + 5 ≠ o + 4 by omega), gb_u_ne _ _ (show o + 5 ≠ o + 3 by omega), gb_u_ne _ _ (show o + 6 ≠ o + 5 by omega), gb_u_ne _ _ (show o + 6 ≠ o + 4 by omega), gb_u_ne _ _ (show o + 6 ≠ o + 3 by omega)]
  rfl
/-- a number added to a product -/
theorem x_add (hB : gb_BM o n) (h : xBl I J o n kl) {k : Nat} (hk : gb_sk k) (hp : gb_kp k < n) (v : gb_q) : ∃ I' J' kl', fnX0_add o (nI k) (nI (gb_kp k)) v.1 v.2.1 v.2.2.1 v.2.2.2 (gb_mk I J) = some ((), gb_mk I' J') ∧ xBl I' J' o n kl' ∧ gb_fB o I I' J J' ∧ ∀ F, bP kl' (gq J' o) F = bP kl (gq J o) F + q4 v (F k) := by
  have hlen := h.len
  have a50 := x_add50 (I := I) (J := J) hB hp v
  have hB' := hB
  obtain ⟨hn, hO⟩ := hB
  have k0 : ∀ (I : gb_FI) (J : gb_FJ), gb_k (gb_mk I J) o 0 = true := fun I J => (hO I J).1
  have r0 : ∀ (I : gb_FI) (J : gb_FJ), gb_R (gb_mk I J) o 0 = some (o + 1) := fun I J => (hO I J).2.1
  have r1 : ∀ (I : gb_FI) (J : gb_FJ), gb_R (gb_mk I J) o 1 = some (o + 2) := fun I J => (hO I J).2.2.1
  have r2 : ∀ (I : gb_FI) (J : gb_FJ), gb_R (gb_mk I J) o 2 = some (o + 3) := fun I J => (hO I J).2.2.2.1
  have r3 : ∀ (I : gb_FI) (J : gb_FJ), gb_R (gb_mk I J) o 3 = some (o + 4) := fun I J => (hO I J).2.2.2.2.1
  have r4 : ∀ (I : gb_FI) (J : gb_FJ), gb_R (gb_mk I J) o 4 = some (o + 5) := fun I J => (hO I J).2.2.2.2.2.1
  have r5 : ∀ (I : gb_FI) (J : gb_FJ), gb_R (gb_mk I J) o 5 = some (o + 6) := fun I J => (hO I J).2.2.2.2.2.2.1
  have d1 : ∀ (I : gb_FI) (J : gb_FJ), gb_kd (gb_mk I J) (o + 1) = (20, n) := fun I J => (hO I J).2.2.2.2.2.2.2.1
  have d2 : ∀ (I : gb_FI) (J : gb_FJ), gb_kd (gb_mk I J) (o + 2) = (21, n) := fun I J => (hO I J).2.2.2.2.2.2.2.2.1
  have d3 : ∀ (I : gb_FI) (J : gb_FJ), gb_kd (gb_mk I J) (o + 3) = (23, n) := fun I J => (hO I J).2.2.2.2.2.2.2.2.2.1
  have d4 : ∀ (I : gb_FI) (J : gb_FJ), gb_kd (gb_mk I J) (o + 4) = (23, n) := fun I J => (hO I J).2.2.2.2.2.2.2.2.2.2.1
  have d5 : ∀ (I : gb_FI) (J : gb_FJ), gb_kd (gb_mk I J) (o + 5) = (23, n) := fun I J => (hO I J).2.2.2.2.2.2.2.2.2.2.2.1
  have d6 : ∀ (I : gb_FI) (J : gb_FJ), gb_kd (gb_mk I J) (o + 6) = (23, n) := fun I J => (hO I J).2.2.2.2.2.2.2.2.2.2.2.2
  have kk1 : ∀ (I : gb_FI) (J : gb_FJ), gb_k (gb_mk I J) (o + 1) 20 = true := fun I J => by simp [gb_k, d1]
  have kk2 : ∀ (I : gb_FI) (J : gb_FJ), gb_k (gb_mk I J) (o + 2) 21 = true := fun I J => by simp [gb_k, d2]
  have kk3 : ∀ (I : gb_FI) (J : gb_FJ), gb_k (gb_mk I J) (o + 3) 23 = true := fun I J => by simp [gb_k, d3]
  have kk4 : ∀ (I : gb_FI) (J : gb_FJ), gb_k (gb_mk I J) (o + 4) 23 = true := fun I J => by simp [gb_k, d4]
  have kk5 : ∀ (I : gb_FI) (J : gb_FJ), gb_k (gb_mk I J) (o + 5) 23 = true := fun I J => by simp [gb_k, d5]
  have kk6 : ∀ (I : gb_FI) (J : gb_FJ), gb_k (gb_mk I J) (o + 6) 23 = true := fun I J => by simp [gb_k, d6]
  obtain ⟨a, b, c, d⟩ := h
  have i2 : ∀ (I : gb_FI) (J : gb_FJ), gb_in (gb_mk I J) (o + 2) (nI (gb_kp k)) = true := fun I J => gb_in_k (by rw [d2]) hp (by omega)
  have nk : ∀ k', k' ∈ kl → gb_kp k' = gb_kp k → k' = k := fun k' hk' e => by
    obtain ⟨i, hi⟩ := List.mem_iff_getElem?.mp hk'
    exact gb_kp_inj (b i k' hi).2.1 hk e
  unfold fnX0_add
  rw [if_neg (nI_pos (by omega)), k0, gb_gd_t, r1, gb_rd_s, kk2, gb_gd_t, d2, if_pos (show nI (gb_kp k) < Int32.ofNat n from nI_lt hp (by omega)), gb_gd_t, gb_rd_s, kk2, gb_gd_t, i2, gb_gd_t, nI_clamp (by omega)]
  by_cases m : k ∈ kl
  · obtain ⟨i, hi⟩ := List.mem_iff_getElem?.mp m
    have l1 := (b i k hi).2.2.2
    rw [if_neg (show ¬ gb_I (gb_mk I J) (o + 2) (gb_kp k) = 0 by rw [gb_I_mk, l1]; exact gb_n10)]
    refine ⟨I, gb_a4 J o (gb_kp k) v, kl, a50, ⟨a, b, c, fun p hp' => ?_⟩, fun m hm => ⟨rfl, gb_a4_ne (by omega)⟩, fun F => bP_upd gq_a4 (fun p hp => gq_a4n hp) kl c m⟩
    by_cases e : p = gb_kp k
    · exact Or.inl ⟨k, m, e.symm⟩
    · rw [gq_a4n e]
      exact d p hp'
  · have np : ∀ k' ∈ kl, gb_kp k' ≠ gb_kp k := fun k' hk' e => m (by rw [← nk k' hk' e]; exact hk')
    have z : I (o + 2) (gb_kp k) = 0 ∧ gq J o (gb_kp k) = qZ := by
      rcases d (gb_kp k) hp with ⟨k', hk', e⟩ | w
      · exact absurd e (np k' hk')
      · exact w
    have lt : kl.length < n := by
      have := gb_pig n ((kl ++ [k]).map gb_kp) (fun i j x hi hj => by
        rw [List.getElem?_map] at hi hj
        cases e1 : (kl ++ [k])[i]? with
        | none => rw [e1] at hi; exact absurd hi (by simp)
        | some y =>
          cases e2 : (kl ++ [k])[j]? with
          | none => rw [e2] at hj; exact absurd hj (by simp)
          | some y' =>
            rw [e1] at hi
            rw [e2] at hj
            have h1 : gb_kp y = x := by simpa using hi
            have h2 : gb_kp y' = x := by simpa using hj
            have sp : ∀ i y, (kl ++ [k])[i]? = some y → (i < kl.length ∧ kl[i]? = some y) ∨ (i = kl.length ∧ y = k) := fun i y hy => by
              by_cases q : i < kl.length
              · rw [List.getElem?_append_left q] at hy
                exact Or.inl ⟨q, hy⟩
              · rw [List.getElem?_append_right (by omega)] at hy
                by_cases w : i - kl.length = 0
                · rw [w] at hy
                  have : k = y := by simpa using hy
                  exact Or.inr ⟨by omega, this.symm⟩
                · rw [List.getElem?_eq_none (by simp; omega)] at hy
                  exact absurd hy (by simp)
            rcases sp i y e1 with ⟨q1, w1⟩ | ⟨q1, w1⟩ <;> rcases sp j y' e2 with ⟨q2, w2⟩ | ⟨q2, w2⟩
            · exact c i j y y' w1 w2 (h1.trans h2.symm)
            · exact absurd (h1.trans (h2.symm.trans (by rw [w2]))) (np y (List.mem_of_getElem? w1))
            · exact absurd (h2.trans (h1.symm.trans (by rw [w1]))) (np y' (List.mem_of_getElem? w2))
            · omega) (fun x hx => by
        obtain ⟨y, hy, e⟩ := List.mem_map.mp hx
        rw [← e]
        rcases List.mem_append.mp hy with w | w
        · obtain ⟨i, hi⟩ := List.mem_iff_getElem?.mp w
          exact (b i y hi).2.2.1
        · rw [List.mem_singleton.mp w]; exact hp)
      have le := gb_cnt_le (fun p => decide (p ∈ (kl ++ [k]).map gb_kp)) n
      rw [this, List.length_map, List.length_append] at le
      simp at le
      omega
    have i1 : ∀ (I : gb_FI) (J : gb_FJ), gb_in (gb_mk I J) (o + 1) (nI kl.length) = true := fun I J => gb_in_k (by rw [d1]) lt (by omega)
    rw [if_pos (show gb_I (gb_mk I J) (o + 2) (gb_kp k) = 0 by rw [gb_I_mk]; exact z.1)]
    have a50' := fun I => x_add50 (I := I) (J := J) hB' hp v
    have e6 : gb_u I (o + 2) (gb_kp k) 1 o 6 = nI kl.length := by rw [gb_u_row _ _ (by omega)]; exact a
    have e6' : gb_u (gb_u I (o + 2) (gb_kp k) 1) (o + 1) kl.length (nI k) o 6 = nI kl.length := by rw [gb_u_row _ _ (by omega)]; exact e6
    refine ⟨gb_u (gb_u (gb_u I (o + 2) (gb_kp k) 1) (o + 1) kl.length (nI k)) o 6 (nI (kl.length + 1)), gb_a4 J o (gb_kp k) v, kl ++ [k], ?_, ⟨?_, ?_, ?_, ?_⟩, ?_, ?_⟩
    · simp (disch := omega) only [gb_lt_d, gb_gd_t, gb_rd_s, gb_bd_s, gb_I_mk, gb_L_mk, gb_sI_mk, gb_sL_mk, k0, r0, r1, kk1, kk2, i1, i2, nI_clamp, show (1 : Int32) &&& 1 = 1 from rfl, e6, e6', nI_1, a50']
    · rw [gb_u_s]; simp
    · intro i y hy
      by_cases q : i < kl.length
      · rw [List.getElem?_append_left q] at hy
        obtain ⟨b1, b2, b3, b4⟩ := b i y hy
        refine ⟨?_, b2, b3, ?_⟩
        · rw [gb_u_row _ _ (by omega), gb_u_nk _ _ (by omega), gb_u_row _ _ (by omega)]; exact b1
        · rw [gb_u_row _ _ (by omega), gb_u_row _ _ (by omega), gb_u_nk _ _ (np y (List.mem_of_getElem? hy))]; exact b4
      · rw [List.getElem?_append_right (by omega)] at hy
        have ei : i = kl.length := by
          by_cases w : i - kl.length = 0
          · omega
          · rw [List.getElem?_eq_none (by simp; omega)] at hy
            exact absurd hy (by simp)
        subst ei
        rw [Nat.sub_self] at hy
        have : k = y := by simpa using hy
        subst this
        refine ⟨?_, hk, hp, ?_⟩
        · rw [gb_u_row _ _ (by omega), gb_u_s]
        · rw [gb_u_row _ _ (by omega), gb_u_row _ _ (by omega), gb_u_s]
    · intro i j y y' hy hy' e
      have sp : ∀ i y, (kl ++ [k])[i]? = some y → (i < kl.length ∧ kl[i]? = some y) ∨ (i = kl.length ∧ y = k) := fun i y hy => by
        by_cases q : i < kl.length
        · rw [List.getElem?_append_left q] at hy
          exact Or.inl ⟨q, hy⟩
        · rw [List.getElem?_append_right (by omega)] at hy
          by_cases w : i - kl.length = 0
          · rw [w] at hy
            have : k = y := by simpa using hy
            exact Or.inr ⟨by omega, this.symm⟩
          · rw [List.getElem?_eq_none (by simp; omega)] at hy
            exact absurd hy (by simp)
      rcases sp i y hy with ⟨q1, w1⟩ | ⟨q1, w1⟩ <;> rcases sp j y' hy' with ⟨q2, w2⟩ | ⟨q2, w2⟩
      · exact c i j y y' w1 w2 e
      · exact absurd (e.trans (by rw [w2])) (np y (List.mem_of_getElem? w1))
      · exact absurd (e.symm.trans (by rw [w1])) (np y' (List.mem_of_getElem? w2))
      · omega
    · intro p hp'
      by_cases e : p = gb_kp k
      · exact Or.inl ⟨k, by simp, e.symm⟩
      · rcases d p hp' with ⟨y, hy, w⟩ | w
        · exact Or.inl ⟨y, List.mem_append_left _ hy, w⟩
        · refine Or.inr ⟨by rw [gb_u_row _ _ (by omega), gb_u_row _ _ (by omega), gb_u_nk _ _ e]; exact w.1, by rw [gq_a4n e]; exact w.2⟩
    · intro m hm
      exact ⟨by rw [gb_u_row _ _ (by omega), gb_u_row _ _ (by omega), gb_u_row _ _ (by omega)], gb_a4_ne (by omega)⟩
    · intro F
      rw [bP_app, gq_a4, z.2, qZ_A, bP_keep kl (fun y hy => gq_a4n (np y hy))]
end BEAM2
