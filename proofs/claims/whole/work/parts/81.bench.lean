section BENCH
variable {cOK : gb_CP} {S : gb_S} {I I' I1 I2 : gb_FI} {J J' : gb_FJ} {q d o : Nat}
/-- i parts of the draft copied to the layout o -/
def gb_ca (I : gb_FI) (o : Nat) : Nat → gb_FI
  | 0 => gb_u I o 1 0
  | i + 1 => gb_u (gb_cp (gb_ca I o i) (o + 2 + i) (6 + i)) o 1 (nI (i + 1))
theorem gb_ca_1 : ∀ i, gb_ca I o i o 1 = nI i
  | 0 => gb_u_s _ _ _ _
  | i + 1 => gb_u_s _ _ _ _
theorem gb_ca_ne {m : Nat} (h : m ≠ o) : ∀ i, (m < o + 2 ∨ o + 2 + i ≤ m) → gb_ca I o i m = I m
  | 0, _ => gb_u_row _ _ h
  | i + 1, hi => by
    show gb_u (gb_cp (gb_ca I o i) (o + 2 + i) (6 + i)) o 1 (nI (i + 1)) m = I m
    rw [gb_u_row _ _ h, gb_cp_ne (by omega), gb_ca_ne h i (by omega)]
theorem gb_ca_P (ho : 24 ≤ o) {j : Nat} {p : gb_P} (hj16 : j < 16) (hp : xP (I (6 + j)) p) : ∀ i, j < i → xP (gb_ca I o i (o + 2 + j)) p
  | 0, h => absurd h (by omega)
  | i + 1, h => by
    show xP (gb_u (gb_cp (gb_ca I o i) (o + 2 + i) (6 + i)) o 1 (nI (i + 1)) (o + 2 + j)) p
    rw [gb_u_row _ _ (by omega)]
    by_cases e : j = i
    · subst e
      exact gb_cp_P (by rw [gb_ca_ne (by omega) j (by omega)]; exact hp)
    · rw [gb_cp_ne (by omega)]
      exact gb_ca_P ho hj16 hp i (by omega)
theorem x_copyAll {b m : Nat} (hb : b < 4) (hm : m ≤ 16) (h4 : I 4 1 = nI m) : fnX2_copyAll (24 + 23 * b) 4 (gb_mk I J) = some ((), gb_mk (gb_ca I (24 + 23 * b) m) J) := by
  have h4' : ∀ i, i ≤ 16 → gb_ca I (24 + 23 * b) i 4 1 = nI m := fun i hi => by rw [gb_ca_ne (by omega) i (by omega)]; exact h4
  simp only [fnX2_copyAll, gb_lt_d, gb_gd_t, gb_rd_s, gb_bd_s, gb_I_mk, gb_L_mk, gb_sI_mk, gb_sL_mk, gx_lyk hb, lpX2_copyAll_7]
  refine gb_forF (fun i => (24 + 23 * b, 4, nI i, gb_mk (gb_ca I (24 + 23 * b) i) J)) m (by omega) ?_ ?_
  · intro j hj k
    simp only [fbX2_copyAll_7, gb_lt_d, gb_gd_t, gb_rd_s, gb_bd_s, gb_I_mk, gb_L_mk, gb_sI_mk, gb_sL_mk, gk4, gr4_0, gk5, gr5_0, gr5_1, gr5_2, gr5_3, gr5_4, gr5_5, gr5_6, gr5_7, gr5_8, gr5_9, gr5_10, gr5_11, gr5_12, gr5_13, gr5_14, gr5_15, h4' j (by omega)]
    rw [if_neg (show ¬ nI m ≤ nI j from nI_ge hj (by omega))]
    have a := x_append (I := gb_ca I (24 + 23 * b) j) (J := J) (o := 24 + 23 * b) (m := j) (room := 16) (q := 6 + j) (fun I J => gx_lyk hb) (fun I J => by rw [gx_l0 hb]; rw [show 25 + 23 * b = 24 + 23 * b + 1 by omega]) (fun I J => by rw [← gx_lak hb I J, show 25 + 23 * b = 24 + 23 * b + 1 by omega]) (gb_ca_1 j) (by omega) (by decide) (fun I J => by rw [show 24 + 23 * b + 1 = 25 + 23 * b by omega, show 24 + 23 * b + 2 + j = 26 + 23 * b + j by omega]; exact gx_lr hb (by omega)) (fun I J => by rw [show 24 + 23 * b + 2 + j = 26 + 23 * b + j by omega]; exact gx_lk hb (by omega) I J) (gx_drk (by omega)) (by omega)
    simp (disch := omega) only [gb_lt_d, gb_gd_t, gb_rd_s, gb_bd_s, gb_I_mk, gb_L_mk, gb_sI_mk, gb_sL_mk, gk4, gr4_0, gk5, gr5_0, gr5_1, gr5_2, gr5_3, gr5_4, gr5_5, gr5_6, gr5_7, gr5_8, gr5_9, gr5_10, gr5_11, gr5_12, gr5_13, gr5_14, gr5_15, gi5, nI_clamp, gx_dr (show j < 16 by omega), gx_lyk hb, a, gb_lit 1, nI_add]
    rfl
  · intro k
    simp only [fbX2_copyAll_7, gb_lt_d, gb_gd_t, gb_rd_s, gb_bd_s, gb_I_mk, gb_L_mk, gb_sI_mk, gb_sL_mk, gk4, gr4_0, gk5, gr5_0, gr5_1, gr5_2, gr5_3, gr5_4, gr5_5, gr5_6, gr5_7, gr5_8, gr5_9, gr5_10, gr5_11, gr5_12, gr5_13, gr5_14, gr5_15, h4' m hm]
    rw [if_pos (show nI m ≤ nI m from nI_le (Nat.le_refl _) (by omega))]
/-- only what the reader keeps has moved -/
theorem RX.sc (h : RX cOK S I J) (k : ∀ m, m < 3 ∨ 22 ≤ m → I' m = I m) : RX cOK S I' J := by
  obtain ⟨h1, h2, h3, h4, h5, h6, h7, h8, h9, h10, h11⟩ := h
  refine ⟨?_, ?_, ?_, ?_, h5.keep (fun n _ _ _ => k n (by omega)), h6.keep (fun n _ _ => k n (by omega)), ?_, ?_, ?_, h10.keep (fun n _ _ => k n (by omega)) (fun _ _ _ => rfl), h11.keep (fun n _ _ => ⟨k n (by omega), rfl⟩)⟩
  · rw [k 0 (by decide), k 239 (by decide)]; exact h1
  · rw [k 0 (by decide)]; exact h2
  · rw [k 1 (by decide), k 2 (by decide)]; exact h3
  · rw [k 0 (by decide)]; exact h4
  · rw [k 240 (by decide)]; exact h7
  · rw [k 126 (by decide), k 127 (by decide), k 128 (by decide), k 129 (by decide)]; exact h8
  · rw [k 139 (by decide), k 145 (by decide)]; exact h9
theorem RX.fl (h : RX cOK S I J) (v : Int32) : RX cOK (sF S v) (gb_u I 0 14 v) J := by
  obtain ⟨h1, h2, h3, h4, h5, h6, h7, h8, h9, h10, h11⟩ := h
  have r : ∀ n, n ≠ 0 → gb_u I 0 14 v n = I n := fun n hn => gb_u_row _ _ hn
  refine ⟨?_, ?_, ?_, gb_u_s _ _ _ _, h5.keep (fun n _ _ _ => r n (by omega)), h6.keep (fun n _ _ => r n (by omega)), ?_, ?_, ?_, h10.keep (fun n _ _ => r n (by omega)) (fun _ _ _ => rfl), h11.keep (fun n _ _ => ⟨r n (by omega), rfl⟩)⟩
  · rw [r 239 (by decide), gb_u_nk _ _ (by decide)]; exact h1
  · rw [gb_u_nk _ _ (by decide)]; exact h2
  · rw [r 1 (by decide), r 2 (by decide)]; exact h3
  · rw [r 240 (by decide)]; exact h7
  · rw [r 126 (by decide), r 127 (by decide), r 128 (by decide), r 129 (by decide)]; exact h8
  · rw [r 139 (by decide), r 145 (by decide)]; exact h9
def gb_ub (bn : Nat → List gb_P) (b : Nat) (ps : List gb_P) : Nat → List gb_P := fun x => if x = b then ps else bn x
/-- a bench's layout, and its odds forgotten -/
theorem RX.bn (h : RX cOK S I J) {b : Nat} (hb : b < 4) {ps : List gb_P} (hl : ps.length ≤ 16) (hs : I' (24 + 23 * b) 1 = nI ps.length) (hp : ∀ i p, ps[i]? = some p → gb_pOK p ∧ xP (I' (26 + 23 * b + i)) p) (hf : I' (42 + 23 * b) 6 = 0) (k : ∀ m, ¬ (24 + 23 * b ≤ m ∧ m ≤ 42 + 23 * b) → I' m = I m) : RX cOK (sB S (gb_ub S.2.2.2.2.1 b ps)) I' J := by
  obtain ⟨h1, h2, h3, h4, h5, h6, h7, h8, h9, h10, h11⟩ := h
  refine ⟨?_, ?_, ?_, ?_, ?_, h6.keep (fun n _ _ => k n (by omega)), ?_, ?_, ?_, ?_, h11.keep (fun n _ _ => ⟨k n (by omega), rfl⟩)⟩
  · rw [k 0 (by omega), k 239 (by omega)]; exact h1
  · rw [k 0 (by omega)]; exact h2
  · rw [k 1 (by omega), k 2 (by omega)]; exact h3
  · rw [k 0 (by omega)]; exact h4
  · intro x hx
    by_cases e : x = b
    · subst e
      show (gb_ub S.2.2.2.2.1 x ps x).length ≤ 16 ∧ I' (24 + 23 * x) 1 = nI (gb_ub S.2.2.2.2.1 x ps x).length ∧ ∀ i p, (gb_ub S.2.2.2.2.1 x ps x)[i]? = some p → gb_pOK p ∧ xP (I' (26 + 23 * x + i)) p
      rw [show gb_ub S.2.2.2.2.1 x ps x = ps from if_pos rfl]
      exact ⟨hl, hs, hp⟩
    · obtain ⟨q1, q2, q3⟩ := h5 x hx
      show (gb_ub S.2.2.2.2.1 b ps x).length ≤ 16 ∧ I' (24 + 23 * x) 1 = nI (gb_ub S.2.2.2.2.1 b ps x).length ∧ ∀ i p, (gb_ub S.2.2.2.2.1 b ps x)[i]? = some p → gb_pOK p ∧ xP (I' (26 + 23 * x + i)) p
      rw [show gb_ub S.2.2.2.2.1 b ps x = S.2.2.2.2.1 x from if_neg e]
      refine ⟨q1, by rw [k (24 + 23 * x) (by omega)]; exact q2, fun i p hi => ?_⟩
      have hi' : i < (S.2.2.2.2.1 x).length := (List.getElem?_eq_some_iff.mp hi).1
      rw [k (26 + 23 * x + i) (by omega)]
      exact q3 i p hi
  · rw [k 240 (by omega)]; exact h7
  · rw [k 126 (by omega), k 127 (by omega), k 128 (by omega), k 129 (by omega)]; exact h8
  · rw [k 139 (by omega), k 145 (by omega)]; exact h9
  · intro x hx
    by_cases e : x = b
    · subst e
      exact Or.inl hf
    · have := h10 x hx
      rw [k (42 + 23 * x) (by omega)]
      show _ ∨ (_ ∧ cOK _ _ _ _ _ _ S.1 (gb_ub S.2.2.2.2.1 b ps x))
      rw [show gb_ub S.2.2.2.2.1 b ps x = S.2.2.2.2.1 x from if_neg e]
      exact this
end BENCH
