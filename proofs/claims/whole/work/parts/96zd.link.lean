section LINK
variable {p : gb_P} {g w j s x : Nat} {F : Nat → gb_q}
theorem gw_ac_k (ok : gb_pOK p) (g3 : g ≤ 3) : gw_ac p g w = gb_ac p (gw_k g w) := by
  have w5 := ok.2.2.2.2.2.2.1
  unfold gw_ac gb_ac
  by_cases e : p.2.2.2.2.2.2.1 = 5
  · rw [decide_eq_true (Or.inl e), decide_eq_true (Or.inl e)]
  · rw [gw_gi g3 (by omega)]
theorem gb_A_0 (f : Nat → gb_q) : gb_A (gb_tb p 2 0) f = f 0 := by
  unfold gb_A gb_tb
  rw [if_pos rfl]
  show qA (qM (lN 1) 0 0 (f 0)) qZ = f 0
  rw [qA_Z]
  exact qM_1 _
theorem gb_A_congr {l : List gb_br} {f h : Nat → gb_q} (e : ∀ b ∈ l, f b.2.2.2 = h b.2.2.2) : gb_A l f = gb_A l h := by
  unfold gb_A
  exact qL_congr _ (fun b hb => by rw [e b hb])
theorem gb_tb_1 (ok : gb_pOK p) (hs : s ≠ 0) (h17 : s < 17) : ∀ e ∈ gb_tb p 2 s, 1 ≤ e.2.2.2 ∧ e.2.2.2 < 17 := by
  intro e he
  refine ⟨?_, (gb_tb_bk ok h17 e he).2.2.2⟩
  unfold gb_tb at he
  rw [if_neg hs] at he
  split at he
  · unfold gb_hl at he
    split at he
    · rcases List.mem_cons.mp he with z | z
      · subst z; show 1 ≤ 2 * _ + _ + 1; omega
      · rw [List.mem_singleton.mp z]; show 1 ≤ 2 * _ + _ + 1; omega
    · split at he
      · rcases List.mem_cons.mp he with z | z
        · subst z; show 1 ≤ 2 * _ + _ + 1; omega
        · rw [List.mem_singleton.mp z]; show 1 ≤ 2 * _ + _ + 1; omega
      · split at he
        · rw [List.mem_singleton.mp he]; show 1 ≤ 2 * _ + _ + 1; omega
        · split at he
          · rw [List.mem_singleton.mp he]; show 1 ≤ 2 * _ + _ + 1; omega
          · rcases List.mem_cons.mp he with z | z
            · subst z; show 1 ≤ 2 * _ + _ + 1; omega
            · rw [List.mem_singleton.mp z]; show 1 ≤ 2 * _ + _ + 1; omega
  · rw [List.mem_singleton.mp he]; show 1 ≤ s; omega
theorem gw_ms (g3 : g ≤ 3) (hj : j < g) {i : Nat} (hi : i < g) (hs : 1 ≤ s) (h17 : s < 17) : gw_m g (gw_s g w j s) i = if i = j then s - 1 else gw_m g w i := by
  unfold gw_s gw_m
  match g, g3, j, hj, i, hi with
  | 1, _, 0, _, 0, _ => simp; omega
  | 2, _, 0, _, 0, _ => simp; omega
  | 2, _, 0, _, 1, _ => simp; omega
  | 2, _, 1, _, 0, _ => simp; omega
  | 2, _, 1, _, 1, _ => simp; omega
  | 3, _, 0, _, 0, _ => simp; omega
  | 3, _, 0, _, 1, _ => simp; omega
  | 3, _, 0, _, 2, _ => simp; omega
  | 3, _, 1, _, 0, _ => simp; omega
  | 3, _, 1, _, 1, _ => simp; omega
  | 3, _, 1, _, 2, _ => simp; omega
  | 3, _, 2, _, 0, _ => simp; omega
  | 3, _, 2, _, 1, _ => simp; omega
  | 3, _, 2, _, 2, _ => simp; omega
theorem gb_id_k (g3 : g ≤ 3) : gb_id p (gw_k g w) = lN (gb_ba p ^ g) := by
  have b : ∀ g j, gw_m g w j + 1 < 17 := fun g j => by have := gw_m_b (g := g) (w := w) (j := j); omega
  have n1 : (1 : Int64) = lN 1 := rfl
  match g, g3 with
  | 0, _ =>
    show gb_id p (gb_ky 0 0 0) = _
    unfold gb_id
    rw [if_pos (by decide), if_pos (by decide), if_pos (by decide), Nat.pow_zero]
    decide
  | 1, _ =>
    show gb_id p (gb_ky 0 0 (gw_m 1 w 0 + 1)) = _
    obtain ⟨_, a1, a2, a3⟩ := gb_ky_s (show 0 < 17 by decide) (show 0 < 17 by decide) (b 1 0)
    unfold gb_id
    rw [a1, a2, a3, if_pos (by unfold gb_mi; omega), if_pos (by unfold gb_mi gb_ma; omega), if_neg (by unfold gb_ma; omega), n1, lN_mul, lN_mul, Nat.pow_one, Nat.one_mul]
  | 2, _ =>
    show gb_id p (gb_ky 0 (gw_m 2 w 0 + 1) (gw_m 2 w 1 + 1)) = _
    obtain ⟨_, a1, a2, a3⟩ := gb_ky_s (show 0 < 17 by decide) (b 2 0) (b 2 1)
    unfold gb_id
    rw [a1, a2, a3, if_pos (by unfold gb_mi; omega), if_neg (by unfold gb_mi gb_ma; omega), if_neg (by unfold gb_ma; omega), n1, lN_mul, lN_mul, Nat.one_mul, Nat.pow_two]
  | 3, _ =>
    show gb_id p (gb_ky (gw_m 3 w 0 + 1) (gw_m 3 w 1 + 1) (gw_m 3 w 2 + 1)) = _
    obtain ⟨_, a1, a2, a3⟩ := gb_ky_s (b 3 0) (b 3 1) (b 3 2)
    unfold gb_id
    rw [a1, a2, a3, if_neg (by unfold gb_mi; omega), if_neg (by unfold gb_mi gb_ma; omega), if_neg (by unfold gb_ma; omega), lN_mul, lN_mul, show gb_ba p ^ 3 = gb_ba p * gb_ba p * gb_ba p by rw [Nat.pow_succ, Nat.pow_two]]
end LINK
