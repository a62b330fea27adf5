section DOES
variable {I I' I1 I2 : gb_FI} {J J' J1 J2 : gb_FJ} {p : gb_P} {o a room g w : Nat}
theorem gb_u4 {o' : Nat} (h : o' ≠ o) {i : Nat} {v : Int64} : rq (gb_u J o' i v) o w = rq J o w := by
  unfold rq
  rw [gb_u_row _ _ (Ne.symm h)]
/-- a word that the part acts on; one that it does not -/
def gd_a (J : gb_FJ) (w : Nat) : Nat → gb_FJ
  | 0 => J
  | k + 1 => gb_u (gd_a J w k) 252 (4 * w + k) 0
def gd_n (J : gb_FJ) (w : Nat) (all : Int64) : Nat → gb_FJ
  | 0 => J
  | k + 1 => gb_u (gb_u (gd_n J w all k) 252 (4 * w + k) (all * gd_n J w all k 251 (4 * w + k))) 251 (4 * w + k) 0
theorem gd_a_ne {x : Nat} (h : x ≠ 252) : ∀ k, gd_a J w k x = J x
  | 0 => rfl
  | k + 1 => by
    show gb_u (gd_a J w k) 252 (4 * w + k) 0 x = J x
    rw [gb_u_row _ _ h, gd_a_ne h k]
theorem gd_a_i {i : Nat} : ∀ k, i < k → gd_a J w k 252 (4 * w + i) = 0
  | 0, h => absurd h (by omega)
  | k + 1, h => by
    show gb_u (gd_a J w k) 252 (4 * w + k) 0 252 (4 * w + i) = 0
    by_cases e : i = k
    · subst e; rw [gb_u_s]
    · rw [gb_u_nk _ _ (by omega), gd_a_i k (by omega)]
theorem gd_a_o {i : Nat} : ∀ k, (i < 4 * w ∨ 4 * w + k ≤ i) → gd_a J w k 252 i = J 252 i
  | 0, _ => rfl
  | k + 1, h => by
    show gb_u (gd_a J w k) 252 (4 * w + k) 0 252 i = J 252 i
    rw [gb_u_nk _ _ (by omega), gd_a_o k (by omega)]
theorem gd_n_ne {x : Nat} {all : Int64} (h : x ≠ 252) (h2 : x ≠ 251) : ∀ k, gd_n J w all k x = J x
  | 0 => rfl
  | k + 1 => by
    show gb_u (gb_u (gd_n J w all k) 252 (4 * w + k) _) 251 (4 * w + k) 0 x = J x
    rw [gb_u_row _ _ h2, gb_u_row _ _ h, gd_n_ne h h2 k]
theorem gd_n_o {i : Nat} {all : Int64} : ∀ k, (i < 4 * w ∨ 4 * w + k ≤ i) → gd_n J w all k 252 i = J 252 i ∧ gd_n J w all k 251 i = J 251 i
  | 0, _ => ⟨rfl, rfl⟩
  | k + 1, h => by
    show gb_u (gb_u (gd_n J w all k) 252 (4 * w + k) _) 251 (4 * w + k) 0 252 i = J 252 i ∧ gb_u (gb_u (gd_n J w all k) 252 (4 * w + k) _) 251 (4 * w + k) 0 251 i = J 251 i
    have ih := gd_n_o (i := i) (all := all) k (by omega)
    rw [gb_u_row _ _ (by decide), gb_u_nk _ _ (by omega), gb_u_nk _ _ (by omega), gb_u_row _ _ (by decide)]
    exact ih
theorem gd_n_i {i : Nat} {all : Int64} : ∀ k, i < k → gd_n J w all k 252 (4 * w + i) = all * J 251 (4 * w + i) ∧ gd_n J w all k 251 (4 * w + i) = 0
  | 0, h => absurd h (by omega)
  | k + 1, h => by
    show gb_u (gb_u (gd_n J w all k) 252 (4 * w + k) (all * gd_n J w all k 251 (4 * w + k))) 251 (4 * w + k) 0 252 (4 * w + i) = _ ∧ gb_u (gb_u (gd_n J w all k) 252 (4 * w + k) (all * gd_n J w all k 251 (4 * w + k))) 251 (4 * w + k) 0 251 (4 * w + i) = 0
    by_cases e : i = k
    · subst e
      rw [gb_u_row _ _ (by decide), gb_u_s, gb_u_s, (gd_n_o i (by omega)).2]
      exact ⟨rfl, rfl⟩
    · have ih := gd_n_i (i := i) (all := all) k (by omega)
      rw [gb_u_row _ _ (by decide), gb_u_nk _ _ (by omega), gb_u_nk _ _ (by omega), gb_u_row _ _ (by decide)]
      exact ih
/-- one word of the first loop -/
theorem m_does82 (hw : w < 4096) {v4 : Int64} {v2 : Int32} {o : Nat} {k32 : Nat → Nat → Int32 → Int64 → Int32 → gb_H → Option (Unit × gb_H)} (ac : Bool) : lpX11_does_82 k32 gb_FU 241 o v2 v4 (nI w) (if ac = true then 1 else 0) 0 (gb_mk I J) = k32 241 o v2 v4 (nI (w + 1)) (gb_mk I (if ac = true then gd_a J w 4 else gd_n J w v4 4)) := by
  have f0 : (4 : Int32) * nI w = nI (4 * w) := gb_nI_mul 4 w
  unfold lpX11_does_82
  cases ac with
  | true =>
    rw [if_pos rfl, if_pos rfl]
    refine gb_forF (fun i => (241, o, v2, v4, nI w, 1, nI i, gb_mk I (gd_a J w i))) 4 (by decide) ?_ ?_
    · intro i hi k
      simp only [fbX11_does_82, fbX11_does_123, fbX11_does_142]
      rw [if_neg (show ¬ (4 : Int32) ≤ nI i from nI_ge (a := i) (b := 4) hi (by omega)), gk241, gb_gd_t, gr241_21, gb_rd_s, if_neg gb_n10, f0, nI_add, gk252, gb_gd_t, gi252 (by omega), gb_gd_t, gb_lt_d, nI_clamp (by omega), gb_sL_mk, if_neg gb_n10, gb_lt_d, nI_1]
      rfl
    · intro k
      simp only [fbX11_does_82]
      rw [if_pos (show (4 : Int32) ≤ nI 4 by decide), gb_lt_d, nI_1]
  | false =>
    rw [if_neg Bool.false_ne_true, if_neg Bool.false_ne_true]
    refine gb_forF (fun i => (241, o, v2, v4, nI w, 0, nI i, gb_mk I (gd_n J w v4 i))) 4 (by decide) ?_ ?_
    · intro i hi k
      simp only [fbX11_does_82, fbX11_does_123, fbX11_does_142]
      rw [if_neg (show ¬ (4 : Int32) ≤ nI i from nI_ge (a := i) (b := 4) hi (by omega))]
      simp (disch := omega) only [if_true, gb_lt_d, gb_gd_t, gb_rd_s, gb_bd_s, gb_I_mk, gb_L_mk, gb_sI_mk, gb_sL_mk, gk241, gk242, gk243, gk244, gk245, gk246, gk247, gk248, gk249, gk250, gk251, gk252, gk253, gk254, gk255, gk256, gk257, gk258, gk259, gk260, gk261, gk262, gk263, gk264, gk265, gk266, gk267, gk268, gr241_2, gr241_3, gr241_4, gr241_5, gr241_7, gr241_8, gr241_11, gr241_12, gr241_13, gr241_20, gr241_21, gr241_22, gr241_26, gr241_27, gr241_28, gr241_29, gr241_31, gr241_32, gr241_33, gr241_38, gr241_39, gr241_40, gr241_41, gr241_42, gr241_43, gr241_44, gr241_45, f0, nI_add, gi251, gi252, nI_clamp, nI_1]
      rfl
    · intro k
      simp only [fbX11_does_82]
      rw [if_pos (show (4 : Int32) ≤ nI 4 by decide), gb_lt_d, nI_1]
end DOES
