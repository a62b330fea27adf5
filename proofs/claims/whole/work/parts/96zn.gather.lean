section GATHER2
variable {I I' I1 I2 : gb_FI} {J J' J1 J2 : gb_FJ} {o n k b : Nat} {kl : List Nat}
/-- two rows are 0 up to a place -/
def zc (a : Nat) (J : gb_FJ) (i : Nat) : gb_FJ := fun n r => if (n = a ∨ n = a + 1) ∧ r < i then 0 else J n r
theorem zc_0 (a : Nat) : zc a J 0 = J := by
  funext n r
  unfold zc
  rw [if_neg (fun z => by omega)]
theorem zc_s (a i : Nat) : gb_u (gb_u (zc a J i) a i 0) (a + 1) i 0 = zc a J (i + 1) := by
  funext n r
  rw [gb_u1, gb_u1]
  unfold zc
  by_cases h1 : n = a + 1 ∧ r = i
  · rw [if_pos h1, if_pos ⟨Or.inr h1.1, by omega⟩]
  · rw [if_neg h1]
    by_cases h2 : n = a ∧ r = i
    · rw [if_pos h2, if_pos ⟨Or.inl h2.1, by omega⟩]
    · rw [if_neg h2]
      by_cases h3 : (n = a ∨ n = a + 1) ∧ r < i
      · rw [if_pos h3, if_pos ⟨h3.1, by omega⟩]
      · rw [if_neg h3, if_neg (fun z => by omega)]
theorem zc_ne {a i m : Nat} (h : m < a ∨ a + 1 < m) : zc a J i m = J m := by
  funext r
  unfold zc
  rw [if_neg (fun z => by omega)]
theorem zc_z {a i m r : Nat} (h : m = a ∨ m = a + 1) (hr : r < i) : zc a J i m r = 0 := by
  unfold zc
  rw [if_pos ⟨h, hr⟩]
theorem x_gather40 (hb : b < 4) : lpX1_gather_40 gb_FU (42 + 23 * b) o 0 (gb_mk I J) = lpX1_gather_72 gb_FU (42 + 23 * b) o 0 (gb_mk I (zc (45 + 23 * b) J 32)) := by
  have c := gb_CHs hb
  conv => lhs; unfold lpX1_gather_40
  have z : (42 + 23 * b, o, (0 : Int32), gb_mk I J) = (fun i => (42 + 23 * b, o, nI i, gb_mk I (zc (45 + 23 * b) J i))) 0 := by
    show _ = (42 + 23 * b, o, nI 0, gb_mk I (zc (45 + 23 * b) J 0))
    rw [zc_0]
    rfl
  rw [z]
  refine gb_forF (fun i => (42 + 23 * b, o, nI i, gb_mk I (zc (45 + 23 * b) J i))) 32 (by decide) ?_ ?_
  · intro i hi q
    simp only [fbX1_gather_40]
    rw [if_neg (show ¬ (32 : Int32) ≤ nI i from nI_ge (b := 32) hi (by omega)), (c _ _).1, gb_gd_t, (c _ _).2.2.2.1, gb_rd_s, (c _ _).2.2.2.2.2.2.2.1, gb_gd_t, (((c _ _).2.2.2.2.2.2.2.2.2 i).2 hi).1, gb_gd_t, gb_lt_d, gb_sL_mk, (c _ _).1, gb_gd_t, (c _ _).2.2.2.2.1, gb_rd_s, (c _ _).2.2.2.2.2.2.2.2.1, gb_gd_t, (((c _ _).2.2.2.2.2.2.2.2.2 i).2 hi).2, gb_gd_t, gb_lt_d, gb_sL_mk, gb_lt_d, nI_1, nI_clamp (by omega), ← zc_s, show 46 + 23 * b = 45 + 23 * b + 1 by omega]
  · intro q
    simp only [fbX1_gather_40]
    rw [if_pos (show (32 : Int32) ≤ nI 32 by decide)]
theorem x_gather8 (hb : b < 4) : lpX1_gather_8 gb_FU (42 + 23 * b) o 0 (gb_mk I J) = lpX1_gather_40 gb_FU (42 + 23 * b) o 0 (gb_mk I (zc (43 + 23 * b) J 56)) := by
  have c := gb_CHs hb
  conv => lhs; unfold lpX1_gather_8
  have z : (42 + 23 * b, o, (0 : Int32), gb_mk I J) = (fun i => (42 + 23 * b, o, nI i, gb_mk I (zc (43 + 23 * b) J i))) 0 := by
    show _ = (42 + 23 * b, o, nI 0, gb_mk I (zc (43 + 23 * b) J 0))
    rw [zc_0]
    rfl
  rw [z]
  refine gb_forF (fun i => (42 + 23 * b, o, nI i, gb_mk I (zc (43 + 23 * b) J i))) 56 (by decide) ?_ ?_
  · intro i hi q
    simp only [fbX1_gather_8]
    rw [if_neg (show ¬ (56 : Int32) ≤ nI i from nI_ge (b := 56) hi (by omega)), (c _ _).1, gb_gd_t, (c _ _).2.1, gb_rd_s, (c _ _).2.2.2.2.2.1, gb_gd_t, (((c _ _).2.2.2.2.2.2.2.2.2 i).1 hi).1, gb_gd_t, gb_lt_d, gb_sL_mk, (c _ _).1, gb_gd_t, (c _ _).2.2.1, gb_rd_s, (c _ _).2.2.2.2.2.2.1, gb_gd_t, (((c _ _).2.2.2.2.2.2.2.2.2 i).1 hi).2, gb_gd_t, gb_lt_d, gb_sL_mk, gb_lt_d, nI_1, nI_clamp (by omega), ← zc_s, show 44 + 23 * b = 43 + 23 * b + 1 by omega]
  · intro q
    simp only [fbX1_gather_8]
    rw [if_pos (show (56 : Int32) ≤ nI 56 by decide)]
/-- what the chances of a bench are behind gather -/
def xGa (J' : gb_FJ) (b : Nat) (X : Nat → gb_q) (kl : List Nat) (w : Int64) : Prop := J' (42 + 23 * b) 4 = w ∧ (∀ r, r < 56 → J' (43 + 23 * b) r = bS kl (fun k => if gb_rw k = r then wU X k else 0) ∧ J' (44 + 23 * b) r = bS kl (fun k => if gb_rw k = r then wV X k else 0)) ∧ ∀ r, r < 32 → J' (45 + 23 * b) r = bS kl (fun k => if gb_sP k = r then wU X k else 0) ∧ J' (46 + 23 * b) r = bS kl (fun k => if gb_sP k = r then wV X k else 0)
theorem x_gather (hb : b < 4) (hB : gb_BM o n) (ho : 138 < o) (h : xBl I J o n kl) (w : Int64) : ∃ J', fnX1_gather (42 + 23 * b) o w (gb_mk I J) = some ((), gb_mk I J') ∧ xGa J' b (gq J o) kl w ∧ ∀ m, m < 42 + 23 * b ∨ 46 + 23 * b < m → J' m = J m := by
  have c := gb_CHs hb
  have k2 : ∀ m, m < 42 + 23 * b ∨ 46 + 23 * b < m → zc (45 + 23 * b) (zc (43 + 23 * b) (gb_u J (42 + 23 * b) 4 w) 56) 32 m = J m := fun m hm => by
    rw [zc_ne (by omega), zc_ne (by omega), gb_u_row _ _ (by omega)]
  have e4 : zc (45 + 23 * b) (zc (43 + 23 * b) (gb_u J (42 + 23 * b) 4 w) 56) 32 (42 + 23 * b) 4 = w := by
    rw [zc_ne (by omega), zc_ne (by omega), gb_u_s]
  have e5 : ∀ r, r < 56 → zc (45 + 23 * b) (zc (43 + 23 * b) (gb_u J (42 + 23 * b) 4 w) 56) 32 (43 + 23 * b) r = 0 ∧ zc (45 + 23 * b) (zc (43 + 23 * b) (gb_u J (42 + 23 * b) 4 w) 56) 32 (44 + 23 * b) r = 0 := fun r hr => by
    refine ⟨?_, ?_⟩
    · rw [zc_ne (by omega)]; exact zc_z (Or.inl rfl) hr
    · rw [zc_ne (by omega)]; exact zc_z (Or.inr (by omega)) hr
  have e6 : ∀ r, r < 32 → zc (45 + 23 * b) (zc (43 + 23 * b) (gb_u J (42 + 23 * b) 4 w) 56) 32 (45 + 23 * b) r = 0 ∧ zc (45 + 23 * b) (zc (43 + 23 * b) (gb_u J (42 + 23 * b) 4 w) 56) 32 (46 + 23 * b) r = 0 := fun r hr => 
    ⟨zc_z (Or.inl rfl) hr, zc_z (Or.inr (by omega)) hr⟩
  have run : fnX1_gather (42 + 23 * b) o w (gb_mk I J) = lpX1_gather_72 gb_FU (42 + 23 * b) o 0 (gb_mk I (zc (45 + 23 * b) (zc (43 + 23 * b) (gb_u J (42 + 23 * b) 4 w) 56) 32)) := by
    unfold fnX1_gather
    rw [(c _ _).1, gb_gd_t, gb_lt_d, gb_sL_mk, x_gather8 hb, x_gather40 hb]
  generalize zc (45 + 23 * b) (zc (43 + 23 * b) (gb_u J (42 + 23 * b) 4 w) 56) 32 = K at *
  have gqe : gq K o = gq J o := by
    funext p
    unfold gq
    rw [k2 _ (by omega), k2 _ (by omega), k2 _ (by omega), k2 _ (by omega)]
  have hK : xBl I K o n kl := by
    have := h
    unfold xBl at this ⊢
    rw [gqe]
    exact this
  refine ⟨gJ b K (gq J o) kl, ?_, ⟨?_, fun r hr => ⟨?_, ?_⟩, fun r hr => ⟨?_, ?_⟩⟩, fun m hm => ?_⟩
  · rw [run, x_gather72 hb hB ho hK, gqe]
  · rw [gJ_ne (by omega)]; exact e4
  · rw [gJ_43, (e5 r hr).1, Int64.zero_add]
  · rw [gJ_44, (e5 r hr).2, Int64.zero_add]
  · rw [gJ_45, (e6 r hr).1, Int64.zero_add]
  · rw [gJ_46, (e6 r hr).2, Int64.zero_add]
  · rw [gJ_ne (by omega)]; exact k2 m (by omega)
end GATHER2
