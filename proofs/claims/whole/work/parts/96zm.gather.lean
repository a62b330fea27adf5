section GATHER
variable {I I' I1 I2 : gb_FI} {J J' J1 J2 : gb_FJ} {o n k b : Nat} {kl : List Nat}
/-- the paths with grains as bits -/
def gb_bt (x y z : Nat) : Nat := (2 ^ x ||| 2 ^ y ||| 2 ^ z) / 2
def gb_sP (k : Nat) : Nat := gb_bt (gb_pa (k % 32)) (gb_pa (k / 32 % 32)) (gb_pa (k / 1024))
theorem gb_bt3 : ∀ z, z < 6 → ∀ y, y < 6 → ∀ x, x < 6 → ((((1 : Int32) <<< (nI x &&& 31)) ||| ((1 : Int32) <<< (nI y &&& 31))) ||| ((1 : Int32) <<< (nI z &&& 31))) >>> ((1 : Int32) &&& 31) = nI (gb_bt x y z) ∧ gb_bt x y z < 32 := by decide +kernel
theorem gb_sP_b (k : Nat) : gb_sP k < 32 := (gb_bt3 _ (Nat.lt_succ_of_le (gb_pa_b _)) _ (Nat.lt_succ_of_le (gb_pa_b _)) _ (Nat.lt_succ_of_le (gb_pa_b _))).2
theorem x_pathsOf (hk : gb_sk k) (h : gb_H) : fnX0_pathsOf (nI k) h = some (nI (gb_sP k), h) := by
  obtain ⟨b1, b2, b3, b4, b5⟩ := gb_sk_b hk
  have p1 := gb_pa_b (k % 32)
  have p2 := gb_pa_b (k / 32 % 32)
  have p3 := gb_pa_b (k / 1024)
  unfold fnX0_pathsOf gb_sP
  rw [x_low hk, gb_bd_s, x_pathOf b1, gb_bd_s, x_mid hk, gb_bd_s, x_pathOf b2, gb_bd_s, x_high hk, gb_bd_s, x_pathOf b3, gb_bd_s, (gb_bt3 _ (Nat.lt_succ_of_le p3) _ (Nat.lt_succ_of_le p2) _ (Nat.lt_succ_of_le p1)).1]
theorem gb_kp6 : ∀ z, z < 6 → ∀ y, y < 6 → ∀ x, x < 6 → gb_kp (gb_ky x y z) < 56 := by decide +kernel
theorem gb_rw_b (k : Nat) : gb_rw k < 56 := gb_kp6 _ (Nat.lt_succ_of_le (gb_pa_b _)) _ (Nat.lt_succ_of_le (gb_pa_b _)) _ (Nat.lt_succ_of_le (gb_pa_b _))
/-- the cells of a bench's chances -/
def gb_CH (b : Nat) : Prop := ∀ (I : gb_FI) (J : gb_FJ), gb_k (gb_mk I J) (42 + 23 * b) 1 = true ∧ gb_R (gb_mk I J) (42 + 23 * b) 0 = some (43 + 23 * b) ∧ gb_R (gb_mk I J) (42 + 23 * b) 1 = some (44 + 23 * b) ∧ gb_R (gb_mk I J) (42 + 23 * b) 2 = some (45 + 23 * b) ∧ gb_R (gb_mk I J) (42 + 23 * b) 3 = some (46 + 23 * b) ∧ gb_k (gb_mk I J) (43 + 23 * b) 23 = true ∧ gb_k (gb_mk I J) (44 + 23 * b) 23 = true ∧ gb_k (gb_mk I J) (45 + 23 * b) 23 = true ∧ gb_k (gb_mk I J) (46 + 23 * b) 23 = true ∧ ∀ j, (j < 56 → gb_in (gb_mk I J) (43 + 23 * b) (nI j) = true ∧ gb_in (gb_mk I J) (44 + 23 * b) (nI j) = true) ∧ (j < 32 → gb_in (gb_mk I J) (45 + 23 * b) (nI j) = true ∧ gb_in (gb_mk I J) (46 + 23 * b) (nI j) = true)
theorem gb_CHs (hb : b < 4) : gb_CH b := by
  match b, hb with
  | 0, _ => exact fun I J => ⟨gk42, gr42_0, gr42_1, gr42_2, gr42_3, gk43, gk44, gk45, gk46, fun j => ⟨fun h => ⟨gi43 h, gi44 h⟩, fun h => ⟨gi45 h, gi46 h⟩⟩⟩
  | 1, _ => exact fun I J => ⟨gk65, gr65_0, gr65_1, gr65_2, gr65_3, gk66, gk67, gk68, gk69, fun j => ⟨fun h => ⟨gi66 h, gi67 h⟩, fun h => ⟨gi68 h, gi69 h⟩⟩⟩
  | 2, _ => exact fun I J => ⟨gk88, gr88_0, gr88_1, gr88_2, gr88_3, gk89, gk90, gk91, gk92, fun j => ⟨fun h => ⟨gi89 h, gi90 h⟩, fun h => ⟨gi91 h, gi92 h⟩⟩⟩
  | 3, _ => exact fun I J => ⟨gk111, gr111_0, gr111_1, gr111_2, gr111_3, gk112, gk113, gk114, gk115, fun j => ⟨fun h => ⟨gi112 h, gi113 h⟩, fun h => ⟨gi114 h, gi115 h⟩⟩⟩
/-- a sum over a list -/
def bS : List Nat → (Nat → Int64) → Int64
  | [], _ => 0
  | k :: l, f => f k + bS l f
theorem bS_app (f : Nat → Int64) (k : Nat) : ∀ l, bS (l ++ [k]) f = bS l f + f k
  | [] => by show f k + 0 = 0 + f k; grind
  | a :: l => by
    show f a + bS (l ++ [k]) f = f a + bS l f + f k
    rw [bS_app f k l]
    grind
theorem bS_congr {f g : Nat → Int64} : ∀ l, (∀ k ∈ l, f k = g k) → bS l f = bS l g
  | [], _ => rfl
  | a :: l, h => by
    show f a + bS l f = g a + bS l g
    rw [h a (by simp), bS_congr l (fun k hk => h k (List.mem_cons_of_mem _ hk))]
def wU (X : Nat → gb_q) (k : Nat) : Int64 := qU (X (gb_kp k)) * lN (gb_od k)
def wV (X : Nat → gb_q) (k : Nat) : Int64 := qV (X (gb_kp k)) * lN (gb_od k)
/-- what is gathered over a list of products -/
def gJ (b : Nat) (J : gb_FJ) (X : Nat → gb_q) (l : List Nat) : gb_FJ := fun n r =>
  if n = 43 + 23 * b then J n r + bS l (fun k => if gb_rw k = r then wU X k else 0)
  else if n = 44 + 23 * b then J n r + bS l (fun k => if gb_rw k = r then wV X k else 0)
  else if n = 45 + 23 * b then J n r + bS l (fun k => if gb_sP k = r then wU X k else 0)
  else if n = 46 + 23 * b then J n r + bS l (fun k => if gb_sP k = r then wV X k else 0)
  else J n r
theorem gJ_0 (J : gb_FJ) (X : Nat → gb_q) : gJ b J X [] = J := by
  funext n r
  unfold gJ bS
  split
  · grind
  · split
    · grind
    · split
      · grind
      · split
        · grind
        · rfl
theorem gJ_ne {X : Nat → gb_q} {l : List Nat} {m : Nat} (h : m < 43 + 23 * b ∨ 46 + 23 * b < m) : gJ b J X l m = J m := by
  funext r
  unfold gJ
  rw [if_neg (by omega), if_neg (by omega), if_neg (by omega), if_neg (by omega)]
theorem gJ_43 {X : Nat → gb_q} {l : List Nat} {r : Nat} : gJ b J X l (43 + 23 * b) r = J (43 + 23 * b) r + bS l (fun k => if gb_rw k = r then wU X k else 0) := by
  unfold gJ
  rw [if_pos rfl]
theorem gJ_44 {X : Nat → gb_q} {l : List Nat} {r : Nat} : gJ b J X l (44 + 23 * b) r = J (44 + 23 * b) r + bS l (fun k => if gb_rw k = r then wV X k else 0) := by
  unfold gJ
  rw [if_neg (by omega), if_pos rfl]
theorem gJ_45 {X : Nat → gb_q} {l : List Nat} {r : Nat} : gJ b J X l (45 + 23 * b) r = J (45 + 23 * b) r + bS l (fun k => if gb_sP k = r then wU X k else 0) := by
  unfold gJ
  rw [if_neg (by omega), if_neg (by omega), if_pos rfl]
theorem gJ_46 {X : Nat → gb_q} {l : List Nat} {r : Nat} : gJ b J X l (46 + 23 * b) r = J (46 + 23 * b) r + bS l (fun k => if gb_sP k = r then wV X k else 0) := by
  unfold gJ
  rw [if_neg (by omega), if_neg (by omega), if_neg (by omega), if_pos rfl]
theorem gb_ua {α : Type} {f : Nat → Nat → α} {n k r : Nat} {x : α} : gb_u f n k x n r = if r = k then x else f n r := by
  rw [gb_u1]
  by_cases e : r = k
  · rw [if_pos ⟨rfl, e⟩, if_pos e]
  · rw [if_neg (fun z => e z.2), if_neg e]
theorem gJ_s (X : Nat → gb_q) (l : List Nat) (k : Nat) : gb_u (gb_u (gb_u (gb_u (gJ b J X l) (43 + 23 * b) (gb_rw k) (gJ b J X l (43 + 23 * b) (gb_rw k) + wU X k)) (44 + 23 * b) (gb_rw k) (gJ b J X l (44 + 23 * b) (gb_rw k) + wV X k)) (45 + 23 * b) (gb_sP k) (gJ b J X l (45 + 23 * b) (gb_sP k) + wU X k)) (46 + 23 * b) (gb_sP k) (gJ b J X l (46 + 23 * b) (gb_sP k) + wV X k) = gJ b J X (l ++ [k]) := by
  funext n r
  by_cases h1 : n = 43 + 23 * b
  · subst h1
    rw [gb_u_ne _ _ (by omega), gb_u_ne _ _ (by omega), gb_u_ne _ _ (by omega), gb_ua, gJ_43, gJ_43, gJ_43, bS_app]
    by_cases e : r = gb_rw k
    · subst e
      rw [if_pos rfl, if_pos rfl, Int64.add_assoc]
    · rw [if_neg e, if_neg (fun z => e z.symm), Int64.add_zero]
  · by_cases h2 : n = 44 + 23 * b
    · subst h2
      rw [gb_u_ne _ _ (by omega), gb_u_ne _ _ (by omega), gb_ua, gb_u_ne _ _ (by omega), gJ_44, gJ_44, gJ_44, bS_app]
      by_cases e : r = gb_rw k
      · subst e
        rw [if_pos rfl, if_pos rfl, Int64.add_assoc]
      · rw [if_neg e, if_neg (fun z => e z.symm), Int64.add_zero]
    · by_cases h3 : n = 45 + 23 * b
      · subst h3
        rw [gb_u_ne _ _ (by omega), gb_ua, gb_u_ne _ _ (by omega), gb_u_ne _ _ (by omega), gJ_45, gJ_45, gJ_45, bS_app]
        by_cases e : r = gb_sP k
        · subst e
          rw [if_pos rfl, if_pos rfl, Int64.add_assoc]
        · rw [if_neg e, if_neg (fun z => e z.symm), Int64.add_zero]
      · by_cases h4 : n = 46 + 23 * b
        · subst h4
          rw [gb_ua, gb_u_ne _ _ (by omega), gb_u_ne _ _ (by omega), gb_u_ne _ _ (by omega), gJ_46, gJ_46, gJ_46, bS_app]
          by_cases e : r = gb_sP k
          · subst e
            rw [if_pos rfl, if_pos rfl, Int64.add_assoc]
          · rw [if_neg e, if_neg (fun z => e z.symm), Int64.add_zero]
        · rw [gb_u_ne _ _ h4, gb_u_ne _ _ h3, gb_u_ne _ _ h2, gb_u_ne _ _ h1]
          unfold gJ
          rw [if_neg h1, if_neg h2, if_neg h3, if_neg h4, if_neg h1, if_neg h2, if_neg h3, if_neg h4]
theorem x_gather72 (hb : b < 4) (hB : gb_BM o n) (ho : 138 < o) (h : xBl I J o n kl) : lpX1_gather_72 gb_FU (42 + 23 * b) o 0 (gb_mk I J) = some ((), gb_mk I (gJ b J (gq J o) kl)) := by
  have hlen := h.len
  have hn := hB.1
  have hO := hB.2
  obtain ⟨a1, a2, a3, a4⟩ := id h
  have k0 : ∀ (I : gb_FI) (J : gb_FJ), gb_k (gb_mk I J) o 0 = true := fun I J => (hO I J).1
  have r0 : ∀ (I : gb_FI) (J : gb_FJ), gb_R (gb_mk I J) o 0 = some (o + 1) := fun I J => (hO I J).2.1
  have d1 : ∀ (I : gb_FI) (J : gb_FJ), gb_kd (gb_mk I J) (o + 1) = (20, n) := fun I J => (hO I J).2.2.2.2.2.2.2.1
  have kk1 : ∀ (I : gb_FI) (J : gb_FJ), gb_k (gb_mk I J) (o + 1) 20 = true := fun I J => by simp [gb_k, d1]
  have c := gb_CHs hb
  unfold lpX1_gather_72
  have z : (42 + 23 * b, o, (0 : Int32), gb_mk I J) = (fun i => (42 + 23 * b, o, nI i, gb_mk I (gJ b J (gq J o) (kl.take i)))) 0 := by
    show _ = (42 + 23 * b, o, nI 0, gb_mk I (gJ b J (gq J o) []))
    rw [gJ_0]
    rfl
  rw [z]
  refine gb_forF (fun i => (42 + 23 * b, o, nI i, gb_mk I (gJ b J (gq J o) (kl.take i)))) kl.length (by omega) ?_ ?_
  · intro i hi q
    obtain ⟨key, hkey⟩ : ∃ key, kl[i]? = some key := ⟨kl[i], List.getElem?_eq_getElem hi⟩
    obtain ⟨e1, e2, e3, e4⟩ := a2 i key hkey
    have gqe : gq (gJ b J (gq J o) (kl.take i)) o = gq J o := by
      funext p
      unfold gq
      rw [gJ_ne (by omega), gJ_ne (by omega), gJ_ne (by omega), gJ_ne (by omega)]
    have i1 : gb_in (gb_mk I (gJ b J (gq J o) (kl.take i))) (o + 1) (nI i) = true := gb_in_k (by rw [d1]) (by omega) (by omega)
    have rb := gb_rw_b key
    have sb := gb_sP_b key
    have tk : kl.take (i + 1) = kl.take i ++ [key] := by rw [List.take_add_one, hkey]; rfl
    have ne : ¬ I o 6 ≤ nI i := by rw [a1]; exact nI_ge hi (by omega)
    simp only [fbX1_gather_72]
    rw [k0, gb_gd_t, gb_I_mk, if_neg ne, gb_gd_t, r0, gb_rd_s, kk1, gb_gd_t, i1, gb_gd_t, gb_lt_d, nI_clamp (by omega), e1, gb_gd_t, x_wU hB e2 e3, gb_bd_s, k0, gb_gd_t, x_wV hB e2 e3, gb_bd_s, x_rowOfKey e2, gb_bd_s, x_pathsOf e2, gb_bd_s, (c _ _).1, gb_gd_t, (c _ _).2.1, gb_rd_s, (c _ _).2.2.2.2.2.1, gb_gd_t, (((c _ _).2.2.2.2.2.2.2.2.2 (gb_rw key)).1 rb).1, gb_gd_t, gb_gd_t, gb_gd_t, gb_lt_d, gb_sL_mk, (c _ _).1, gb_gd_t, (c _ _).2.2.1, gb_rd_s, (c _ _).2.2.2.2.2.2.1, gb_gd_t, (((c _ _).2.2.2.2.2.2.2.2.2 (gb_rw key)).1 rb).2, gb_gd_t, gb_gd_t, gb_gd_t, gb_lt_d, gb_sL_mk, (c _ _).1, gb_gd_t, (c _ _).2.2.2.1, gb_rd_s, (c _ _).2.2.2.2.2.2.2.1, gb_gd_t, (((c _ _).2.2.2.2.2.2.2.2.2 (gb_sP key)).2 sb).1, gb_gd_t, gb_gd_t, gb_gd_t, gb_lt_d, gb_sL_mk, (c _ _).1, gb_gd_t, (c _ _).2.2.2.2.1, gb_rd_s, (c _ _).2.2.2.2.2.2.2.2.1, gb_gd_t, (((c _ _).2.2.2.2.2.2.2.2.2 (gb_sP key)).2 sb).2, gb_gd_t, gb_gd_t, gb_gd_t, gb_lt_d, gb_sL_mk, gb_lt_d, nI_1, nI_clamp (by omega), nI_clamp (by omega), gb_L_mk, gb_L_mk, gb_L_mk, gb_L_mk, gqe]
    rw [gb_u_ne _ _ (show 44 + 23 * b ≠ 43 + 23 * b by omega), gb_u_ne _ _ (show 45 + 23 * b ≠ 44 + 23 * b by omega), gb_u_ne _ _ (show 45 + 23 * b ≠ 43 + 23 * b by omega), gb_u_ne _ _ (show 46 + 23 * b ≠ 45 + 23 * b by omega), gb_u_ne _ _ (show 46 + 23 * b ≠ 44 + 23 * b by omega), gb_u_ne _ _ (show 46 + 23 * b ≠ 43 + 23 * b by omega)]
    show q (42 + 23 * b, o, nI (i + 1), gb_mk I (gb_u (gb_u (gb_u (gb_u (gJ b J (gq J o) (kl.take i)) (43 + 23 * b) (gb_rw key) (gJ b J (gq J o) (kl.take i) (43 + 23 * b) (gb_rw key) + wU (gq J o) key)) (44 + 23 * b) (gb_rw key) (gJ b J (gq J o) (kl.take i) (44 + 23 * b) (gb_rw key) + wV (gq J o) key)) (45 + 23 * b) (gb_sP key) (gJ b J (gq J o) (kl.take i) (45 + 23 * b) (gb_sP key) + wU (gq J o) key)) (46 + 23 * b) (gb_sP key) (gJ b J (gq J o) (kl.take i) (46 + 23 * b) (gb_sP key) + wV (gq J o) key))) = _
    rw [gJ_s, tk]
  · intro q
    simp only [fbX1_gather_72]
    rw [k0, gb_gd_t, gb_I_mk, if_pos (by rw [a1]; exact nI_le (Nat.le_refl _) (by omega)), List.take_length]
end GATHER
