section GATH2
variable {I I' I1 I2 : gb_FI} {J J' J1 J2 : gb_FJ} {g w i j x r m a b c : Nat} {o : Nat → Nat}
theorem gw_ch (P Q a b r : Nat) : nI (P * a + Q * b + r) + (nI b - nI a) * nI P + (nI a - nI b) * nI Q = nI (P * b + Q * a + r) := by
  rw [← nI_add, ← nI_add, ← nI_add, ← nI_add, ← gb_nI_mul, ← gb_nI_mul, ← gb_nI_mul, ← gb_nI_mul]
  grind
theorem gw3_m (ha : a < 16) (hb : b < 16) (hc : c < 16) : gw_m 3 (256 * a + 16 * b + c) 0 = a ∧ gw_m 3 (256 * a + 16 * b + c) 1 = b ∧ gw_m 3 (256 * a + 16 * b + c) 2 = c := by
  refine ⟨?_, ?_, ?_⟩
  · show (256 * a + 16 * b + c) / 16 ^ 2 % 16 = a
    simp; omega
  · show (256 * a + 16 * b + c) / 16 ^ 1 % 16 = b
    simp; omega
  · show (256 * a + 16 * b + c) / 16 ^ 0 % 16 = c
    simp; omega
theorem m_ch01 (hg : I 241 23 = nI 3) (ha : a < 16) (hb : b < 16) (hc : c < 16) : fnX11_changed 241 (nI (256 * a + 16 * b + c)) 0 1 (gb_mk I J) = some (nI (256 * b + 16 * a + c), gb_mk I J) := by
  obtain ⟨m0, m1, m2⟩ := gw3_m ha hb hc
  have h := m_changed (w := 256 * a + 16 * b + c) (i := 0) (j := 1) (J := J) hg (by decide) (by omega) (by decide) (by decide)
  rw [m0, m1, show (16 : Nat) ^ (3 - 1 - 0) = 256 from rfl, show (16 : Nat) ^ (3 - 1 - 1) = 16 from rfl, gw_ch 256 16 a b c] at h
  exact h
theorem m_ch02 (hg : I 241 23 = nI 3) (ha : a < 16) (hb : b < 16) (hc : c < 16) : fnX11_changed 241 (nI (256 * a + 16 * b + c)) 0 2 (gb_mk I J) = some (nI (256 * c + 16 * b + a), gb_mk I J) := by
  obtain ⟨m0, m1, m2⟩ := gw3_m ha hb hc
  have h := m_changed (w := 256 * a + 16 * b + c) (i := 0) (j := 2) (J := J) hg (by decide) (by omega) (by decide) (by decide)
  rw [m0, m2, show (16 : Nat) ^ (3 - 1 - 0) = 256 from rfl, show (16 : Nat) ^ (3 - 1 - 2) = 1 from rfl, show 256 * a + 16 * b + c = 256 * a + 1 * c + 16 * b by omega, gw_ch 256 1 a c (16 * b), show 256 * c + 1 * a + 16 * b = 256 * c + 16 * b + a by omega] at h
  rw [show 256 * a + 16 * b + c = 256 * a + 1 * c + 16 * b by omega]
  exact h
theorem m_ch12 (hg : I 241 23 = nI 3) (ha : a < 16) (hb : b < 16) (hc : c < 16) : fnX11_changed 241 (nI (256 * a + 16 * b + c)) 1 2 (gb_mk I J) = some (nI (256 * a + 16 * c + b), gb_mk I J) := by
  obtain ⟨m0, m1, m2⟩ := gw3_m ha hb hc
  have h := m_changed (w := 256 * a + 16 * b + c) (i := 1) (j := 2) (J := J) hg (by decide) (by omega) (by decide) (by decide)
  rw [m1, m2, show (16 : Nat) ^ (3 - 1 - 1) = 16 from rfl, show (16 : Nat) ^ (3 - 1 - 2) = 1 from rfl, show 256 * a + 16 * b + c = 16 * b + 1 * c + 256 * a by omega, gw_ch 16 1 b c (256 * a), show 16 * c + 1 * b + 256 * a = 256 * a + 16 * c + b by omega] at h
  rw [show 256 * a + 16 * b + c = 16 * b + 1 * c + 256 * a by omega]
  exact h
/-- the six orders of a word -/
def go3 (a b c : Nat) (j : Nat) : Nat := if j = 0 then 256 * a + 16 * b + c else if j = 1 then 256 * b + 16 * a + c else if j = 2 then 256 * c + 16 * b + a else if j = 3 then 256 * a + 16 * c + b else if j = 4 then 256 * c + 16 * a + b else 256 * b + 16 * c + a
theorem go3_b (ha : a < 16) (hb : b < 16) (hc : c < 16) (j : Nat) : go3 a b c j < 4096 := by
  unfold go3
  repeat' split
  all_goals omega
def gK6 (I : gb_FI) (a b c : Nat) : gb_FI := gb_u (gb_u (gb_u (gb_u (gb_u (gb_u I 259 0 (nI (go3 a b c 0))) 259 1 (nI (go3 a b c 1))) 259 2 (nI (go3 a b c 2))) 259 3 (nI (go3 a b c 3))) 259 4 (nI (go3 a b c 4))) 259 5 (nI (go3 a b c 5))
theorem gK6_ne (h : m ≠ 259) : gK6 I a b c m = I m := by
  unfold gK6
  rw [gb_u_row _ _ h, gb_u_row _ _ h, gb_u_row _ _ h, gb_u_row _ _ h, gb_u_row _ _ h, gb_u_row _ _ h]
theorem gK6_o : ∀ j, j < 6 → gK6 I a b c 259 j = nI (go3 a b c j)
  | 0, _ => rfl
  | 1, _ => rfl
  | 2, _ => rfl
  | 3, _ => rfl
  | 4, _ => rfl
  | 5, _ => rfl
  | j + 6, h => absurd h (by omega)
theorem m_gathers3 (hg : I 241 23 = nI 3) (ha : a < 16) (hb : b < 16) (hc : c < 16) : fnX11_gathers 241 (nI (256 * a + 16 * b + c)) (gb_mk I J) = some ((), gb_mk (gK6 I a b c) (gth J (go3 a b c) 6)) := by
  have i0 : ∀ (I : gb_FI) (J : gb_FJ), gb_in (gb_mk I J) 259 (0 : Int32) = true := fun I J => gi259 (j := 0) (by decide)
  have i1 : ∀ (I : gb_FI) (J : gb_FJ), gb_in (gb_mk I J) 259 (1 : Int32) = true := fun I J => gi259 (j := 1) (by decide)
  have i2 : ∀ (I : gb_FI) (J : gb_FJ), gb_in (gb_mk I J) 259 (2 : Int32) = true := fun I J => gi259 (j := 2) (by decide)
  have i3 : ∀ (I : gb_FI) (J : gb_FJ), gb_in (gb_mk I J) 259 (3 : Int32) = true := fun I J => gi259 (j := 3) (by decide)
  have i4 : ∀ (I : gb_FI) (J : gb_FJ), gb_in (gb_mk I J) 259 (4 : Int32) = true := fun I J => gi259 (j := 4) (by decide)
  have i5 : ∀ (I : gb_FI) (J : gb_FJ), gb_in (gb_mk I J) 259 (5 : Int32) = true := fun I J => gi259 (j := 5) (by decide)
  have c0 : (0 : Int32).toNatClampNeg = 0 := rfl
  have c1 : (1 : Int32).toNatClampNeg = 1 := rfl
  have c2 : (2 : Int32).toNatClampNeg = 2 := rfl
  have c3 : (3 : Int32).toNatClampNeg = 3 := rfl
  have c4 : (4 : Int32).toNatClampNeg = 4 := rfl
  have c5 : (5 : Int32).toNatClampNeg = 5 := rfl
  have u : ∀ (K : gb_FI) (j : Nat) (v : Int32), K 241 23 = nI 3 → gb_u K 259 j v 241 23 = nI 3 := fun K j v h => by rw [gb_u_ne _ _ (by decide)]; exact h
  have g0 := u I 0 (nI (256 * a + 16 * b + c)) hg
  have g1 := u _ 1 (nI (256 * b + 16 * a + c)) g0
  have g2 := u _ 2 (nI (256 * c + 16 * b + a)) g1
  have g3 := u _ 3 (nI (256 * a + 16 * c + b)) g2
  have g4 := u _ 4 (nI (256 * c + 16 * a + b)) g3
  unfold fnX11_gathers
  rw [gk241, gb_gd_t, gb_I_mk, hg, if_pos (show (3 : Int32) ≤ nI 3 by decide), gb_gd_t, gr241_32, gb_rd_s, gk259, gb_gd_t, i0, gb_gd_t, gb_lt_d, gb_sI_mk, c0]
  rw [gk241, gb_gd_t, gr241_32, gb_rd_s, gb_gd_t, m_ch01 g0 ha hb hc, gb_bd_s, gk259, gb_gd_t, i1, gb_gd_t, gb_lt_d, gb_sI_mk, c1]
  rw [gk241, gb_gd_t, gr241_32, gb_rd_s, gb_gd_t, m_ch02 g1 ha hb hc, gb_bd_s, gk259, gb_gd_t, i2, gb_gd_t, gb_lt_d, gb_sI_mk, c2]
  rw [gk241, gb_gd_t, gr241_32, gb_rd_s, gb_gd_t, m_ch12 g2 ha hb hc, gb_bd_s, gk259, gb_gd_t, i3, gb_gd_t, gb_lt_d, gb_sI_mk, c3]
  rw [gk241, gb_gd_t, gr241_32, gb_rd_s, gb_gd_t, gb_rd_s, gk259, gb_gd_t, i1, gb_gd_t, gb_gd_t, gb_I_mk, gb_u_nk _ _ (show 1 ≠ 3 by decide), gb_u_nk _ _ (show 1 ≠ 2 by decide), gb_u_s, m_ch02 g3 hb ha hc, gb_bd_s, gk259, gb_gd_t, i4, gb_gd_t, gb_lt_d, gb_sI_mk, c4]
  rw [gk241, gb_gd_t, gr241_32, gb_rd_s, gb_gd_t, gb_rd_s, gk259, gb_gd_t, i1, gb_gd_t, gb_gd_t, gb_I_mk, gb_u_nk _ _ (show 1 ≠ 4 by decide), gb_u_nk _ _ (show 1 ≠ 3 by decide), gb_u_nk _ _ (show 1 ≠ 2 by decide), gb_u_s, m_ch12 g4 hb ha hc, gb_bd_s, gk259, gb_gd_t, i5, gb_gd_t, gb_lt_d, gb_sI_mk, c5]
  rw [m_gath179 (o := go3 a b c)]
  exact m_gath199 (I := gK6 I a b c) (fun j _ => go3_b ha hb hc j) gK6_o
/-- a sum over some words -/
theorem gex_s {W n : Nat} (f : Nat → Int64) (hn : o n < W) : gS W (fun v => if gex o (n + 1) v = true then f v else 0) = gS W (fun v => if gex o n v = true then f v else 0) + (if gex o n (o n) = true then 0 else f (o n)) := by
  have e : (if gex o n (o n) = true then 0 else f (o n)) = gS W (fun v => if v = o n then (if gex o n (o n) = true then 0 else f (o n)) else 0) := by rw [gS_pt, if_pos hn]
  rw [e, ← gS_add]
  refine gS_congr _ (fun v _ => ?_)
  by_cases d : v = o n
  · subst d
    rw [if_pos (show gex o (n + 1) (o n) = true by simp [gex]), if_pos rfl]
    by_cases k : gex o n (o n) = true
    · rw [if_pos k, if_pos k, Int64.add_zero]
    · rw [if_neg k, if_neg k, Int64.zero_add]
  · rw [if_neg d, Int64.add_zero]
    by_cases k : gex o n v = true
    · rw [if_pos k, if_pos (show gex o (n + 1) v = true by simp [gex, k])]
    · rw [if_neg k, if_neg (fun z : gex o (n + 1) v = true => by
        simp [gex, k] at z
        exact d z.symm)]
theorem gex6 {v : Nat} : gex o 6 v = true ↔ o 0 = v ∨ o 1 = v ∨ o 2 = v ∨ o 3 = v ∨ o 4 = v ∨ o 5 = v := by
  simp [gex, or_assoc]
theorem gex_0 {W : Nat} (f : Nat → Int64) : gS W (fun v => if gex o 0 v = true then f v else 0) = 0 := by
  rw [gS_congr (g := fun _ => 0) _ (fun v _ => if_neg (by simp [gex])), gS_0]
/-- a row of three is its rising row in some order -/
theorem g3p (x y z : Nat) : ∃ p q r, p = gb_mi x y z ∧ q = x + y + z - gb_mi x y z - gb_ma x y z ∧ r = gb_ma x y z ∧ ((x = p ∧ y = q ∧ z = r) ∨ (x = q ∧ y = p ∧ z = r) ∨ (x = r ∧ y = q ∧ z = p) ∨ (x = p ∧ y = r ∧ z = q) ∨ (x = r ∧ y = p ∧ z = q) ∨ (x = q ∧ y = r ∧ z = p)) := by
  by_cases c1 : x ≤ y
  · by_cases c2 : y ≤ z
    · exact ⟨x, y, z, by unfold gb_mi; omega, by unfold gb_mi gb_ma; omega, by unfold gb_ma; omega, Or.inl ⟨rfl, rfl, rfl⟩⟩
    · by_cases c3 : x ≤ z
      · exact ⟨x, z, y, by unfold gb_mi; omega, by unfold gb_mi gb_ma; omega, by unfold gb_ma; omega, Or.inr (Or.inr (Or.inr (Or.inl ⟨rfl, rfl, rfl⟩)))⟩
      · exact ⟨z, x, y, by unfold gb_mi; omega, by unfold gb_mi gb_ma; omega, by unfold gb_ma; omega, Or.inr (Or.inr (Or.inr (Or.inr (Or.inr ⟨rfl, rfl, rfl⟩))))⟩
  · by_cases c2 : x ≤ z
    · exact ⟨y, x, z, by unfold gb_mi; omega, by unfold gb_mi gb_ma; omega, by unfold gb_ma; omega, Or.inr (Or.inl ⟨rfl, rfl, rfl⟩)⟩
    · by_cases c3 : y ≤ z
      · exact ⟨y, z, x, by unfold gb_mi; omega, by unfold gb_mi gb_ma; omega, by unfold gb_ma; omega, Or.inr (Or.inr (Or.inr (Or.inr (Or.inl ⟨rfl, rfl, rfl⟩))))⟩
      · exact ⟨z, y, x, by unfold gb_mi; omega, by unfold gb_mi gb_ma; omega, by unfold gb_ma; omega, Or.inr (Or.inr (Or.inl ⟨rfl, rfl, rfl⟩))⟩
theorem gky_perm {x y z x' y' z' : Nat} (hx : x < 17) (hy : y < 17) (hz : z < 17) (hx' : x' < 17) (hy' : y' < 17) (hz' : z' < 17) : gb_ky x' y' z' = gb_ky x y z ↔ (x' = x ∧ y' = y ∧ z' = z) ∨ (x' = y ∧ y' = x ∧ z' = z) ∨ (x' = z ∧ y' = y ∧ z' = x) ∨ (x' = x ∧ y' = z ∧ z' = y) ∨ (x' = z ∧ y' = x ∧ z' = y) ∨ (x' = y ∧ y' = z ∧ z' = x) := by
  constructor
  · intro e
    obtain ⟨_, a2, a3, a4⟩ := gb_ky_s hx hy hz
    obtain ⟨_, b2, b3, b4⟩ := gb_ky_s hx' hy' hz'
    rw [e] at b2 b3 b4
    obtain ⟨p, q, r, p1, p2, p3, h⟩ := g3p x y z
    obtain ⟨p', q', r', p1', p2', p3', h'⟩ := g3p x' y' z'
    rw [← b2, a2, ← p1] at p1'
    rw [← b3, a3, ← p2] at p2'
    rw [← b4, a4, ← p3] at p3'
    subst p1' p2' p3'
    clear p1 p2 p3 a2 a3 a4 b2 b3 b4 e hx hy hz hx' hy' hz'
    rcases h with ⟨rfl, rfl, rfl⟩ | ⟨rfl, rfl, rfl⟩ | ⟨rfl, rfl, rfl⟩ | ⟨rfl, rfl, rfl⟩ | ⟨rfl, rfl, rfl⟩ | ⟨rfl, rfl, rfl⟩ <;> rcases h' with ⟨rfl, rfl, rfl⟩ | ⟨rfl, rfl, rfl⟩ | ⟨rfl, rfl, rfl⟩ | ⟨rfl, rfl, rfl⟩ | ⟨rfl, rfl, rfl⟩ | ⟨rfl, rfl, rfl⟩ <;> simp
  · intro h
    rcases h with ⟨rfl, rfl, rfl⟩ | ⟨rfl, rfl, rfl⟩ | ⟨rfl, rfl, rfl⟩ | ⟨rfl, rfl, rfl⟩ | ⟨rfl, rfl, rfl⟩ | ⟨rfl, rfl, rfl⟩
    · rfl
    · exact gb_ky_12
    · rw [gb_ky_12, gb_ky_23, gb_ky_12]
    · exact gb_ky_23
    · rw [gb_ky_12, gb_ky_23]
    · rw [gb_ky_23, gb_ky_12]
/-- the reference's sums: over all words of the same product -/
theorem m_gathers (g3 : g ≤ 3) (hg : I 241 23 = nI g) (hw : w < 16 ^ g) : ∃ I' J', fnX11_gathers 241 (nI w) (gb_mk I J) = some ((), gb_mk I' J') ∧ (∀ m, m ≠ 259 → I' m = I m) ∧ (∀ m, m ≠ 258 → J' m = J m) ∧ ∀ r, r < 4 → J' 258 r = gS (16 ^ g) (fun v => if gw_k g v = gw_k g w then J 251 (4 * v + r) else 0) := by
  have small : g < 3 → fnX11_gathers 241 (nI w) (gb_mk I J) = g10r I w (gc4 J (fun k => J 251 (4 * w + k)) 4) := fun h => by
    unfold fnX11_gathers
    rw [gk241, gb_gd_t, gb_I_mk, hg, if_neg (show ¬ (3 : Int32) ≤ nI g from nI_ge (b := 3) h (by omega)), m_gath10 (Nat.lt_of_lt_of_le hw (Nat.le_trans (Nat.pow_le_pow_right (by decide) g3) (by decide)))]
  have one : (∀ v, v < 16 ^ g → (gw_k g v = gw_k g w ↔ v = w)) → ∀ r, r < 4 → gc4 J (fun k => J 251 (4 * w + k)) 4 258 r = gS (16 ^ g) (fun v => if gw_k g v = gw_k g w then J 251 (4 * v + r) else 0) := fun h r hr => by
    rw [gc4_lt 4 hr, gS_congr (g := fun v => if v = w then J 251 (4 * w + r) else 0) _ (fun v hv => by
      by_cases d : v = w
      · rw [if_pos ((h v hv).mpr d), if_pos d, d]
      · rw [if_neg (fun z => d ((h v hv).mp z)), if_neg d]), gS_pt, if_pos hw]
  match g, g3 with
  | 0, _ =>
    refine ⟨I, gc4 J (fun k => J 251 (4 * w + k)) 4, ?_, fun _ _ => rfl, fun m hm => gc4_ne hm 4, one (fun v hv => ?_)⟩
    · rw [small (by decide)]
      unfold g10r
      rw [hg, if_neg (by decide)]
      rfl
    · have h1 : v < 1 := hv
      have h2 : w < 1 := hw
      exact ⟨fun _ => by omega, fun z => by rw [z]⟩
  | 1, _ =>
    refine ⟨I, gc4 J (fun k => J 251 (4 * w + k)) 4, ?_, fun _ _ => rfl, fun m hm => gc4_ne hm 4, one (fun v hv => ?_)⟩
    · rw [small (by decide)]
      unfold g10r
      rw [hg, if_neg (by decide)]
      rfl
    · have h1 : v < 16 := hv
      have h2 : w < 16 := hw
      rw [gw_k1 h1, gw_k1 h2, gb_ky00, gb_ky00]
      omega
  | 2, _ =>
    have h2 : w < 256 := hw
    have m0 : gw_m 2 w 0 = w / 16 := by show w / 16 ^ 1 % 16 = _; simp; omega
    have m1 : gw_m 2 w 1 = w % 16 := by show w / 16 ^ 0 % 16 = _; simp
    have ec : nI w + (nI (gw_m 2 w 1) - nI (gw_m 2 w 0)) * nI (16 ^ (2 - 1 - 0)) + (nI (gw_m 2 w 0) - nI (gw_m 2 w 1)) * nI (16 ^ (2 - 1 - 1)) = nI (16 * (w % 16) + w / 16) := by
      rw [m0, m1, show (16 : Nat) ^ (2 - 1 - 0) = 16 from rfl, show (16 : Nat) ^ (2 - 1 - 1) = 1 from rfl]
      have := gw_ch 16 1 (w / 16) (w % 16) 0
      rw [show 16 * (w / 16) + 1 * (w % 16) + 0 = w by omega, show 16 * (w % 16) + 1 * (w / 16) + 0 = 16 * (w % 16) + w / 16 by omega] at this
      exact this
    have ch := m_changed (w := w) (i := 0) (j := 1) (J := gc4 J (fun k => J 251 (4 * w + k)) 4) hg (by decide) (by omega) (by decide) (by decide)
    rw [ec] at ch
    have kk : ∀ v, v < 256 → (gw_k 2 v = gw_k 2 w ↔ v = w ∨ v = 16 * (w % 16) + w / 16) := fun v hv => by
      have n0 : gw_m 2 v 0 = v / 16 := by show v / 16 ^ 1 % 16 = _; simp; omega
      have n1 : gw_m 2 v 1 = v % 16 := by show v / 16 ^ 0 % 16 = _; simp
      show gb_ky 0 (gw_m 2 v 0 + 1) (gw_m 2 v 1 + 1) = gb_ky 0 (gw_m 2 w 0 + 1) (gw_m 2 w 1 + 1) ↔ _
      rw [n0, n1, m0, m1, gky_perm (by decide) (by omega) (by omega) (by decide) (by omega) (by omega)]
      omega
    have run : fnX11_gathers 241 (nI w) (gb_mk I J) = if nI (16 * (w % 16) + w / 16) = nI w then some ((), gb_mk I (gc4 J (fun k => J 251 (4 * w + k)) 4)) else lpX11_gathers_58 gb_FU 241 (nI w) 0 (gb_mk I (gc4 J (fun k => J 251 (4 * w + k)) 4)) := by
      rw [small (by decide)]
      unfold g10r
      rw [hg, if_pos (show nI 2 = (2 : Int32) from rfl), show fnX11_changed 241 (nI w) 0 1 (gb_mk I (gc4 J (fun k => J 251 (4 * w + k)) 4)) = _ from ch, gb_bd_s]
      rfl
    by_cases d : 16 * (w % 16) + w / 16 = w
    · refine ⟨I, gc4 J (fun k => J 251 (4 * w + k)) 4, ?_, fun _ _ => rfl, fun m hm => gc4_ne hm 4, one (fun v hv => ?_)⟩
      · rw [run, if_pos (by rw [d])]
      · rw [kk v hv]; omega
    · refine ⟨I, _, by rw [run, if_neg (fun z => d ((nI_eq (by omega) (by omega)).mp z))]; exact m_gath58 hg (by omega) (by omega) ec, fun _ _ => rfl, fun m hm => (gc4_ne hm 4).trans (gc4_ne hm 4), fun r hr => ?_⟩
      rw [gc4_lt 4 hr, gc4_ne (show 251 ≠ 258 by decide), gc4_lt 4 hr]
      have s1 : J 251 (4 * w + r) = gS 256 (fun v => if v = w then J 251 (4 * w + r) else 0) := by rw [gS_pt, if_pos h2]
      have s2 : J 251 (4 * (16 * (w % 16) + w / 16) + r) = gS 256 (fun v => if v = 16 * (w % 16) + w / 16 then J 251 (4 * (16 * (w % 16) + w / 16) + r) else 0) := by rw [gS_pt, if_pos (by omega)]
      rw [s1, s2, ← gS_add]
      refine gS_congr _ (fun v hv => ?_)
      by_cases e1 : v = w
      · rw [if_pos e1, if_neg (by omega), if_pos ((kk v hv).mpr (Or.inl e1)), e1, Int64.add_zero]
      · rw [if_neg e1, Int64.zero_add]
        by_cases e2 : v = 16 * (w % 16) + w / 16
        · rw [if_pos e2, if_pos ((kk v hv).mpr (Or.inr e2)), ← e2]
        · rw [if_neg e2, if_neg (fun z => by rcases (kk v hv).mp z with q | q; exact e1 q; exact e2 q)]
  | 3, _ =>
    have h2 : w < 4096 := hw
    have b0 := gw_m_b (g := 3) (w := w) (j := 0)
    have b1 := gw_m_b (g := 3) (w := w) (j := 1)
    have b2 := gw_m_b (g := 3) (w := w) (j := 2)
    have e : ∀ v, v < 4096 → v = 256 * gw_m 3 v 0 + 16 * gw_m 3 v 1 + gw_m 3 v 2 := fun v hv => by
      show v = 256 * (v / 16 ^ 2 % 16) + 16 * (v / 16 ^ 1 % 16) + v / 16 ^ 0 % 16
      simp; omega
    have run := m_gathers3 (I := I) (J := J) hg b0 b1 b2
    rw [← e w h2] at run
    refine ⟨_, _, run, fun m hm => gK6_ne hm, fun m hm => gth_ne hm 6, fun r hr => ?_⟩
    rw [gth_sum (W := 16 ^ 3) (fun j _ => go3_b b0 b1 b2 j) hr 6 (by decide)]
    refine gS_congr _ (fun v hv => ?_)
    have v2 : v < 4096 := hv
    have c0 := gw_m_b (g := 3) (w := v) (j := 0)
    have c1 := gw_m_b (g := 3) (w := v) (j := 1)
    have c2 := gw_m_b (g := 3) (w := v) (j := 2)
    have ev := e v v2
    have k : gex (go3 (gw_m 3 w 0) (gw_m 3 w 1) (gw_m 3 w 2)) 6 v = true ↔ gw_k 3 v = gw_k 3 w := by
      show _ ↔ gb_ky (gw_m 3 v 0 + 1) (gw_m 3 v 1 + 1) (gw_m 3 v 2 + 1) = gb_ky (gw_m 3 w 0 + 1) (gw_m 3 w 1 + 1) (gw_m 3 w 2 + 1)
      rw [gky_perm (by omega) (by omega) (by omega) (by omega) (by omega) (by omega)]
      rw [gex6]
      generalize gw_m 3 w 0 = a at *
      generalize gw_m 3 w 1 = b at *
      generalize gw_m 3 w 2 = c at *
      generalize gw_m 3 v 0 = a' at *
      generalize gw_m 3 v 1 = b' at *
      generalize gw_m 3 v 2 = c' at *
      have dg : ∀ a b c, a < 16 → b < 16 → c < 16 → (256 * a + 16 * b + c = v ↔ a' = a ∧ b' = b ∧ c' = c) := fun a b c _ _ _ => by omega
      show (256 * a + 16 * b + c = v ∨ 256 * b + 16 * a + c = v ∨ 256 * c + 16 * b + a = v ∨ 256 * a + 16 * c + b = v ∨ 256 * c + 16 * a + b = v ∨ 256 * b + 16 * c + a = v) ↔ _
      rw [dg a b c b0 b1 b2, dg b a c b1 b0 b2, dg c b a b2 b1 b0, dg a c b b0 b2 b1, dg c a b b2 b0 b1, dg b c a b1 b2 b0]
      simp only [Nat.add_right_cancel_iff]
    by_cases q : gw_k 3 v = gw_k 3 w
    · rw [if_pos q, if_pos (k.mpr q)]
    · rw [if_neg q, if_neg (fun z => q (k.mp z))]
/-- what the reference sums up is the product's number -/
theorem m_nmb {ps : List gb_P} {k0 K : Nat} (hF : ∀ F, gP (16 ^ g) (rq J 251) (fun v => F (gw_k g v)) = (gb_ops ps F k0).1) (hr : r < 4) : gS (16 ^ g) (fun v => if gw_k g v = K then J 251 (4 * v + r) else 0) = qc (zL (zN ps k0 K)) r := by
  rw [← zN_c, ← hF]
  refine gS_congr _ (fun v _ => ?_)
  show _ = q4 (rq J 251 v) (if gw_k g v = K then qe r else qZ)
  by_cases d : gw_k g v = K
  · rw [if_pos d, if_pos d, q4_e]
    unfold rq qc
    match r, hr with
    | 0, _ => rfl
    | 1, _ => rfl
    | 2, _ => rfl
    | 3, _ => rfl
  · rw [if_neg d, if_neg d, q4_Z]
end GATH2
