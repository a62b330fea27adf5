section ROW
variable {I I' I1 I2 : gb_FI} {J J' J1 J2 : gb_FJ} {a b c d e k : Nat}
def gmn (x y : Int32) : Int32 := if y < x then y else x
def gmx (x y : Int32) : Int32 := if x < y then y else x
theorem gmn_l (x y : Int32) : gmn x y ≤ x ∧ gmn x y ≤ y := by
  unfold gmn
  split
  · next h =>
    rw [Int32.lt_iff_toInt_lt] at h
    rw [Int32.le_iff_toInt_le, Int32.le_iff_toInt_le]
    omega
  · next h =>
    rw [Int32.lt_iff_toInt_lt] at h
    rw [Int32.le_iff_toInt_le, Int32.le_iff_toInt_le]
    omega
theorem gmx_l (x y : Int32) : x ≤ gmx x y ∧ y ≤ gmx x y := by
  unfold gmx
  split
  · next h =>
    rw [Int32.lt_iff_toInt_lt] at h
    rw [Int32.le_iff_toInt_le, Int32.le_iff_toInt_le]
    omega
  · next h =>
    rw [Int32.lt_iff_toInt_lt] at h
    rw [Int32.le_iff_toInt_le, Int32.le_iff_toInt_le]
    omega
def gpc (a b c d e : Nat) : Nat := a + 16 * b + 256 * c + 4096 * d + 65536 * e
def gpk5 (a b c d e : Nat) : Nat := a + 4 * (b + 4 * (c + 4 * (d + 4 * e)))
def gpcA (a b c d e : Nat) : Bool := decide (¬ (gmn (gmn (gmn (nI a) (nI b)) (gmn (nI c) (nI d))) (nI e) < 0)) && decide (gmx (gmx (gmx (nI a) (nI b)) (gmx (nI c) (nI d))) (nI e) ≤ 3) && decide (((((nI a ||| (nI b <<< ((4 : Int32) &&& 31))) ||| (nI c <<< ((8 : Int32) &&& 31))) ||| (nI d <<< ((12 : Int32) &&& 31))) ||| (nI e <<< ((16 : Int32) &&& 31))) = nI (gpc a b c d e))
theorem gpcA_ok : ∀ a, a < 4 → ∀ b, b < 4 → ∀ c, c < 4 → ∀ d, d < 4 → ∀ e, e < 4 → gpcA a b c d e = true := by decide +kernel
theorem gpc_ok (ha : a < 4) (hb : b < 4) (hc : c < 4) (hd : d < 4) (he : e < 4) : ¬ (gmn (gmn (gmn (nI a) (nI b)) (gmn (nI c) (nI d))) (nI e) < 0) ∧ gmx (gmx (gmx (nI a) (nI b)) (gmx (nI c) (nI d))) (nI e) ≤ 3 ∧ ((((nI a ||| (nI b <<< ((4 : Int32) &&& 31))) ||| (nI c <<< ((8 : Int32) &&& 31))) ||| (nI d <<< ((12 : Int32) &&& 31))) ||| (nI e <<< ((16 : Int32) &&& 31))) = nI (gpc a b c d e) := by
  have h := gpcA_ok a ha b hb c hc d hd e he
  unfold gpcA at h
  rw [Bool.and_eq_true, Bool.and_eq_true] at h
  exact ⟨of_decide_eq_true h.1.1, of_decide_eq_true h.1.2, of_decide_eq_true h.2⟩
def gpcB (C i x : Nat) : Bool := decide ((nI C >>> (((4 : Int32) * (nI (i + 1) - 1)) &&& 31)) &&& 15 = nI x)
def gpcC (a b c d e : Nat) : Bool := gpcB (gpc a b c d e) 0 a && gpcB (gpc a b c d e) 1 b && gpcB (gpc a b c d e) 2 c && gpcB (gpc a b c d e) 3 d && gpcB (gpc a b c d e) 4 e
theorem gpcC_ok : ∀ a, a < 4 → ∀ b, b < 4 → ∀ c, c < 4 → ∀ d, d < 4 → ∀ e, e < 4 → gpcC a b c d e = true := by decide +kernel
abbrev grg5 (p0 p1 p2 p3 p4 : Int32) : Prop := gb_rg p0 4 = true ∧ gb_rg p1 4 = true ∧ gb_rg p2 4 = true ∧ gb_rg p3 4 = true ∧ gb_rg p4 4 = true
theorem x_pack0 (p0 p1 p2 p3 p4 : Int32) (h : gb_H) : fnX10_packCounts p0 p1 p2 p3 p4 h = if gmn (gmn (gmn p0 p1) (gmn p2 p3)) p4 < 0 then some (-1, h) else if gmx (gmx (gmx p0 p1) (gmx p2 p3)) p4 ≤ 3 then some ((((p0 ||| (p1 <<< ((4 : Int32) &&& 31))) ||| (p2 <<< ((8 : Int32) &&& 31))) ||| (p3 <<< ((12 : Int32) &&& 31))) ||| (p4 <<< ((16 : Int32) &&& 31)), h) else some (-1, h) := by
  show gb_lt (gmx p2 p3) (fun x1 => gb_lt (gmx p0 p1) fun x2 => gb_lt (gmx x2 x1) fun x3 => gb_lt (gmx x3 p4) fun x4 => gb_lt (gmn p2 p3) fun x5 => gb_lt (gmn p0 p1) fun x6 => gb_lt (gmn x6 x5) fun x7 => gb_lt (gmn x7 p4) fun x8 => if x8 < 0 then some (-1, h) else if x4 ≤ 3 then some ((((p0 ||| (p1 <<< ((4 : Int32) &&& 31))) ||| (p2 <<< ((8 : Int32) &&& 31))) ||| (p3 <<< ((12 : Int32) &&& 31))) ||| (p4 <<< ((16 : Int32) &&& 31)), h) else some (-1, h)) = _
  rw [gb_lt_d, gb_lt_d, gb_lt_d, gb_lt_d, gb_lt_d, gb_lt_d, gb_lt_d, gb_lt_d]
theorem x_packN {p0 p1 p2 p3 p4 : Int32} (hn : ¬ grg5 p0 p1 p2 p3 p4) (h : gb_H) : fnX10_packCounts p0 p1 p2 p3 p4 h = some (-1, h) := by
  rw [x_pack0]
  have l1 := gmn_l p0 p1
  have l2 := gmn_l p2 p3
  have l3 := gmn_l (gmn p0 p1) (gmn p2 p3)
  have l4 := gmn_l (gmn (gmn p0 p1) (gmn p2 p3)) p4
  have u1 := gmx_l p0 p1
  have u2 := gmx_l p2 p3
  have u3 := gmx_l (gmx p0 p1) (gmx p2 p3)
  have u4 := gmx_l (gmx (gmx p0 p1) (gmx p2 p3)) p4
  by_cases c1 : gmn (gmn (gmn p0 p1) (gmn p2 p3)) p4 < 0
  · rw [if_pos c1]
  · rw [if_neg c1]
    by_cases c2 : gmx (gmx (gmx p0 p1) (gmx p2 p3)) p4 ≤ 3
    · exfalso
      have t3 : (3 : Int32).toInt = 3 := rfl
      have t0 : (0 : Int32).toInt = 0 := rfl
      have ok : ∀ v : Int32, gmn (gmn (gmn p0 p1) (gmn p2 p3)) p4 ≤ v → v ≤ gmx (gmx (gmx p0 p1) (gmx p2 p3)) p4 → gb_rg v 4 = true := fun v h1 h2 => by
        have h0 : ¬ v < 0 := by
          rw [Int32.lt_iff_toInt_lt] at c1 ⊢
          rw [Int32.le_iff_toInt_le] at h1
          omega
        obtain ⟨j, hj, rfl⟩ := nI_of h0
        rw [gb_rg_nI hj]
        have : ¬ 4 ≤ j := fun q => by
          have : (4 : Int32) ≤ nI j := nI_le (a := 4) q hj
          rw [Int32.le_iff_toInt_le] at this h2 c2
          have t4 : (4 : Int32).toInt = 4 := rfl
          omega
        simp; omega
      simp only [Int32.le_iff_toInt_le] at l1 l2 l3 l4 u1 u2 u3 u4
      refine hn ⟨ok p0 ?_ ?_, ok p1 ?_ ?_, ok p2 ?_ ?_, ok p3 ?_ ?_, ok p4 ?_ ?_⟩ <;> (rw [Int32.le_iff_toInt_le]; omega)
    · rw [if_neg c2]
theorem x_pack (ha : a < 4) (hb : b < 4) (hc : c < 4) (hd : d < 4) (he : e < 4) (h : gb_H) : fnX10_packCounts (nI a) (nI b) (nI c) (nI d) (nI e) h = some (nI (gpc a b c d e), h) := by
  obtain ⟨q1, q2, q3⟩ := gpc_ok ha hb hc hd he
  rw [x_pack0, if_neg q1, if_pos q2, q3]
/-- so many grains in one path more -/
def gps (p : Nat) : Nat → Nat × Nat × Nat → Option (Nat × Nat × Nat)
  | 0, s => some s
  | n + 1, s => if s.1 = 0 then gps p n (s.2.1, s.2.2, p) else none
def grF (c : Nat → Nat) : Nat → Nat → Nat × Nat × Nat → Option (Nat × Nat × Nat)
  | 0, _, s => some s
  | k + 1, i, s => match gps (i + 1) (c i) s with
    | none => none
    | some s' => grF c k (i + 1) s'
def gs5 (s : Nat × Nat × Nat) : Prop := s.1 ≤ 5 ∧ s.2.1 ≤ 5 ∧ s.2.2 ≤ 5
theorem gps_b {p : Nat} (hp : p ≤ 5) : ∀ n s, gs5 s → ∀ t, gps p n s = some t → gs5 t
  | 0, s, h, t, e => by
    rw [gps] at e
    rw [← Option.some.inj e]; exact h
  | n + 1, s, h, t, e => by
    rw [gps] at e
    split at e
    · exact gps_b hp n _ ⟨h.2.1, h.2.2, hp⟩ t e
    · cases e
theorem x_row31 {p n : Nat} (hp : p ≤ 5) (hn : n < 4) (v0 : Int32) (k9 : Int32 → Int32 → Int32 → Int32 → Int32 → gb_H → Option (Int32 × gb_H)) (h : gb_H) : ∀ k j F (s : Nat × Nat × Nat), j + k = n → k < F → gs5 s →
    lpX10_rowOfCounts_31 k9 F v0 (nI s.1) (nI s.2.1) (nI s.2.2) (nI p) (nI n) (nI j) h = match gps p k s with
      | none => some (-1, h)
      | some t => k9 v0 (nI t.1) (nI t.2.1) (nI t.2.2) (nI (p + 1)) h := by
  intro k
  induction k with
  | zero =>
    intro j F s hj hF hs
    obtain ⟨F, rfl⟩ : ∃ f, F = f + 1 := ⟨F - 1, by omega⟩
    rw [show lpX10_rowOfCounts_31 k9 (F + 1) v0 (nI s.1) (nI s.2.1) (nI s.2.2) (nI p) (nI n) (nI j) h = fbX10_rowOfCounts_31 k9 (fun v0 v1 v2 v3 v4 v5 v6 h => lpX10_rowOfCounts_31 k9 F v0 v1 v2 v3 v4 v5 v6 h) v0 (nI s.1) (nI s.2.1) (nI s.2.2) (nI p) (nI n) (nI j) h from rfl]
    unfold fbX10_rowOfCounts_31
    rw [if_pos (nI_le (show n ≤ j by omega) (by omega)), gb_lt_d, nI_1]
    rfl
  | succ k ih =>
    intro j F s hj hF hs
    obtain ⟨F, rfl⟩ : ∃ f, F = f + 1 := ⟨F - 1, by omega⟩
    rw [show lpX10_rowOfCounts_31 k9 (F + 1) v0 (nI s.1) (nI s.2.1) (nI s.2.2) (nI p) (nI n) (nI j) h = fbX10_rowOfCounts_31 k9 (fun v0 v1 v2 v3 v4 v5 v6 h => lpX10_rowOfCounts_31 k9 F v0 v1 v2 v3 v4 v5 v6 h) v0 (nI s.1) (nI s.2.1) (nI s.2.2) (nI p) (nI n) (nI j) h from rfl]
    unfold fbX10_rowOfCounts_31
    have h1 := hs.1
    rw [if_neg (nI_ge (show j < n by omega) (by omega)), gps]
    by_cases z : s.1 = 0
    · rw [if_pos z, if_pos (show nI s.1 = 0 by rw [z]; rfl), gb_lt_d, nI_1]
      exact ih (j + 1) F (s.2.1, s.2.2, p) (by omega) (by omega) ⟨hs.2.1, hs.2.2, hp⟩
    · rw [if_neg z, if_neg (show ¬ nI s.1 = 0 from fun q => z ((nI_eq (b := 0) (by omega) (by omega)).mp q))]
theorem x_row9 {v0 : Int32} {c : Nat → Nat} (hc : ∀ i, i < 5 → c i < 4 ∧ (v0 >>> (((4 : Int32) * (nI (i + 1) - 1)) &&& 31)) &&& 15 = nI (c i)) (h : gb_H) : ∀ k i F (s : Nat × Nat × Nat), i + k = 5 → k < F → gs5 s →
    lpX10_rowOfCounts_9 F v0 (nI s.1) (nI s.2.1) (nI s.2.2) (nI (i + 1)) h = match grF c k i s with
      | none => some (-1, h)
      | some t => some (nI (gb_kp (gb_ky t.1 t.2.1 t.2.2)), h) := by
  intro k
  induction k with
  | zero =>
    intro i F s hi hF hs
    obtain ⟨F, rfl⟩ : ∃ f, F = f + 1 := ⟨F - 1, by omega⟩
    obtain ⟨h1, h2, h3⟩ := hs
    have sk := (gb_ky_s (show s.1 < 17 by omega) (show s.2.1 < 17 by omega) (show s.2.2 < 17 by omega)).1
    rw [show lpX10_rowOfCounts_9 (F + 1) v0 (nI s.1) (nI s.2.1) (nI s.2.2) (nI (i + 1)) h = fbX10_rowOfCounts_9 (fun v0 v1 v2 v3 v4 h => lpX10_rowOfCounts_9 F v0 v1 v2 v3 v4 h) v0 (nI s.1) (nI s.2.1) (nI s.2.2) (nI (i + 1)) h from rfl]
    unfold fbX10_rowOfCounts_9
    rw [if_pos (show (5 : Int32) < nI (i + 1) from nI_lt (a := 5) (by omega) (by omega)), x_keyOf (by omega) (by omega) (by omega), gb_bd_s, x_place sk, gb_bd_s]
    rfl
  | succ k ih =>
    intro i F s hi hF hs
    obtain ⟨F, rfl⟩ : ∃ f, F = f + 1 := ⟨F - 1, by omega⟩
    obtain ⟨c1, c2⟩ := hc i (by omega)
    rw [show lpX10_rowOfCounts_9 (F + 1) v0 (nI s.1) (nI s.2.1) (nI s.2.2) (nI (i + 1)) h = fbX10_rowOfCounts_9 (fun v0 v1 v2 v3 v4 h => lpX10_rowOfCounts_9 F v0 v1 v2 v3 v4 h) v0 (nI s.1) (nI s.2.1) (nI s.2.2) (nI (i + 1)) h from rfl]
    unfold fbX10_rowOfCounts_9
    rw [if_neg (show ¬ (5 : Int32) < nI (i + 1) from nI_nlt (a := 5) (by omega) (by omega)), gb_lt_d, c2, show (0 : Int32) = nI 0 from rfl, x_row31 (show i + 1 ≤ 5 by omega) c1 _ _ _ (c i) 0 gb_FU s (by omega) (show c i < 1000000 by omega) hs]
    show _ = match (match gps (i + 1) (c i) s with | none => none | some s' => grF c k (i + 1) s') with | none => some (-1, h) | some t => some (nI (gb_kp (gb_ky t.1 t.2.1 t.2.2)), h)
    cases e : gps (i + 1) (c i) s with
    | none => rfl
    | some t => exact ih (i + 1) F t (by omega) (by omega) (gps_b (by omega) _ s hs t e)
def gc5 (a b c d e : Nat) (i : Nat) : Nat := if i = 0 then a else if i = 1 then b else if i = 2 then c else if i = 3 then d else e
/-- the row of counts, or none -/
def grw (a b c d e : Nat) : Option (Nat × Nat × Nat) := grF (gc5 a b c d e) 5 0 (0, 0, 0)
theorem x_rowOf (ha : a < 4) (hb : b < 4) (hc : c < 4) (hd : d < 4) (he : e < 4) (h : gb_H) : fnX10_rowOfCounts (nI (gpc a b c d e)) h = match grw a b c d e with
      | none => some (-1, h)
      | some t => some (nI (gb_kp (gb_ky t.1 t.2.1 t.2.2)), h) := by
  have hC := gpcC_ok a ha b hb c hc d hd e he
  unfold gpcC at hC
  rw [Bool.and_eq_true, Bool.and_eq_true, Bool.and_eq_true, Bool.and_eq_true] at hC
  obtain ⟨⟨⟨⟨d1, d2⟩, d3⟩, d4⟩, d5⟩ := hC
  exact x_row9 (c := gc5 a b c d e) (fun i hi => by
    match i, hi with
    | 0, _ => exact ⟨ha, of_decide_eq_true d1⟩
    | 1, _ => exact ⟨hb, of_decide_eq_true d2⟩
    | 2, _ => exact ⟨hc, of_decide_eq_true d3⟩
    | 3, _ => exact ⟨hd, of_decide_eq_true d4⟩
    | 4, _ => exact ⟨he, of_decide_eq_true d5⟩) h 5 0 gb_FU (0, 0, 0) (by decide) (by decide) ⟨by decide, by decide, by decide⟩
def gct (x y z t : Nat) : Nat := (if x = t then 1 else 0) + (if y = t then 1 else 0) + (if z = t then 1 else 0)
def gplT (x y z : Nat) : Nat := gpk5 (gct x y z 1) (gct x y z 2) (gct x y z 3) (gct x y z 4) (gct x y z 5)
def grwC (a b c d e : Nat) : Bool := match grw a b c d e with
  | none => decide (3 < a + b + c + d + e)
  | some t => decide (t.1 ≤ 5 ∧ t.2.1 ≤ 5 ∧ t.2.2 ≤ 5 ∧ gplT t.1 t.2.1 t.2.2 = gpk5 a b c d e)
theorem grw1 : ∀ a, a < 4 → ∀ b, b < 4 → ∀ c, c < 4 → ∀ d, d < 4 → ∀ e, e < 4 → grwC a b c d e = true := by decide +kernel
def grwD (x y z : Nat) : Bool := match grw (gct x y z 1) (gct x y z 2) (gct x y z 3) (gct x y z 4) (gct x y z 5) with
  | none => false
  | some t => decide (gb_ky t.1 t.2.1 t.2.2 = gb_ky x y z)
theorem grw2 : ∀ x, x < 6 → ∀ y, y < 6 → ∀ z, z < 6 → grwD x y z = true := by decide +kernel
theorem gplT_12 (x y z : Nat) : gplT x y z = gplT y x z := by
  have : ∀ t, gct x y z t = gct y x z t := fun t => by unfold gct; omega
  unfold gplT
  rw [this, this, this, this, this]
theorem gplT_23 (x y z : Nat) : gplT x y z = gplT x z y := by
  have : ∀ t, gct x y z t = gct x z y t := fun t => by unfold gct; omega
  unfold gplT
  rw [this, this, this, this, this]
theorem gplT_ky {x y z x' y' z' : Nat} (hx : x < 17) (hy : y < 17) (hz : z < 17) (hx' : x' < 17) (hy' : y' < 17) (hz' : z' < 17) (h : gb_ky x' y' z' = gb_ky x y z) : gplT x' y' z' = gplT x y z := by
  rw [← z_sym gplT gplT_12 gplT_23 x y z, ← z_sym gplT gplT_12 gplT_23 x' y' z']
  obtain ⟨_, a2, a3, a4⟩ := gb_ky_s hx hy hz
  obtain ⟨_, b2, b3, b4⟩ := gb_ky_s hx' hy' hz'
  have e2 : x' + y' + z' - gb_mi x' y' z' - gb_ma x' y' z' = x + y + z - gb_mi x y z - gb_ma x y z := by rw [← a3, ← b3, h]
  have e1 : gb_mi x' y' z' = gb_mi x y z := by rw [← a2, ← b2, h]
  have e3 : gb_ma x' y' z' = gb_ma x y z := by rw [← a4, ← b4, h]
  rw [e2, e1, e3]
theorem gpk_T (k : Nat) : gpk k = gplT (gb_pa (k % 32)) (gb_pa (k / 32 % 32)) (gb_pa (k / 1024)) := rfl
theorem gct_s (x y z : Nat) : gct x y z 1 + gct x y z 2 + gct x y z 3 + gct x y z 4 + gct x y z 5 ≤ 3 ∧ ∀ t, gct x y z t ≤ 3 := by
  refine ⟨?_, fun t => by unfold gct; (repeat' split) <;> omega⟩
  have h : ∀ x, (if x = 1 then 1 else 0) + (if x = 2 then 1 else 0) + (if x = 3 then 1 else 0) + (if x = 4 then 1 else 0) + (if x = 5 then 1 else 0) ≤ 1 := fun x => by
    by_cases h1 : x = 1
    · subst h1; decide
    · by_cases h2 : x = 2
      · subst h2; decide
      · by_cases h3 : x = 3
        · subst h3; decide
        · by_cases h4 : x = 4
          · subst h4; decide
          · rw [if_neg h1, if_neg h2, if_neg h3, if_neg h4]; split <;> omega
  have hx := h x
  have hy := h y
  have hz := h z
  unfold gct
  omega
/-- a product is of a row of counts just when its counts are these -/
theorem grw_k (ha : a < 4) (hb : b < 4) (hc : c < 4) (hd : d < 4) (he : e < 4) : match grw a b c d e with
      | none => ∀ k, gpk k ≠ gpk5 a b c d e
      | some t => gb_kp (gb_ky t.1 t.2.1 t.2.2) < 56 ∧ ∀ k, gb_rw k = gb_kp (gb_ky t.1 t.2.1 t.2.2) ↔ gpk k = gpk5 a b c d e := by
  have h1 := grw1 a ha b hb c hc d hd e he
  have dig : ∀ x y z, gplT x y z = gpk5 a b c d e → gct x y z 1 = a ∧ gct x y z 2 = b ∧ gct x y z 3 = c ∧ gct x y z 4 = d ∧ gct x y z 5 = e := fun x y z h => by
    have s := (gct_s x y z).2
    have s1 := s 1
    have s2 := s 2
    have s3 := s 3
    have s4 := s 4
    have s5 := s 5
    unfold gplT gpk5 at h
    omega
  unfold grwC at h1
  cases e1 : grw a b c d e with
  | none =>
    rw [e1] at h1
    have h2 := of_decide_eq_true h1
    intro k hk
    rw [gpk_T] at hk
    obtain ⟨q1, q2, q3, q4, q5⟩ := dig _ _ _ hk
    have := (gct_s (gb_pa (k % 32)) (gb_pa (k / 32 % 32)) (gb_pa (k / 1024))).1
    omega
  | some t =>
    rw [e1] at h1
    obtain ⟨t1, t2, t3, t4⟩ := of_decide_eq_true h1
    refine ⟨gb_kp6 _ (by omega) _ (by omega) _ (by omega), fun k => ?_⟩
    have p1 := gb_pa_b (k % 32)
    have p2 := gb_pa_b (k / 32 % 32)
    have p3 := gb_pa_b (k / 1024)
    have sk := (gb_ky_s (x := gb_pa (k % 32)) (y := gb_pa (k / 32 % 32)) (z := gb_pa (k / 1024)) (by omega) (by omega) (by omega)).1
    have sk' := (gb_ky_s (x := t.1) (y := t.2.1) (z := t.2.2) (by omega) (by omega) (by omega)).1
    rw [gpk_T]
    constructor
    · intro q
      have ke := gb_kp_inj sk sk' q
      rw [← t4]
      exact gplT_ky (by omega) (by omega) (by omega) (by omega) (by omega) (by omega) ke
    · intro q
      obtain ⟨q1, q2, q3, q4, q5⟩ := dig _ _ _ q
      have h2 := grw2 (gb_pa (k % 32)) (by omega) (gb_pa (k / 32 % 32)) (by omega) (gb_pa (k / 1024)) (by omega)
      unfold grwD at h2
      rw [q1, q2, q3, q4, q5, e1] at h2
      show gb_kp (gb_ky _ _ _) = _
      rw [← of_decide_eq_true h2]
end ROW
