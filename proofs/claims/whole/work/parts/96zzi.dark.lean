section DARK
variable {S : gb_S} {I I' I1 I2 : gb_FI} {J J' J1 J2 : gb_FJ} {g b bits set p k i : Nat} {dk : Nat → Nat} {gs : List Nat} {ps : List gb_P}
def gbt (s p : Nat) : Nat := s / 2 ^ p % 2
def gpr (f : Nat → Nat) : Nat → Nat
  | 0 => 1
  | i + 1 => gpr f i * f i
theorem gpr_congr {f h : Nat → Nat} : ∀ n, (∀ i, i < n → f i = h i) → gpr f n = gpr h n
  | 0, _ => rfl
  | n + 1, e => by rw [gpr, gpr, gpr_congr n (fun i hi => e i (by omega)), e n (by omega)]
theorem gpr_0 {f : Nat → Nat} {q : Nat} (h : f q = 0) : ∀ n, q < n → gpr f n = 0
  | 0, z => absurd z (by omega)
  | n + 1, z => by
    rw [gpr]
    by_cases e : q = n
    · rw [← e, h, Nat.mul_zero]
    · rw [gpr_0 h n (by omega), Nat.zero_mul]
theorem gpr_b {f : Nat → Nat} (h : ∀ i, f i ≤ 10) : ∀ n, gpr f n ≤ 10 ^ n
  | 0 => Nat.le_refl _
  | n + 1 => by
    rw [gpr, Nat.pow_succ]
    exact Nat.mul_le_mul (gpr_b h n) (h n)
/-- the factor of a path, by the class and by the reference -/
def gfx (dk : Nat → Nat) (bits set p : Nat) : Nat := if gbt set p = 1 then 10 else if gbt bits p = 1 then dk p else 10 - dk p
def gfc (dk : Nat → Nat) (bits i p : Nat) : Nat := if 0 < i / 4 ^ p % 4 then (if gbt bits p = 1 then 10 else 0) else if gbt bits p = 1 then dk p else 10 - dk p
def gwx (dk : Nat → Nat) (bits set : Nat) : Nat := gpr (gfx dk bits set) 5
def gwr (dk : Nat → Nat) (bits i : Nat) : Nat := gpr (gfc dk bits i) 5
def gsb (set bits : Nat) : Bool := (List.range 5).all (fun p => decide (gbt set p = 1 → gbt bits p = 1))
def gwc (dk : Nat → Nat) (bits set : Nat) : Nat := if gsb set bits = true then gwx dk bits set else 0
theorem gsb_ok : ∀ set, set < 32 → ∀ bits, bits < 32 → (nI set &&& (nI bits ^^^ (-1 : Int32)) = 0 ↔ gsb set bits = true) := by decide +kernel
theorem gbt_ok : ∀ s, s < 32 → ∀ p, p < 5 → (nI s >>> (nI p &&& 31)) &&& (1 : Int32) = nI (gbt s p) := by decide +kernel
theorem gbt_1 (hs : set < 32) (hp : p < 5) : ((nI set >>> (nI p &&& 31)) &&& (1 : Int32) = 1) ↔ gbt set p = 1 := by
  rw [gbt_ok set hs p hp]
  exact nI_eq (b := 1) (by unfold gbt; omega) (by omega)
theorem gbt_T : ∀ z, z < 6 → ∀ y, y < 6 → ∀ x, x < 6 → ∀ p, p < 5 → (gbt (gb_bt x y z) p = 1 ↔ 0 < gct x y z (p + 1)) := by decide +kernel
theorem gpk_dig (k : Nat) (hp : p < 5) : gpk k / 4 ^ p % 4 = gct (gb_pa (k % 32)) (gb_pa (k / 32 % 32)) (gb_pa (k / 1024)) (p + 1) := by
  have s := (gct_s (gb_pa (k % 32)) (gb_pa (k / 32 % 32)) (gb_pa (k / 1024))).2
  have s1 := s 1
  have s2 := s 2
  have s3 := s 3
  have s4 := s 4
  have s5 := s 5
  rw [gpk_T]
  unfold gplT gpk5
  match p, hp with
  | 0, _ => simp; omega
  | 1, _ => simp; omega
  | 2, _ => simp; omega
  | 3, _ => simp; omega
  | 4, _ => simp; omega
theorem gbt_k (k : Nat) (hp : p < 5) : gbt (gb_sP k) p = 1 ↔ 0 < gpk k / 4 ^ p % 4 := by
  rw [gpk_dig k hp]
  have p1 := gb_pa_b (k % 32)
  have p2 := gb_pa_b (k / 32 % 32)
  have p3 := gb_pa_b (k / 1024)
  exact gbt_T _ (by omega) _ (by omega) _ (by omega) p hp
/-- both weigh alike -/
theorem gwc_r (k : Nat) : gwc dk bits (gb_sP k) = gwr dk bits (gpk k) := by
  unfold gwc gwr gwx
  by_cases c : gsb (gb_sP k) bits = true
  · rw [if_pos c]
    refine gpr_congr 5 (fun p hp => ?_)
    unfold gfx gfc
    have c' := List.all_eq_true.mp c p (List.mem_range.mpr hp)
    have c2 := of_decide_eq_true c'
    by_cases d : gbt (gb_sP k) p = 1
    · rw [if_pos d, if_pos ((gbt_k k hp).mp d), if_pos (c2 d)]
    · rw [if_neg d, if_neg (fun z => d ((gbt_k k hp).mpr z))]
  · rw [if_neg c]
    have ex : ∃ p, p < 5 ∧ gbt (gb_sP k) p = 1 ∧ ¬ gbt bits p = 1 := by
      refine Classical.byContradiction (fun n => c ?_)
      refine List.all_eq_true.mpr (fun p hp => decide_eq_true (fun h => ?_))
      exact Classical.byContradiction (fun q => n ⟨p, List.mem_range.mp hp, h, q⟩)
    obtain ⟨p, hp, h1, h2⟩ := ex
    refine (gpr_0 (q := p) ?_ 5 hp).symm
    unfold gfc
    rw [if_pos ((gbt_k k hp).mp h1), if_neg h2]
theorem gwr_b (hd : ∀ p, p < 5 → dk p < 10) : gwr dk bits i ≤ 100000 := by
  unfold gwr
  have e : gpr (gfc dk bits i) 5 = gpr (fun p => if p < 5 then gfc dk bits i p else 0) 5 := gpr_congr 5 (fun p hp => (if_pos hp).symm)
  rw [e]
  refine gpr_b (fun p => ?_) 5
  split
  · next q =>
    have := hd p q
    unfold gfc
    split
    · split <;> omega
    · split <;> omega
  · omega
theorem gwx_b (hd : ∀ p, p < 5 → dk p < 10) (n : Nat) (hn : n ≤ 5) : gpr (gfx dk bits set) n ≤ 10 ^ n := by
  have e : gpr (gfx dk bits set) n = gpr (fun p => if p < 5 then gfx dk bits set p else 0) n := gpr_congr n (fun p hp => (if_pos (by omega)).symm)
  rw [e]
  refine gpr_b (fun p => ?_) n
  split
  · next q =>
    have := hd p q
    unfold gfx
    split
    · omega
    · split <;> omega
  · omega
theorem x_darkW (hD : xD (I 240) dk) (hs : set < 32) (hb : bits < 32) : fnX1_darkWeight (nI set) (nI bits) 240 (gb_mk I J) = some (nI (gwx dk bits set), gb_mk I J) := by
  have kd : (gb_kd (gb_mk I J) 240).2 = 5 := by rw [gb_kd_mk, kd240]
  unfold fnX1_darkWeight lpX1_darkWeight_5
  refine gb_forF (fun i => (nI set, nI bits, 240, nI (gpr (gfx dk bits set) i), nI i, gb_mk I J)) 5 (by decide) ?_ ?_
  · intro i hi q
    obtain ⟨d1, d2⟩ := hD i hi
    simp only [fbX1_darkWeight_5, fbX1_darkWeight_66]
    rw [if_neg (show ¬ (5 : Int32) ≤ nI i from nI_ge (b := 5) hi (by omega)), gk240, gb_gd_t, kd, if_neg (show ¬ Int32.ofNat 5 ≤ nI i from nI_ge (b := 5) hi (by omega))]
    show _ = q (nI set, nI bits, 240, nI (gpr (gfx dk bits set) i * gfx dk bits set i), nI (i + 1), gb_mk I J)
    unfold gfx
    by_cases c1 : gbt set i = 1
    · rw [if_pos ((gbt_1 hs hi).mpr c1), if_pos c1, gb_lt_d, gb_lt_d, nI_1, show (10 : Int32) = nI 10 from rfl, gb_nI_mul]
    · rw [if_neg (fun z => c1 ((gbt_1 hs hi).mp z)), if_neg c1]
      by_cases c2 : gbt bits i = 1
      · rw [if_pos ((gbt_1 hb hi).mpr c2), if_pos c2, gb_gd_t, gi240 hi, gb_gd_t, gb_lt_d, gb_lt_d, nI_1, gb_I_mk, nI_clamp (by omega), d2, gb_nI_mul]
      · rw [if_neg (fun z => c2 ((gbt_1 hb hi).mp z)), if_neg c2, gb_gd_t, gi240 hi, gb_gd_t, gb_lt_d, gb_lt_d, nI_1, gb_I_mk, nI_clamp (by omega), d2, show (10 : Int32) = nI 10 from rfl, gb_nI_sub (by omega), gb_nI_mul]
  · intro q
    simp only [fbX1_darkWeight_5, fbX1_darkWeight_72]
    rw [if_pos (show (5 : Int32) ≤ nI 5 by decide)]
    rfl
theorem x_shareC (hD : xD (I 240) dk) (hb : bits < 32) (h4 : b < 4) : fnX1_shareOfClicks (42 + 23 * b) (nI bits) 240 238 (gb_mk I J) = gb_bd (fnX8_put 238 (gS 32 (fun r => J (45 + 23 * b) r * lN (gwc dk bits r))) (gS 32 (fun r => J (46 + 23 * b) r * lN (gwc dk bits r))) (J (42 + 23 * b) 4 * 100000) (gb_mk I J)) (fun _ h => some ((), h)) := by
  have ch := gb_CHs h4
  have dl : ∀ p, p < 5 → dk p < 10 := fun p hp => (hD p hp).1
  unfold fnX1_shareOfClicks lpX1_shareOfClicks_9
  refine gb_forF (fun i => (42 + 23 * b, nI bits, 240, 238, gS i (fun r => J (45 + 23 * b) r * lN (gwc dk bits r)), gS i (fun r => J (46 + 23 * b) r * lN (gwc dk bits r)), nI i, gb_mk I J)) 32 (by decide) ?_ ?_
  · intro i hi q
    have wb := gwx_b (bits := bits) (set := i) dl 5 (by decide)
    have wb' : gwx dk bits i < 2 ^ 31 := Nat.lt_of_le_of_lt wb (by decide)
    have go : ∀ A B k9, fbX1_shareOfClicks_49 k9 (42 + 23 * b) (nI bits) 240 238 A B (nI i) (gb_mk I J) = k9 (42 + 23 * b) (nI bits) 240 238 (A + J (45 + 23 * b) i * lN (gwx dk bits i)) (B + J (46 + 23 * b) i * lN (gwx dk bits i)) (nI (i + 1)) (gb_mk I J) := fun A B k9 => by
      unfold fbX1_shareOfClicks_49 fbX1_shareOfClicks_54 fbX1_shareOfClicks_102
      rw [if_neg gb_n10, x_darkW hD hi hb, gb_bd_s, (ch _ _).1, gb_gd_t, (ch _ _).2.2.2.1, gb_rd_s, (ch _ _).2.2.2.2.2.2.2.1, gb_gd_t, (((ch _ _).2.2.2.2.2.2.2.2.2 i).2 hi).1, gb_gd_t, gb_lt_d, gb_gd_t, (ch _ _).2.2.2.2.1, gb_rd_s, (ch _ _).2.2.2.2.2.2.2.2.1, gb_gd_t, (((ch _ _).2.2.2.2.2.2.2.2.2 i).2 hi).2, gb_gd_t, gb_lt_d, gb_lt_d, nI_1, gb_L_mk, nI_clamp (by omega), nI_L wb']
    have no : ∀ A B k9, fbX1_shareOfClicks_53 k9 (42 + 23 * b) (nI bits) 240 238 A B (nI i) (gb_mk I J) = k9 (42 + 23 * b) (nI bits) 240 238 A B (nI (i + 1)) (gb_mk I J) := fun A B k9 => by
      unfold fbX1_shareOfClicks_53 fbX1_shareOfClicks_54 fbX1_shareOfClicks_102
      rw [if_pos (show (0 : Int32) = 0 from rfl), gb_lt_d, nI_1]
    simp only [fbX1_shareOfClicks_9]
    show _ = q (42 + 23 * b, nI bits, 240, 238, gS i (fun r => J (45 + 23 * b) r * lN (gwc dk bits r)) + J (45 + 23 * b) i * lN (gwc dk bits i), gS i (fun r => J (46 + 23 * b) r * lN (gwc dk bits r)) + J (46 + 23 * b) i * lN (gwc dk bits i), nI (i + 1), gb_mk I J)
    generalize gS i (fun r => J (45 + 23 * b) r * lN (gwc dk bits r)) = A
    generalize gS i (fun r => J (46 + 23 * b) r * lN (gwc dk bits r)) = B
    rw [if_neg (show ¬ (32 : Int32) ≤ nI i from nI_ge (b := 32) hi (by omega)), go, no]
    by_cases c : gsb i bits = true
    · have e : gwc dk bits i = gwx dk bits i := if_pos c
      rw [if_pos ((gsb_ok i hi bits hb).mpr c), (ch _ _).1, gb_gd_t, (ch _ _).2.2.2.1, gb_rd_s, (ch _ _).2.2.2.2.2.2.2.1, gb_gd_t, (((ch _ _).2.2.2.2.2.2.2.2.2 i).2 hi).1, gb_gd_t, gb_gd_t, (ch _ _).2.2.2.2.1, gb_rd_s, (ch _ _).2.2.2.2.2.2.2.2.1, gb_gd_t, (((ch _ _).2.2.2.2.2.2.2.2.2 i).2 hi).2, gb_gd_t, gb_L_mk, nI_clamp (by omega), e]
      by_cases z1 : J (45 + 23 * b) i = 0
      · rw [if_pos z1]
        by_cases z2 : J (46 + 23 * b) i = 0
        · rw [if_pos z2, z1, z2, Int64.zero_mul, Int64.add_zero, Int64.add_zero]
        · rw [if_neg z2]
      · rw [if_neg z1]
    · have e : gwc dk bits i = 0 := if_neg c
      rw [if_neg (fun z => c ((gsb_ok i hi bits hb).mp z)), e, show lN 0 = 0 from rfl, Int64.mul_zero, Int64.mul_zero, Int64.add_zero, Int64.add_zero]
  · intro q
    simp only [fbX1_shareOfClicks_9]
    rw [if_pos (show (32 : Int32) ≤ nI 32 by decide), (ch _ _).1, gb_gd_t, gk238, gb_gd_t, gb_L_mk]
/-- odds of clicks, before they are told -/
def gcU (gs : List Nat) (ps : List gb_P) (dk : Nat → Nat) (bits : Nat) : Int := sU gs.length ps (gb_k0 gs) (fun k => gwr dk bits (gpk k))
def gcV (gs : List Nat) (ps : List gb_P) (dk : Nat → Nat) (bits : Nat) : Int := sV gs.length ps (gb_k0 gs) (fun k => gwr dk bits (gpk k))
theorem gcB (hgs : ∀ m ∈ gs, m < 10) (g3 : gs.length ≤ 3) (hw : gb_wl 0 0 ps) (hd : gb_dpt gs.length ps ≤ 300000) (dl : ∀ p, p < 5 → dk p < 10) (bits : Nat) : 0 < gb_Wd gs ps * 100000 ∧ gb_Wd gs ps * 100000 ≤ 54000000000000000 ∧ 0 ≤ gcU gs ps dk bits ∧ gcU gs ps dk bits ≤ ((gb_Wd gs ps * 100000 : Nat) : Int) ∧ 1414 * gcV gs ps dk bits ≤ 1000 * gcU gs ps dk bits ∧ -(1414 * gcV gs ps dk bits) ≤ 1000 * gcU gs ps dk bits := by
  obtain ⟨a, b, c, d, e, f⟩ := gOD hgs g3 hw hd (f := fun k => gwr dk bits (gpk k)) (M := 100000) (fun k => gwr_b dl)
  refine ⟨by omega, by omega, c, ?_, e, f⟩
  rw [Nat.mul_comm]
  exact d
theorem gS_w {su : Nat → Int64} {h : Nat → Nat} {n : Nat} {k0 : Nat} (c : Nat → Nat) (hn : ∀ k, h k < n) : (∀ r, r < n → su r = iL (pU g ps k0 (fun k => decide (h k = r)))) → gS n (fun r => su r * lN (c r)) = iL (sU g ps k0 (fun k => c (h k))) := fun hs => by
  rw [← (sU_sort (g := g) (ps := ps) (k0 := k0) c h n hn).1, ← iS_L]
  refine gS_congr n (fun r hr => ?_)
  rw [hs r hr, lN_iL, iL_mul, Int.mul_comm]
theorem gS_wV {su : Nat → Int64} {h : Nat → Nat} {n : Nat} {k0 : Nat} (c : Nat → Nat) (hn : ∀ k, h k < n) : (∀ r, r < n → su r = iL (pV g ps k0 (fun k => decide (h k = r)))) → gS n (fun r => su r * lN (c r)) = iL (sV g ps k0 (fun k => c (h k))) := fun hs => by
  rw [← (sU_sort (g := g) (ps := ps) (k0 := k0) c h n hn).2, ← iS_L]
  refine gS_congr n (fun r hr => ?_)
  rw [hs r hr, lN_iL, iL_mul, Int.mul_comm]
/-- the class's odds of clicks stand in its share -/
theorem x_clicksOf (hD : xD (I 240) dk) (hb : bits < 32) (h4 : b < 4) (hgs : ∀ m ∈ gs, m < 10) (g3 : gs.length ≤ 3) (hw : gb_wl 0 0 ps) (hd : gb_dpt gs.length ps ≤ 300000) (ck : gCK (I (42 + 23 * b) 5) (J (42 + 23 * b) 4) (J (43 + 23 * b)) (J (44 + 23 * b)) (J (45 + 23 * b)) (J (46 + 23 * b)) gs ps) :
    fnX1_shareOfClicks (42 + 23 * b) (nI bits) 240 238 (gb_mk I J) = some ((), gb_mk I (gsh J 238 (gcU gs ps dk bits) (gcV gs ps dk bits) (gb_Wd gs ps * 100000))) := by
  obtain ⟨cw, _, cs⟩ := ck.2 hd
  have dl : ∀ p, p < 5 → dk p < 10 := fun p hp => (hD p hp).1
  obtain ⟨q1, q2, q3, q4, q5, q6⟩ := gcB hgs g3 hw hd dl bits
  have e : (fun k => gwc dk bits (gb_sP k)) = (fun k => gwr dk bits (gpk k)) := funext (fun k => gwc_r k)
  rw [x_shareC hD hb h4, gS_w (ps := ps) (g := gs.length) (k0 := gb_k0 gs) (h := gb_sP) (gwc dk bits) gb_sP_b (fun r hr => (cs r hr).1), gS_wV (ps := ps) (g := gs.length) (k0 := gb_k0 gs) (h := gb_sP) (gwc dk bits) gb_sP_b (fun r hr => (cs r hr).2), e, cw, show (100000 : Int64) = lN 100000 from rfl, lN_mul]
  show gb_bd (fnX8_put 238 (iL (gcU gs ps dk bits)) (iL (gcV gs ps dk bits)) (lN (gb_Wd gs ps * 100000)) (gb_mk I J)) _ = _
  rw [x_put (p0 := 238) (fun _ _ => gk238) (by omega) (by omega) (by omega) q1, gb_bd_s]
  rfl
end DARK
