section BND
variable {p : gb_P} {ps : List gb_P} {cs ls g k k' k0 s n : Nat} {F G : Nat → zq}
theorem iS_le {f h : Nat → Int} : ∀ n, (∀ i, i < n → f i ≤ h i) → iS n f ≤ iS n h
  | 0, _ => Int.le_refl _
  | n + 1, e => by
    have := iS_le n (fun i hi => e i (by omega))
    have := e n (by omega)
    show iS n f + f n ≤ iS n h + h n
    omega
theorem iS_0 : ∀ n, iS n (fun _ => 0) = 0
  | 0 => rfl
  | n + 1 => by show iS n _ + 0 = 0; rw [iS_0 n]; rfl
theorem iS_add (f h : Nat → Int) : ∀ n, iS n (fun i => f i + h i) = iS n f + iS n h
  | 0 => rfl
  | n + 1 => by
    show iS n _ + (f n + h n) = iS n f + f n + (iS n h + h n)
    rw [iS_add f h n]
    omega
theorem iS_swap (f : Nat → Nat → Int) (m : Nat) : ∀ n, iS n (fun i => iS m (fun j => f i j)) = iS m (fun j => iS n (fun i => f i j))
  | 0 => (iS_0 m).symm
  | n + 1 => by
    show iS n (fun i => iS m (fun j => f i j)) + iS m (fun j => f n j) = iS m (fun j => iS n (fun i => f i j) + f n j)
    rw [iS_swap f m n, ← iS_add]
theorem iS_pt (a : Nat) (v : Int) : ∀ n, iS n (fun i => if i = a then v else 0) = if a < n then v else 0
  | 0 => by rw [if_neg (by omega)]; rfl
  | n + 1 => by
    show iS n _ + (if n = a then v else 0) = _
    rw [iS_pt a v n]
    by_cases e : n = a
    · rw [if_neg (by omega), if_pos e, if_pos (by omega)]; omega
    · rw [if_neg e]
      by_cases q : a < n
      · rw [if_pos q, if_pos (by omega)]; omega
      · rw [if_neg q, if_neg (by omega)]; omega
theorem zU_n (x : zq) : 0 ≤ zU x := by
  have sq : ∀ a : Int, 0 ≤ a * a := fun a => by
    rcases Int.le_total 0 a with h | h
    · exact Int.mul_nonneg h h
    · exact Int.mul_nonneg_of_nonpos_of_nonpos h h
  have h1 := sq x.1
  have h2 := sq x.2.1
  have h3 := sq x.2.2.1
  have h4 := sq x.2.2.2
  unfold zU
  rw [Int.mul_assoc, Int.mul_assoc]
  omega
theorem zUV1 (a b : Int) : 2828 * (a * b) ≤ 1000 * (a * a + 2 * (b * b)) ∧ -(2828 * (a * b)) ≤ 1000 * (a * a + 2 * (b * b)) := by
  have sq : ∀ a : Int, 0 ≤ a * a := fun a => by
    rcases Int.le_total 0 a with h | h
    · exact Int.mul_nonneg h h
    · exact Int.mul_nonneg_of_nonpos_of_nonpos h h
  have h1 := sq (1000 * a - 1414 * b)
  have h2 := sq (1000 * a + 1414 * b)
  have h3 := sq b
  have e1 : (1000 * a - 1414 * b) * (1000 * a - 1414 * b) = 1000000 * (a * a) - 2828000 * (a * b) + 1999396 * (b * b) := by grind
  have e2 : (1000 * a + 1414 * b) * (1000 * a + 1414 * b) = 1000000 * (a * a) + 2828000 * (a * b) + 1999396 * (b * b) := by grind
  rw [e1] at h1
  rw [e2] at h2
  generalize a * a = aa at *
  generalize a * b = ab at *
  generalize b * b = bb at *
  omega
theorem zUV (x : zq) : 1414 * zV x ≤ 1000 * zU x ∧ -(1414 * zV x) ≤ 1000 * zU x := by
  have h1 := zUV1 x.1 x.2.1
  have h2 := zUV1 x.2.2.1 x.2.2.2
  unfold zU zV
  rw [Int.mul_assoc 2 x.2.1, Int.mul_assoc 2 x.2.2.2]
  generalize x.1 * x.1 = aa at *
  generalize x.1 * x.2.1 = ab at *
  generalize x.2.1 * x.2.1 = bb at *
  generalize x.2.2.1 * x.2.2.1 = cc at *
  generalize x.2.2.1 * x.2.2.2 = cd at *
  generalize x.2.2.2 * x.2.2.2 = dd at *
  omega
/-- odds of all products, each with a weight -/
def sU (g : Nat) (ps : List gb_P) (k0 : Nat) (f : Nat → Nat) : Int := iS (16 ^ g) (fun w => if gw_so g w = true then (f (gw_k g w) : Nat) * (zU (zN ps k0 (gw_k g w)) * (gb_od (gw_k g w) : Nat)) else 0)
def sV (g : Nat) (ps : List gb_P) (k0 : Nat) (f : Nat → Nat) : Int := iS (16 ^ g) (fun w => if gw_so g w = true then (f (gw_k g w) : Nat) * (zV (zN ps k0 (gw_k g w)) * (gb_od (gw_k g w) : Nat)) else 0)
theorem pU_s (P : Nat → Bool) : pU g ps k0 P = sU g ps k0 (fun k => if P k = true then 1 else 0) ∧ pV g ps k0 P = sV g ps k0 (fun k => if P k = true then 1 else 0) := by
  unfold pU pV sU sV
  constructor
  · refine iS_congr _ (fun w _ => ?_)
    by_cases a : gw_so g w = true
    · by_cases b : P (gw_k g w) = true
      · rw [if_pos ⟨a, b⟩, if_pos a]; simp only [b, if_true]; omega
      · rw [if_neg (fun z => b z.2), if_pos a]; simp only [if_neg b]; omega
    · rw [if_neg (fun z => a z.1), if_neg a]
  · refine iS_congr _ (fun w _ => ?_)
    by_cases a : gw_so g w = true
    · by_cases b : P (gw_k g w) = true
      · rw [if_pos ⟨a, b⟩, if_pos a]; simp only [b, if_true]; omega
      · rw [if_neg (fun z => b z.2), if_pos a]; simp only [if_neg b]; omega
    · rw [if_neg (fun z => a z.1), if_neg a]
theorem sU_congr {f h : Nat → Nat} (e : ∀ w, w < 16 ^ g → gw_so g w = true → f (gw_k g w) = h (gw_k g w)) : sU g ps k0 f = sU g ps k0 h ∧ sV g ps k0 f = sV g ps k0 h := by
  unfold sU sV
  constructor
  · refine iS_congr _ (fun w hw => ?_)
    by_cases a : gw_so g w = true
    · rw [if_pos a, if_pos a, e w hw a]
    · rw [if_neg a, if_neg a]
  · refine iS_congr _ (fun w hw => ?_)
    by_cases a : gw_so g w = true
    · rw [if_pos a, if_pos a, e w hw a]
    · rw [if_neg a, if_neg a]
theorem zT_n (k : Nat) (x : zq) : 0 ≤ zU x * (gb_od k : Nat) := Int.mul_nonneg (zU_n x) (by omega)
/-- bounds of weighted odds -/
theorem sU_b (g3 : g ≤ 3) (hw : gb_wl cs ls ps) (l3 : ls ≤ 3) (hk : zk_ad g ls k0) {f : Nat → Nat} {M : Nat} (hf : ∀ k, f k ≤ M) : 0 ≤ sU g ps k0 f ∧ sU g ps k0 f ≤ ((M * (zD g ps * zD g ps * gb_od k0) : Nat) : Int) ∧ 1414 * sV g ps k0 f ≤ 1000 * sU g ps k0 f ∧ -(1414 * sV g ps k0 f) ≤ 1000 * sU g ps k0 f := by
  have al := (pU_all g3 hw l3 hk).1
  refine ⟨?_, ?_, ?_, ?_⟩
  · unfold sU
    refine Int.le_trans (Int.le_of_eq (iS_0 (16 ^ g)).symm) (iS_le _ (fun w _ => ?_))
    split
    · exact Int.mul_nonneg (by omega) (zT_n _ _)
    · exact Int.le_refl _
  · rw [Int.natCast_mul, ← al]
    unfold sU pU
    rw [← iS_mul]
    refine iS_le _ (fun w _ => ?_)
    by_cases a : gw_so g w = true
    · rw [if_pos a, if_pos ⟨a, rfl⟩]
      exact Int.mul_le_mul_of_nonneg_right (by have := hf (gw_k g w); omega) (zT_n _ _)
    · rw [if_neg a, if_neg (fun z => a z.1)]
      omega
  · unfold sU sV
    rw [← iS_mul, ← iS_mul]
    refine iS_le _ (fun w _ => ?_)
    by_cases a : gw_so g w = true
    · rw [if_pos a, if_pos a]
      have h := (zUV (zN ps k0 (gw_k g w))).1
      have h2 := Int.mul_le_mul_of_nonneg_left h (show (0 : Int) ≤ (f (gw_k g w) * gb_od (gw_k g w) : Nat) by omega)
      push_cast at h2
      grind
    · rw [if_neg a, if_neg a]
      omega
  · unfold sU sV
    rw [← iS_mul, ← iS_mul, show ∀ x : Int, -x = (-1) * x by omega, ← iS_mul]
    refine iS_le _ (fun w _ => ?_)
    by_cases a : gw_so g w = true
    · rw [if_pos a, if_pos a]
      have h := (zUV (zN ps k0 (gw_k g w))).2
      have h2 := Int.mul_le_mul_of_nonneg_left h (show (0 : Int) ≤ (f (gw_k g w) * gb_od (gw_k g w) : Nat) by omega)
      push_cast at h2
      grind
    · rw [if_neg a, if_neg a]
      omega
/-- a sum over sorts of products -/
theorem sU_sort (c : Nat → Nat) (h : Nat → Nat) (n : Nat) (hn : ∀ k, h k < n) : iS n (fun r => (c r : Nat) * pU g ps k0 (fun k => decide (h k = r))) = sU g ps k0 (fun k => c (h k)) ∧ iS n (fun r => (c r : Nat) * pV g ps k0 (fun k => decide (h k = r))) = sV g ps k0 (fun k => c (h k)) := by
  unfold pU pV sU sV
  constructor
  · rw [iS_congr (h := fun r => iS (16 ^ g) (fun w => (c r : Nat) * (if gw_so g w = true ∧ decide (h (gw_k g w) = r) = true then zU (zN ps k0 (gw_k g w)) * (gb_od (gw_k g w) : Nat) else 0))) n (fun r _ => (iS_mul _ _ _).symm), iS_swap]
    refine iS_congr _ (fun w _ => ?_)
    by_cases a : gw_so g w = true
    · rw [if_pos a, iS_congr (h := fun r => if r = h (gw_k g w) then (c (h (gw_k g w)) : Nat) * (zU (zN ps k0 (gw_k g w)) * (gb_od (gw_k g w) : Nat)) else 0) n (fun r _ => ?_), iS_pt, if_pos (hn _)]
      by_cases b : r = h (gw_k g w)
      · rw [if_pos b, if_pos ⟨a, by simp [b]⟩, b]
      · rw [if_neg b, if_neg (fun z => b (of_decide_eq_true z.2).symm), Int.mul_zero]
    · rw [if_neg a, iS_congr (h := fun _ => 0) n (fun r _ => by rw [if_neg (fun z => a z.1), Int.mul_zero]), iS_0]
  · rw [iS_congr (h := fun r => iS (16 ^ g) (fun w => (c r : Nat) * (if gw_so g w = true ∧ decide (h (gw_k g w) = r) = true then zV (zN ps k0 (gw_k g w)) * (gb_od (gw_k g w) : Nat) else 0))) n (fun r _ => (iS_mul _ _ _).symm), iS_swap]
    refine iS_congr _ (fun w _ => ?_)
    by_cases a : gw_so g w = true
    · rw [if_pos a, iS_congr (h := fun r => if r = h (gw_k g w) then (c (h (gw_k g w)) : Nat) * (zV (zN ps k0 (gw_k g w)) * (gb_od (gw_k g w) : Nat)) else 0) n (fun r _ => ?_), iS_pt, if_pos (hn _)]
      by_cases b : r = h (gw_k g w)
      · rw [if_pos b, if_pos ⟨a, by simp [b]⟩, b]
      · rw [if_neg b, if_neg (fun z => b (of_decide_eq_true z.2).symm), Int.mul_zero]
    · rw [if_neg a, iS_congr (h := fun _ => 0) n (fun r _ => by rw [if_neg (fun z => a z.1), Int.mul_zero]), iS_0]
end BND
