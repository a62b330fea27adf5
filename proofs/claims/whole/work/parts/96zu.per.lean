section PER
variable {x y z u v w g ls k k' : Nat}
theorem zdl_3 {a b c a' b' c' : Nat} : t3 (zdl a a') (zdl b b') (zdl c c') = if a = a' ∧ b = b' ∧ c = c' then z1 else zZ := by
  unfold t3 zdl
  by_cases h1 : a = a'
  · rw [if_pos h1, zM_1]
    by_cases h2 : b = b'
    · rw [if_pos h2, zM_1]
      by_cases h3 : c = c'
      · rw [if_pos h3, if_pos ⟨h1, h2, h3⟩]
      · rw [if_neg h3, if_neg (fun q => h3 q.2.2)]
    · rw [if_neg h2, zZ_M, if_neg (fun q => h2 q.2.1)]
  · rw [if_neg h1, zZ_M, if_neg (fun q => h1 q.1)]
/-- the product of k! over all seats, that of no grain among them -/
def zod (k : Nat) : Nat := if k % 32 = k / 32 % 32 then (if k / 32 % 32 = k / 1024 then 6 else 2) else (if k / 32 % 32 = k / 1024 then 2 else 1)
def zwt (g : Nat) : Nat := if g = 0 then 6 else if g = 1 then 2 else 1
theorem zod_od (h : gb_sk k) (hg : zk_nz k = g) : zod k = zwt g * gb_od k := by
  unfold gb_sk at h
  unfold zk_nz at hg
  unfold zod zwt gb_od
  subst hg
  by_cases a : k % 32 = 0
  · by_cases b : k / 32 % 32 = 0
    · by_cases c : k / 1024 = 0
      · simp [a, b, c]
      · simp [a, b, c]
        omega
    · have c : ¬ k / 1024 = 0 := by omega
      simp [a, b, c]
      by_cases d : k / 32 % 32 = k / 1024
      · simp [d]; omega
      · simp [d]; omega
  · have b : ¬ k / 32 % 32 = 0 := by omega
    have c : ¬ k / 1024 = 0 := by omega
    simp [a, b, c]
def zdo (k k' : Nat) : zq := if k = k' then ((zod k : Nat), 0, 0, 0) else zZ
theorem zper_12 {α β : Type} (f : α → β → zq) (x y z : α) (u v w : β) : zper f x y z u v w = zper f y x z u v w := by
  unfold zper
  rw [t3_12 (f y u), t3_12 (f y u) (f x w), t3_12 (f y v) (f x u), t3_12 (f y v) (f x w), t3_12 (f y w) (f x u), t3_12 (f y w) (f x v)]
  generalize t3 (f x u) (f y v) (f z w) = a
  generalize t3 (f x u) (f y w) (f z v) = b
  generalize t3 (f x v) (f y u) (f z w) = c
  generalize t3 (f x v) (f y w) (f z u) = d
  generalize t3 (f x w) (f y u) (f z v) = e
  generalize t3 (f x w) (f y v) (f z u) = i
  apply z_ext <;> simp only [zA] <;> omega
theorem zper_23 {α β : Type} (f : α → β → zq) (x y z : α) (u v w : β) : zper f x y z u v w = zper f x z y u v w := by
  unfold zper
  rw [t3_23 (f x u) (f z v), t3_23 (f x u) (f z w), t3_23 (f x v) (f z u), t3_23 (f x v) (f z w), t3_23 (f x w) (f z u), t3_23 (f x w) (f z v)]
  generalize t3 (f x u) (f y v) (f z w) = a
  generalize t3 (f x u) (f y w) (f z v) = b
  generalize t3 (f x v) (f y u) (f z w) = c
  generalize t3 (f x v) (f y w) (f z u) = d
  generalize t3 (f x w) (f y u) (f z v) = e
  generalize t3 (f x w) (f y v) (f z u) = i
  apply z_ext <;> simp only [zA] <;> omega
theorem zper_12' {α β : Type} (f : α → β → zq) (x y z : α) (u v w : β) : zper f x y z u v w = zper f x y z v u w := by
  unfold zper
  generalize t3 (f x u) (f y v) (f z w) = a
  generalize t3 (f x u) (f y w) (f z v) = b
  generalize t3 (f x v) (f y u) (f z w) = c
  generalize t3 (f x v) (f y w) (f z u) = d
  generalize t3 (f x w) (f y u) (f z v) = e
  generalize t3 (f x w) (f y v) (f z u) = i
  apply z_ext <;> simp only [zA] <;> omega
theorem zper_23' {α β : Type} (f : α → β → zq) (x y z : α) (u v w : β) : zper f x y z u v w = zper f x y z u w v := by
  unfold zper
  generalize t3 (f x u) (f y v) (f z w) = a
  generalize t3 (f x u) (f y w) (f z v) = b
  generalize t3 (f x v) (f y u) (f z w) = c
  generalize t3 (f x v) (f y w) (f z u) = d
  generalize t3 (f x w) (f y u) (f z v) = e
  generalize t3 (f x w) (f y v) (f z u) = i
  apply z_ext <;> simp only [zA] <;> omega
/-- what does not heed the order is told by the rising row -/
theorem z_sym {α : Type} (f : Nat → Nat → Nat → α) (h1 : ∀ x y z, f x y z = f y x z) (h2 : ∀ x y z, f x y z = f x z y) (x y z : Nat) : f (gb_mi x y z) (x + y + z - gb_mi x y z - gb_ma x y z) (gb_ma x y z) = f x y z := by
  by_cases c1 : x ≤ y
  · by_cases c2 : y ≤ z
    · rw [show gb_mi x y z = x by unfold gb_mi; omega, show gb_ma x y z = z by unfold gb_ma; omega, show x + y + z - x - z = y by omega]
    · by_cases c3 : x ≤ z
      · rw [show gb_mi x y z = x by unfold gb_mi; omega, show gb_ma x y z = y by unfold gb_ma; omega, show x + y + z - x - y = z by omega, h2]
      · rw [show gb_mi x y z = z by unfold gb_mi; omega, show gb_ma x y z = y by unfold gb_ma; omega, show x + y + z - z - y = x by omega, h1, h2]
  · by_cases c2 : x ≤ z
    · rw [show gb_mi x y z = y by unfold gb_mi; omega, show gb_ma x y z = z by unfold gb_ma; omega, show x + y + z - y - z = x by omega, h1]
    · by_cases c3 : y ≤ z
      · rw [show gb_mi x y z = y by unfold gb_mi; omega, show gb_ma x y z = x by unfold gb_ma; omega, show x + y + z - y - x = z by omega, h2, h1]
      · rw [show gb_mi x y z = z by unfold gb_mi; omega, show gb_ma x y z = x by unfold gb_ma; omega, show x + y + z - z - x = y by omega, h1, h2, h1]
theorem zper_so (hk : gb_sk k) (hk' : gb_sk k') : zper zdl (k % 32) (k / 32 % 32) (k / 1024) (k' % 32) (k' / 32 % 32) (k' / 1024) = zdo k k' := by
  unfold gb_sk at hk hk'
  unfold zper zdo
  rw [zdl_3, zdl_3, zdl_3, zdl_3, zdl_3, zdl_3]
  by_cases e : k = k'
  · subst e
    rw [if_pos rfl]
    unfold zod
    by_cases a : k % 32 = k / 32 % 32
    · by_cases b : k / 32 % 32 = k / 1024
      · rw [if_pos a, if_pos b, if_pos (by omega), if_pos (by omega), if_pos (by omega), if_pos (by omega), if_pos (by omega), if_pos (by omega)]
        decide
      · rw [if_pos a, if_neg b, if_pos (by omega), if_neg (by omega), if_pos (by omega), if_neg (by omega), if_neg (by omega), if_neg (by omega)]
        decide
    · by_cases b : k / 32 % 32 = k / 1024
      · rw [if_neg a, if_pos b, if_pos (by omega), if_pos (by omega), if_neg (by omega), if_neg (by omega), if_neg (by omega), if_neg (by omega)]
        decide
      · rw [if_neg a, if_neg b, if_pos (by omega), if_neg (by omega), if_neg (by omega), if_neg (by omega), if_neg (by omega), if_neg (by omega)]
        decide
  · have d1 : k = k % 32 + 32 * (k / 32 % 32) + 1024 * (k / 1024) := by omega
    have d2 : k' = k' % 32 + 32 * (k' / 32 % 32) + 1024 * (k' / 1024) := by omega
    rw [if_neg e]
    generalize k % 32 = x at *
    generalize k / 32 % 32 = y at *
    generalize k / 1024 = z at *
    generalize k' % 32 = x' at *
    generalize k' / 32 % 32 = y' at *
    generalize k' / 1024 = z' at *
    rw [if_neg (by omega), if_neg (by omega), if_neg (by omega), if_neg (by omega), if_neg (by omega), if_neg (by omega)]
    decide
theorem zper_ky (hx : x < 17) (hy : y < 17) (hz : z < 17) (hu : u < 17) (hv : v < 17) (hw : w < 17) : zper zdl x y z u v w = zdo (gb_ky x y z) (gb_ky u v w) := by
  obtain ⟨a1, a2, a3, a4⟩ := gb_ky_s hx hy hz
  obtain ⟨b1, b2, b3, b4⟩ := gb_ky_s hu hv hw
  rw [← zper_so a1 b1, a2, a3, a4, b2, b3, b4]
  rw [z_sym (fun x y z => zper zdl x y z (gb_mi u v w) (u + v + w - gb_mi u v w - gb_ma u v w) (gb_ma u v w)) (fun x y z => zper_12 _ _ _ _ _ _ _) (fun x y z => zper_23 _ _ _ _ _ _ _)]
  exact (z_sym (fun u v w => zper zdl x y z u v w) (fun u v w => zper_12' _ _ _ _ _ _ _) (fun u v w => zper_23' _ _ _ _ _ _ _) u v w).symm
end PER
