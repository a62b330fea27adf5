section SYM
theorem qL_congr {α : Type} {f g : α → gb_q} : ∀ l : List α, (∀ a ∈ l, f a = g a) → qL l f = qL l g
  | [], _ => rfl
  | a :: l, h => by
    show qA (f a) (qL l f) = qA (g a) (qL l g)
    rw [h a (by simp), qL_congr l (fun b hb => h b (List.mem_cons_of_mem _ hb))]
theorem qL_Z {α : Type} : ∀ l : List α, qL l (fun _ => qZ) = qZ
  | [] => rfl
  | a :: l => by
    show qA qZ (qL l (fun _ => qZ)) = qZ
    rw [qL_Z l, qA_Z]
theorem qL_A {α : Type} (f g : α → gb_q) : ∀ l : List α, qL l (fun a => qA (f a) (g a)) = qA (qL l f) (qL l g)
  | [] => by show qZ = qA qZ qZ; rw [qA_Z]
  | a :: l => by
    show qA (qA (f a) (g a)) (qL l (fun a => qA (f a) (g a))) = qA (qA (f a) (qL l f)) (qA (g a) (qL l g))
    rw [qL_A f g l, qA_assoc, qA_assoc, ← qA_assoc (g a), qA_comm (g a), qA_assoc]
theorem qL_swap {α β : Type} (f : α → β → gb_q) (m : List β) : ∀ l : List α, qL l (fun a => qL m (fun b => f a b)) = qL m (fun b => qL l (fun a => f a b))
  | [] => by
    show qZ = qL m (fun b => qZ)
    rw [qL_Z]
  | a :: l => by
    show qA (qL m (fun b => f a b)) (qL l (fun a => qL m (fun b => f a b))) = qL m (fun b => qA (f a b) (qL l (fun a => f a b)))
    rw [qL_swap f m l, qL_A]
theorem qM_Z (f : Int64) (r t : Nat) : qM f r t qZ = qZ := by
  have h : qM f r t (qS 0 qZ) = qS 0 (qM f r t qZ) := by
    unfold qM
    rw [qIn_S, qRn_S, qS_S, qS_S, show f * 0 = 0 * f by grind]
  rw [qS_0, qS_0] at h
  exact h
theorem qL_M {α : Type} (f : Int64) (r t : Nat) (g : α → gb_q) : ∀ l : List α, qM f r t (qL l g) = qL l (fun a => qM f r t (g a))
  | [] => qM_Z f r t
  | a :: l => by
    show qM f r t (qA (g a) (qL l g)) = qA (qM f r t (g a)) (qL l (fun a => qM f r t (g a)))
    rw [qM_A, qL_M f r t g l]
theorem gC_12 (F : Nat → gb_q) (x y z : gb_br) : gC F x y z = gC F y x z := by
  unfold gC
  rw [gb_ky_12, Nat.mul_comm x.1 y.1, Nat.add_comm x.2.1 y.2.1, Nat.add_comm x.2.2.1 y.2.2.1]
theorem gC_23 (F : Nat → gb_q) (x y z : gb_br) : gC F x y z = gC F x z y := by
  unfold gC
  rw [gb_ky_23, show x.1 * y.1 * z.1 = x.1 * z.1 * y.1 by rw [Nat.mul_assoc, Nat.mul_comm y.1, ← Nat.mul_assoc], show x.2.1 + y.2.1 + z.2.1 = x.2.1 + z.2.1 + y.2.1 by omega, show x.2.2.1 + y.2.2.1 + z.2.2.1 = x.2.2.1 + z.2.2.1 + y.2.2.1 by omega]
/-- three seats, all branches -/
def gb_G3 (tb : Nat → List gb_br) (F : Nat → gb_q) (x y z : Nat) : gb_q := qL (tb x) (fun ex => qL (tb y) (fun ey => qL (tb z) (fun ez => gC F ex ey ez)))
theorem gb_G3_12 {tb : Nat → List gb_br} {F : Nat → gb_q} (x y z : Nat) : gb_G3 tb F x y z = gb_G3 tb F y x z := by
  unfold gb_G3
  rw [qL_swap (fun ex ey => qL (tb z) (fun ez => gC F ex ey ez))]
  exact qL_congr _ (fun ey _ => qL_congr _ (fun ex _ => qL_congr _ (fun ez _ => gC_12 F ex ey ez)))
theorem gb_G3_23 {tb : Nat → List gb_br} {F : Nat → gb_q} (x y z : Nat) : gb_G3 tb F x y z = gb_G3 tb F x z y := by
  unfold gb_G3
  refine qL_congr _ (fun ex _ => ?_)
  rw [qL_swap (fun ey ez => gC F ex ey ez)]
  exact qL_congr _ (fun ez _ => qL_congr _ (fun ey _ => gC_23 F ex ey ez))
theorem gG_ky {tb : Nat → List gb_br} {F : Nat → gb_q} {x y z : Nat} (hx : x < 17) (hy : y < 17) (hz : z < 17) : gG tb F (gb_ky x y z) = gb_G3 tb F x y z := by
  obtain ⟨_, a, b, c⟩ := gb_ky_s hx hy hz
  show gb_G3 tb F (gb_ky x y z % 32) (gb_ky x y z / 32 % 32) (gb_ky x y z / 1024) = gb_G3 tb F x y z
  rw [a, b, c]
  by_cases h1 : x ≤ y
  · by_cases h2 : y ≤ z
    · rw [show gb_mi x y z = x by unfold gb_mi; omega, show gb_ma x y z = z by unfold gb_ma; omega, show x + y + z - x - z = y by omega]
    · by_cases h3 : x ≤ z
      · rw [show gb_mi x y z = x by unfold gb_mi; omega, show gb_ma x y z = y by unfold gb_ma; omega, show x + y + z - x - y = z by omega, gb_G3_23]
      · rw [show gb_mi x y z = z by unfold gb_mi; omega, show gb_ma x y z = y by unfold gb_ma; omega, show x + y + z - z - y = x by omega, gb_G3_12, gb_G3_23]
  · by_cases h2 : x ≤ z
    · rw [show gb_mi x y z = y by unfold gb_mi; omega, show gb_ma x y z = z by unfold gb_ma; omega, show x + y + z - y - z = x by omega, gb_G3_12]
    · by_cases h3 : y ≤ z
      · rw [show gb_mi x y z = y by unfold gb_mi; omega, show gb_ma x y z = x by unfold gb_ma; omega, show x + y + z - y - x = z by omega, gb_G3_23, gb_G3_12]
      · rw [show gb_mi x y z = z by unfold gb_mi; omega, show gb_ma x y z = x by unfold gb_ma; omega, show x + y + z - z - x = y by omega, gb_G3_12, gb_G3_23, gb_G3_12]
/-- the branches of one seat -/
def gb_A (l : List gb_br) (F : Nat → gb_q) : gb_q := qL l (fun e => qM (lN e.1) e.2.1 e.2.2.1 (F e.2.2.2))
theorem gb_A3 {tb : Nat → List gb_br} {F : Nat → gb_q} (x y z : Nat) : gb_A (tb x) (fun s => gb_A (tb y) (fun t => gb_A (tb z) (fun u => F (gb_ky s t u)))) = gb_G3 tb F x y z := by
  unfold gb_A gb_G3
  refine qL_congr _ (fun ex _ => ?_)
  rw [qL_M]
  refine qL_congr _ (fun ey _ => ?_)
  rw [qL_M, qL_M]
  refine qL_congr _ (fun ez _ => ?_)
  unfold gC
  rw [qM_M, qM_M, lN_mul, lN_mul, Nat.mul_assoc, Nat.add_assoc, Nat.add_assoc]
end SYM
