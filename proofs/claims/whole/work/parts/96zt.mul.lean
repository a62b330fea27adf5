section ZMUL
variable {α β γ : Type}
theorem zM_12 (x y z : zq) : zM x (zM y z) = zM y (zM x z) := by rw [← zM_assoc, zM_comm x y, zM_assoc]
theorem zM_4 (a b c d : zq) : zM (zM a b) (zM c d) = zM (zM a c) (zM b d) := by rw [zM_assoc, zM_12 b c d, ← zM_assoc]
def t3 (x y z : zq) : zq := zM x (zM y z)
theorem t3_12 (x y z : zq) : t3 x y z = t3 y x z := zM_12 x y z
theorem t3_23 (x y z : zq) : t3 x y z = t3 x z y := by unfold t3; rw [zM_comm y z]
theorem t3_M (a b c a' b' c' : zq) : zM (t3 a b c) (t3 a' b' c') = t3 (zM a a') (zM b b') (zM c c') := by
  unfold t3
  rw [zM_4, zM_4 b c]
theorem zS_S (s t : Int) (x : zq) : zS s (zS t x) = zS (s * t) x := by
  apply z_ext <;> simp only [zS] <;> grind
theorem zR_S (s : Int) (x : zq) : zR (zS s x) = zS s (zR x) := by
  apply z_ext <;> simp only [zS, zR] <;> grind
theorem zI_S (s : Int) (x : zq) : zI (zS s x) = zS s (zI x) := by
  apply z_ext <;> simp only [zS, zI] <;> grind
theorem zI_R (x : zq) : zI (zR x) = zR (zI x) := by
  apply z_ext <;> simp only [zR, zI] <;> grind
theorem zRn_S (n : Nat) (s : Int) (x : zq) : zRn n (zS s x) = zS s (zRn n x) := by
  induction n with
  | zero => rfl
  | succ n ih => show zR (zRn n (zS s x)) = zS s (zR (zRn n x)); rw [ih, zR_S]
theorem zIn_S (n : Nat) (s : Int) (x : zq) : zIn n (zS s x) = zS s (zIn n x) := by
  induction n with
  | zero => rfl
  | succ n ih => show zI (zIn n (zS s x)) = zS s (zI (zIn n x)); rw [ih, zI_S]
theorem zI_Rn (n : Nat) (x : zq) : zI (zRn n x) = zRn n (zI x) := by
  induction n with
  | zero => rfl
  | succ n ih => show zI (zR (zRn n x)) = zR (zRn n (zI x)); rw [zI_R, ih]
theorem zIn_Rn (m n : Nat) (x : zq) : zIn m (zRn n x) = zRn n (zIn m x) := by
  induction m with
  | zero => rfl
  | succ m ih => show zI (zIn m (zRn n x)) = zRn n (zI (zIn m x)); rw [ih, zI_Rn]
theorem zRn_n (m n : Nat) (x : zq) : zRn m (zRn n x) = zRn (m + n) x := by
  induction m with
  | zero => rw [Nat.zero_add]; rfl
  | succ m ih => show zR (zRn m (zRn n x)) = _; rw [ih, show m + 1 + n = m + n + 1 by omega]; rfl
theorem zIn_n (m n : Nat) (x : zq) : zIn m (zIn n x) = zIn (m + n) x := by
  induction m with
  | zero => rw [Nat.zero_add]; rfl
  | succ m ih => show zI (zIn m (zIn n x)) = _; rw [ih, show m + 1 + n = m + n + 1 by omega]; rfl
theorem zb_M (f f' : Int) (s s' t t' : Nat) : zM (zb f s t) (zb f' s' t') = zb (f * f') (s + s') (t + t') := by
  rw [zM_b]
  unfold zb
  rw [zIn_S, zRn_S, zS_S, zIn_Rn, zRn_n, zIn_n]
theorem zbr_3 (x y z : gb_br) : zb ((x.1 * y.1 * z.1 : Nat) : Int) (x.2.1 + y.2.1 + z.2.1) (x.2.2.1 + y.2.2.1 + z.2.2.1) = t3 (zbr x) (zbr y) (zbr z) := by
  unfold t3 zbr
  rw [zb_M, zb_M, ← Int.natCast_mul, ← Int.natCast_mul, Nat.mul_assoc, Nat.add_assoc, Nat.add_assoc]
theorem zJ_A (x y : zq) : zJ (zA x y) = zA (zJ x) (zJ y) := by
  apply z_ext <;> simp only [zJ, zA] <;> omega
theorem zJ_M (x y : zq) : zJ (zM x y) = zM (zJ x) (zJ y) := by
  apply z_ext <;> simp only [zJ, zM] <;> grind
theorem zJ_t3 (x y z : zq) : zJ (t3 x y z) = t3 (zJ x) (zJ y) (zJ z) := by unfold t3; rw [zJ_M, zJ_M]
theorem zJ_Ls (f : α → zq) : ∀ l : List α, zJ (zLs l f) = zLs l (fun a => zJ (f a))
  | [] => by show zJ zZ = zZ; decide
  | a :: l => by
    show zJ (zA (f a) (zLs l f)) = zA (zJ (f a)) (zLs l (fun a => zJ (f a)))
    rw [zJ_A, zJ_Ls f l]
theorem zLs_app (f : α → zq) : ∀ l m : List α, zLs (l ++ m) f = zA (zLs l f) (zLs m f)
  | [], m => (zZ_A _).symm
  | a :: l, m => by
    show zA (f a) (zLs (l ++ m) f) = zA (zA (f a) (zLs l f)) (zLs m f)
    rw [zLs_app f l m, zA_assoc]
theorem zLs_map (f : β → zq) (h : α → β) : ∀ l : List α, zLs (l.map h) f = zLs l (fun a => f (h a))
  | [] => rfl
  | a :: l => by
    show zA (f (h a)) (zLs (l.map h) f) = zA (f (h a)) (zLs l (fun a => f (h a)))
    rw [zLs_map f h l]
theorem zLs_fm (f : β → zq) (h : α → List β) : ∀ l : List α, zLs (l.flatMap h) f = zLs l (fun a => zLs (h a) f)
  | [] => rfl
  | a :: l => by
    rw [List.flatMap_cons, zLs_app, zLs_fm f h l]
    rfl
def S3 (A : List α) (B : List β) (C : List γ) (f : α → β → γ → zq) : zq := zLs A (fun a => zLs B (fun b => zLs C (fun c => f a b c)))
theorem S3_congr {A : List α} {B : List β} {C : List γ} {f h : α → β → γ → zq} (e : ∀ a ∈ A, ∀ b ∈ B, ∀ c ∈ C, f a b c = h a b c) : S3 A B C f = S3 A B C h :=
  zLs_congr _ (fun a ha => zLs_congr _ (fun b hb => zLs_congr _ (fun c hc => e a ha b hb c hc)))
theorem S3_A (A : List α) (B : List β) (C : List γ) (f h : α → β → γ → zq) : S3 A B C (fun a b c => zA (f a b c) (h a b c)) = zA (S3 A B C f) (S3 A B C h) := by
  unfold S3
  simp only [zLs_A]
theorem S3_t3 (A : List α) (B : List β) (C : List γ) (f : α → zq) (h : β → zq) (k : γ → zq) : S3 A B C (fun a b c => t3 (f a) (h b) (k c)) = t3 (zLs A f) (zLs B h) (zLs C k) := by
  unfold S3 t3
  simp only [zLs_M, zLs_M']
theorem S3_0 (A : List α) (B : List β) (C : List γ) {f : α → β → γ → zq} (e : ∀ a ∈ A, ∀ b ∈ B, ∀ c ∈ C, f a b c = zZ) : S3 A B C f = zZ := by
  rw [S3_congr e]
  unfold S3
  simp only [zLs_0]
theorem S3_M (A : List α) (B : List β) (C : List γ) (x : zq) (f : α → β → γ → zq) : S3 A B C (fun a b c => zM x (f a b c)) = zM x (S3 A B C f) := by
  unfold S3
  simp only [zLs_M]
/-- the sum over the six orders -/
def zper {α β : Type} (f : α → β → zq) (x y z : α) (u v w : β) : zq := zA (t3 (f x u) (f y v) (f z w)) (zA (t3 (f x u) (f y w) (f z v)) (zA (t3 (f x v) (f y u) (f z w)) (zA (t3 (f x v) (f y w) (f z u)) (zA (t3 (f x w) (f y u) (f z v)) (t3 (f x w) (f y v) (f z u))))))
theorem zper_S (g : α → β → zq) (A B C : List α) (A' B' C' : List β) : S3 A B C (fun a b c => S3 A' B' C' (fun u v w => zper g a b c u v w)) = zper (fun (A : List α) (A' : List β) => zLs A (fun a => zLs A' (fun u => g a u))) A B C A' B' C' := by
  have e1 : ∀ a b c, S3 A' B' C' (fun u v w => t3 (g a u) (g b v) (g c w)) = t3 (zLs A' (g a)) (zLs B' (g b)) (zLs C' (g c)) := fun a b c => S3_t3 A' B' C' (g a) (g b) (g c)
  have e2 : ∀ a b c, S3 A' B' C' (fun u v w => t3 (g a u) (g b w) (g c v)) = t3 (zLs A' (g a)) (zLs C' (g b)) (zLs B' (g c)) := fun a b c => by
    rw [t3_23, ← S3_t3 A' B' C' (g a) (g c) (g b)]
    exact S3_congr (fun u _ v _ w _ => t3_23 _ _ _)
  have e3 : ∀ a b c, S3 A' B' C' (fun u v w => t3 (g a v) (g b u) (g c w)) = t3 (zLs B' (g a)) (zLs A' (g b)) (zLs C' (g c)) := fun a b c => by
    rw [t3_12, ← S3_t3 A' B' C' (g b) (g a) (g c)]
    exact S3_congr (fun u _ v _ w _ => t3_12 _ _ _)
  have e4 : ∀ a b c, S3 A' B' C' (fun u v w => t3 (g a v) (g b w) (g c u)) = t3 (zLs B' (g a)) (zLs C' (g b)) (zLs A' (g c)) := fun a b c => by
    rw [t3_23, t3_12, ← S3_t3 A' B' C' (g c) (g a) (g b)]
    exact S3_congr (fun u _ v _ w _ => by rw [t3_23, t3_12])
  have e5 : ∀ a b c, S3 A' B' C' (fun u v w => t3 (g a w) (g b u) (g c v)) = t3 (zLs C' (g a)) (zLs A' (g b)) (zLs B' (g c)) := fun a b c => by
    rw [t3_12, t3_23, ← S3_t3 A' B' C' (g b) (g c) (g a)]
    exact S3_congr (fun u _ v _ w _ => by rw [t3_12, t3_23])
  have e6 : ∀ a b c, S3 A' B' C' (fun u v w => t3 (g a w) (g b v) (g c u)) = t3 (zLs C' (g a)) (zLs B' (g b)) (zLs A' (g c)) := fun a b c => by
    rw [t3_12, t3_23, t3_12, ← S3_t3 A' B' C' (g c) (g b) (g a)]
    exact S3_congr (fun u _ v _ w _ => by rw [t3_12, t3_23, t3_12])
  unfold zper
  simp only [S3_A, e1, e2, e3, e4, e5, e6]
  simp only [S3_t3]
end ZMUL
