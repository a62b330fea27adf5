section WHOLE
/-- whole numbers (a + b r) + (c + d r) i -/
abbrev zq : Type := Int × Int × Int × Int
def zZ : zq := (0, 0, 0, 0)
def z1 : zq := (1, 0, 0, 0)
def zA (x y : zq) : zq := (x.1 + y.1, x.2.1 + y.2.1, x.2.2.1 + y.2.2.1, x.2.2.2 + y.2.2.2)
def zS (s : Int) (x : zq) : zq := (s * x.1, s * x.2.1, s * x.2.2.1, s * x.2.2.2)
def zM (x y : zq) : zq := (x.1 * y.1 + 2 * (x.2.1 * y.2.1) - x.2.2.1 * y.2.2.1 - 2 * (x.2.2.2 * y.2.2.2), x.1 * y.2.1 + x.2.1 * y.1 - x.2.2.1 * y.2.2.2 - x.2.2.2 * y.2.2.1, x.1 * y.2.2.1 + 2 * (x.2.1 * y.2.2.2) + x.2.2.1 * y.1 + 2 * (x.2.2.2 * y.2.1), x.1 * y.2.2.2 + x.2.1 * y.2.2.1 + x.2.2.1 * y.2.1 + x.2.2.2 * y.1)
def zR (x : zq) : zq := (2 * x.2.1, x.1, 2 * x.2.2.2, x.2.2.1)
def zI (x : zq) : zq := (-x.2.2.1, -x.2.2.2, x.1, x.2.1)
def zJ (x : zq) : zq := (x.1, x.2.1, -x.2.2.1, -x.2.2.2)
def zRn : Nat → zq → zq
  | 0, x => x
  | n + 1, x => zR (zRn n x)
def zIn : Nat → zq → zq
  | 0, x => x
  | n + 1, x => zI (zIn n x)
/-- the number f r^s i^t -/
def zb (f : Int) (s t : Nat) : zq := zS f (zRn s (zIn t z1))
theorem z_ext {x y : zq} (h1 : x.1 = y.1) (h2 : x.2.1 = y.2.1) (h3 : x.2.2.1 = y.2.2.1) (h4 : x.2.2.2 = y.2.2.2) : x = y := by
  obtain ⟨a, b, c, d⟩ := x
  obtain ⟨a', b', c', d'⟩ := y
  simp only at h1 h2 h3 h4
  subst h1; subst h2; subst h3; subst h4
  rfl
theorem zA_comm (x y : zq) : zA x y = zA y x := by
  apply z_ext <;> simp only [zA] <;> omega
theorem zA_assoc (x y z : zq) : zA (zA x y) z = zA x (zA y z) := by
  apply z_ext <;> simp only [zA] <;> omega
theorem zA_Z (x : zq) : zA x zZ = x := by
  apply z_ext <;> simp only [zA, zZ] <;> omega
theorem zZ_A (x : zq) : zA zZ x = x := by
  apply z_ext <;> simp only [zA, zZ] <;> omega
theorem zM_comm (x y : zq) : zM x y = zM y x := by
  apply z_ext <;> simp only [zM] <;> grind
theorem zM_assoc (x y z : zq) : zM (zM x y) z = zM x (zM y z) := by
  apply z_ext <;> simp only [zM] <;> grind
theorem zM_A (x y z : zq) : zM x (zA y z) = zA (zM x y) (zM x z) := by
  apply z_ext <;> simp only [zM, zA] <;> grind
theorem zA_M (x y z : zq) : zM (zA x y) z = zA (zM x z) (zM y z) := by rw [zM_comm, zM_A, zM_comm z x, zM_comm z y]
theorem zM_1 (x : zq) : zM z1 x = x := by
  apply z_ext <;> simp only [zM, z1] <;> grind
theorem zM_1' (x : zq) : zM x z1 = x := by rw [zM_comm, zM_1]
theorem zM_Z (x : zq) : zM x zZ = zZ := by
  apply z_ext <;> simp only [zM, zZ] <;> grind
theorem zZ_M (x : zq) : zM zZ x = zZ := by rw [zM_comm, zM_Z]
theorem zM_S (s : Int) (x y : zq) : zM (zS s x) y = zS s (zM x y) := by
  apply z_ext <;> simp only [zM, zS] <;> grind
theorem zM_R (x y : zq) : zM (zR x) y = zR (zM x y) := by
  apply z_ext <;> simp only [zM, zR] <;> grind
theorem zM_I (x y : zq) : zM (zI x) y = zI (zM x y) := by
  apply z_ext <;> simp only [zM, zI] <;> grind
theorem zM_Rn (n : Nat) (x y : zq) : zM (zRn n x) y = zRn n (zM x y) := by
  induction n with
  | zero => rfl
  | succ n ih => show zM (zR (zRn n x)) y = zR (zRn n (zM x y)); rw [zM_R, ih]
theorem zM_In (n : Nat) (x y : zq) : zM (zIn n x) y = zIn n (zM x y) := by
  induction n with
  | zero => rfl
  | succ n ih => show zM (zI (zIn n x)) y = zI (zIn n (zM x y)); rw [zM_I, ih]
theorem zM_b (f : Int) (s t : Nat) (x : zq) : zM (zb f s t) x = zS f (zRn s (zIn t x)) := by
  unfold zb
  rw [zM_S, zM_Rn, zM_In, zM_1]
/-- a whole number's action on functionals -/
def zT (x : zq) (e : gb_q) : gb_q := qA (qS (iL x.1) e) (qA (qS (iL x.2.1) (qR e)) (qA (qS (iL x.2.2.1) (qI e)) (qS (iL x.2.2.2) (qR (qI e)))))
theorem iL_2 : (2 : Int64) = iL 2 := rfl
theorem zT_A (x y : zq) (e : gb_q) : zT (zA x y) e = qA (zT x e) (zT y e) := by
  apply q_ext <;> simp only [zT, zA, qA, qS, qR, qI, ← iL_add] <;> grind
theorem zT_S (s : Int) (x : zq) (e : gb_q) : zT (zS s x) e = qS (iL s) (zT x e) := by
  apply q_ext <;> simp only [zT, zS, qA, qS, qR, qI, ← iL_mul] <;> grind
theorem zT_R (x : zq) (e : gb_q) : zT (zR x) e = qR (zT x e) := by
  apply q_ext <;> simp only [zT, zR, qA, qS, qR, qI, ← iL_mul, ← iL_2] <;> grind
theorem zT_I (x : zq) (e : gb_q) : zT (zI x) e = qI (zT x e) := by
  apply q_ext <;> simp only [zT, zI, qA, qS, qR, qI, ← iL_neg] <;> grind
theorem zT_Rn (n : Nat) (x : zq) (e : gb_q) : zT (zRn n x) e = qRn n (zT x e) := by
  induction n with
  | zero => rfl
  | succ n ih => show zT (zR (zRn n x)) e = qR (qRn n (zT x e)); rw [zT_R, ih]
theorem zT_In (n : Nat) (x : zq) (e : gb_q) : zT (zIn n x) e = qIn n (zT x e) := by
  induction n with
  | zero => rfl
  | succ n ih => show zT (zI (zIn n x)) e = qI (qIn n (zT x e)); rw [zT_I, ih]
theorem zT_M (f s t : Nat) (x : zq) (e : gb_q) : zT (zM (zb f s t) x) e = qM (lN f) s t (zT x e) := by
  rw [zM_b, zT_S, zT_Rn, zT_In, lN_iL]
  rfl
theorem zT_1 (e : gb_q) : zT z1 e = e := by
  apply q_ext <;> simp only [zT, z1, qA, qS, qR, qI, show iL 1 = 1 from rfl, show iL 0 = 0 from rfl] <;> grind
theorem zT_Z (e : gb_q) : zT zZ e = qZ := by
  apply q_ext <;> simp only [zT, zZ, qA, qS, qR, qI, qZ, show iL 0 = 0 from rfl] <;> grind
/-- a whole number in 64 bits -/
def zL (x : zq) : gb_q := (iL x.1, iL x.2.1, iL x.2.2.1, iL x.2.2.2)
theorem zT_e (x : zq) (i : Nat) : (zT x (qe i)).1 = qc (zL x) i := by
  rw [← q4_e]
  simp only [zT, qA, qS, qR, qI, q4, zL]
  grind
end WHOLE
