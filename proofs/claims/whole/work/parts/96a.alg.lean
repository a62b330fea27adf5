section ALG
/-- a number (a + b r) + (c + d r) i, and a functional on such numbers -/
abbrev gb_q : Type := Int64 × Int64 × Int64 × Int64
def q4 (X F : gb_q) : Int64 := X.1 * F.1 + X.2.1 * F.2.1 + X.2.2.1 * F.2.2.1 + X.2.2.2 * F.2.2.2
def qZ : gb_q := (0, 0, 0, 0)
def qA (F G : gb_q) : gb_q := (F.1 + G.1, F.2.1 + G.2.1, F.2.2.1 + G.2.2.1, F.2.2.2 + G.2.2.2)
def qS (s : Int64) (F : gb_q) : gb_q := (s * F.1, s * F.2.1, s * F.2.2.1, s * F.2.2.2)
/-- behind the root, behind a quarter turn -/
def qR (F : gb_q) : gb_q := (F.2.1, 2 * F.1, F.2.2.2, 2 * F.2.2.1)
def qI (F : gb_q) : gb_q := (F.2.2.1, F.2.2.2, -F.1, -F.2.1)
def qRn : Nat → gb_q → gb_q
  | 0, F => F
  | n + 1, F => qR (qRn n F)
def qIn : Nat → gb_q → gb_q
  | 0, F => F
  | n + 1, F => qI (qIn n F)
def qM (f : Int64) (r t : Nat) (F : gb_q) : gb_q := qS f (qRn r (qIn t F))
theorem q_ext {F G : gb_q} (h1 : F.1 = G.1) (h2 : F.2.1 = G.2.1) (h3 : F.2.2.1 = G.2.2.1) (h4 : F.2.2.2 = G.2.2.2) : F = G := by
  obtain ⟨a, b, c, d⟩ := F
  obtain ⟨a', b', c', d'⟩ := G
  simp only at h1 h2 h3 h4
  rw [h1, h2, h3, h4]
theorem qA_comm (F G : gb_q) : qA F G = qA G F := by
  unfold qA
  exact q_ext (by grind) (by grind) (by grind) (by grind)
theorem qA_assoc (F G H : gb_q) : qA (qA F G) H = qA F (qA G H) := by
  unfold qA
  exact q_ext (by grind) (by grind) (by grind) (by grind)
theorem qA_Z (F : gb_q) : qA F qZ = F := by
  unfold qA qZ
  exact q_ext (by grind) (by grind) (by grind) (by grind)
theorem qZ_A (F : gb_q) : qA qZ F = F := by rw [qA_comm, qA_Z]
theorem qS_A (s : Int64) (F G : gb_q) : qS s (qA F G) = qA (qS s F) (qS s G) := by
  unfold qS qA
  exact q_ext (by grind) (by grind) (by grind) (by grind)
theorem qS_S (s t : Int64) (F : gb_q) : qS s (qS t F) = qS (s * t) F := by
  unfold qS
  exact q_ext (by grind) (by grind) (by grind) (by grind)
theorem qS_1 (F : gb_q) : qS 1 F = F := by
  unfold qS
  exact q_ext (by grind) (by grind) (by grind) (by grind)
theorem qS_0 (F : gb_q) : qS 0 F = qZ := by
  unfold qS qZ
  exact q_ext (by grind) (by grind) (by grind) (by grind)
theorem qR_A (F G : gb_q) : qR (qA F G) = qA (qR F) (qR G) := by
  unfold qR qA
  exact q_ext (by grind) (by grind) (by grind) (by grind)
theorem qR_S (s : Int64) (F : gb_q) : qR (qS s F) = qS s (qR F) := by
  unfold qR qS
  exact q_ext (by grind) (by grind) (by grind) (by grind)
theorem qI_A (F G : gb_q) : qI (qA F G) = qA (qI F) (qI G) := by
  unfold qI qA
  exact q_ext (by grind) (by grind) (by grind) (by grind)
theorem qI_S (s : Int64) (F : gb_q) : qI (qS s F) = qS s (qI F) := by
  unfold qI qS
  exact q_ext (by grind) (by grind) (by grind) (by grind)
theorem qI_R (F : gb_q) : qI (qR F) = qR (qI F) := by
  unfold qI qR
  exact q_ext (by grind) (by grind) (by grind) (by grind)
theorem qR_R (F : gb_q) : qR (qR F) = qS 2 F := by
  unfold qR qS
  exact q_ext (by grind) (by grind) (by grind) (by grind)
theorem qI_I (F : gb_q) : qI (qI F) = qS (-1) F := by
  unfold qI qS
  exact q_ext (by grind) (by grind) (by grind) (by grind)
theorem qRn_A (n : Nat) (F G : gb_q) : qRn n (qA F G) = qA (qRn n F) (qRn n G) := by
  induction n with
  | zero => rfl
  | succ n ih => rw [qRn, ih, qR_A]; rfl
theorem qIn_A (n : Nat) (F G : gb_q) : qIn n (qA F G) = qA (qIn n F) (qIn n G) := by
  induction n with
  | zero => rfl
  | succ n ih => rw [qIn, ih, qI_A]; rfl
theorem qRn_S (n : Nat) (s : Int64) (F : gb_q) : qRn n (qS s F) = qS s (qRn n F) := by
  induction n with
  | zero => rfl
  | succ n ih => rw [qRn, ih, qR_S]; rfl
theorem qIn_S (n : Nat) (s : Int64) (F : gb_q) : qIn n (qS s F) = qS s (qIn n F) := by
  induction n with
  | zero => rfl
  | succ n ih => rw [qIn, ih, qI_S]; rfl
theorem qI_Rn (n : Nat) (F : gb_q) : qI (qRn n F) = qRn n (qI F) := by
  induction n with
  | zero => rfl
  | succ n ih => rw [qRn, qI_R, ih]; rfl
theorem qIn_Rn (m n : Nat) (F : gb_q) : qIn m (qRn n F) = qRn n (qIn m F) := by
  induction m with
  | zero => rfl
  | succ m ih => rw [qIn, ih, qI_Rn]; rfl
theorem qRn_n (m n : Nat) (F : gb_q) : qRn m (qRn n F) = qRn (m + n) F := by
  induction m with
  | zero => rw [Nat.zero_add]; rfl
  | succ m ih => rw [qRn, ih, show m + 1 + n = m + n + 1 by omega, qRn]
theorem qIn_n (m n : Nat) (F : gb_q) : qIn m (qIn n F) = qIn (m + n) F := by
  induction m with
  | zero => rw [Nat.zero_add]; rfl
  | succ m ih => rw [qIn, ih, show m + 1 + n = m + n + 1 by omega, qIn]
theorem qM_M (f g : Int64) (r s t u : Nat) (F : gb_q) : qM f r t (qM g s u F) = qM (f * g) (r + s) (t + u) F := by
  unfold qM
  rw [qIn_S, qRn_S, qS_S, qIn_Rn, qRn_n, qIn_n]
theorem qM_A (f : Int64) (r t : Nat) (F G : gb_q) : qM f r t (qA F G) = qA (qM f r t F) (qM f r t G) := by
  unfold qM
  rw [qIn_A, qRn_A, qS_A]
theorem qM_comm (f g : Int64) (r s t u : Nat) (F : gb_q) : qM f r t (qM g s u F) = qM g s u (qM f r t F) := by
  rw [qM_M, qM_M, show f * g = g * f by grind, Nat.add_comm r s, Nat.add_comm t u]
theorem qM_1 (F : gb_q) : qM 1 0 0 F = F := by
  unfold qM
  exact qS_1 F
theorem qI_4 (F : gb_q) : qI (qI (qI (qI F))) = F := by
  rw [qI_I, qI_I, qS_S, show (-1 : Int64) * -1 = 1 from by decide, qS_1]
theorem qIn_4 (n : Nat) (F : gb_q) : qIn (n + 4) F = qIn n F := by
  show qI (qI (qI (qI (qIn n F)))) = qIn n F
  rw [qI_4]
theorem qIn_mod (n : Nat) (F : gb_q) : qIn n F = qIn (n % 4) F := by
  have : ∀ k m, qIn (m + 4 * k) F = qIn m F := by
    intro k
    induction k with
    | zero => intro m; rfl
    | succ k ih => intro m; rw [show m + 4 * (k + 1) = m + 4 * k + 4 by omega, qIn_4, ih]
  have h := this (n / 4) (n % 4)
  rw [Nat.mod_add_div] at h
  exact h
theorem q4_A (X F G : gb_q) : q4 X (qA F G) = q4 X F + q4 X G := by
  unfold q4 qA
  grind
theorem q4_A' (X Y F : gb_q) : q4 (qA X Y) F = q4 X F + q4 Y F := by
  unfold q4 qA
  grind
theorem q4_Z (X : gb_q) : q4 X qZ = 0 := by
  unfold q4 qZ
  grind
theorem q4_Z' (F : gb_q) : q4 qZ F = 0 := by
  unfold q4 qZ
  grind
theorem q4_S (X F : gb_q) (s : Int64) : q4 X (qS s F) = s * q4 X F := by
  unfold q4 qS
  grind
/-- sums -/
def gS : Nat → (Nat → Int64) → Int64
  | 0, _ => 0
  | n + 1, f => gS n f + f n
theorem gS_congr {f g : Nat → Int64} : ∀ n, (∀ i, i < n → f i = g i) → gS n f = gS n g
  | 0, _ => rfl
  | n + 1, h => by rw [gS, gS, gS_congr n (fun i hi => h i (by omega)), h n (by omega)]
theorem gS_0 : ∀ n, gS n (fun _ => 0) = 0
  | 0 => rfl
  | n + 1 => by rw [gS, gS_0 n]; rfl
theorem gS_add (f g : Nat → Int64) : ∀ n, gS n (fun i => f i + g i) = gS n f + gS n g
  | 0 => by show (0 : Int64) = 0 + 0; rfl
  | n + 1 => by rw [gS, gS, gS, gS_add f g n]; grind
theorem gS_mul (s : Int64) (f : Nat → Int64) : ∀ n, gS n (fun i => s * f i) = s * gS n f
  | 0 => by show (0 : Int64) = s * 0; grind
  | n + 1 => by rw [gS, gS, gS_mul s f n]; grind
theorem gS_pt {x : Nat} (v : Int64) : ∀ n, gS n (fun i => if i = x then v else 0) = if x < n then v else 0
  | 0 => by rw [if_neg (by omega)]; rfl
  | n + 1 => by
    rw [gS, gS_pt v n]
    by_cases a : x < n
    · rw [if_pos a, if_neg (by omega), if_pos (by omega)]; grind
    · rw [if_neg a]
      by_cases b : n = x
      · rw [if_pos b, if_pos (by omega)]; grind
      · rw [if_neg b, if_neg (by omega)]; rfl
theorem gS_swap (f : Nat → Nat → Int64) (m : Nat) : ∀ n, gS n (fun i => gS m (fun j => f i j)) = gS m (fun j => gS n (fun i => f i j))
  | 0 => by
    rw [gS]
    exact (gS_0 m).symm
  | n + 1 => by
    rw [gS, gS_swap f m n, ← gS_add]
    rfl
/-- a row of numbers against a row of functionals -/
def gP (n : Nat) (X F : Nat → gb_q) : Int64 := gS n (fun i => q4 (X i) (F i))
theorem gP_upd {n x : Nat} {X F : Nat → gb_q} {Y : gb_q} (h : x < n) : gP n (fun i => if i = x then qA (X x) Y else X i) F = gP n X F + q4 Y (F x) := by
  have e : ∀ i, i < n → q4 (if i = x then qA (X x) Y else X i) (F i) = q4 (X i) (F i) + (if i = x then q4 Y (F x) else 0) := fun i _ => by
    by_cases a : i = x
    · subst a; rw [if_pos rfl, if_pos rfl, q4_A']
    · rw [if_neg a, if_neg a]; grind
  unfold gP
  rw [gS_congr n e, gS_add, gS_pt, if_pos h]
theorem gP_congr {n : Nat} {X Y F G : Nat → gb_q} (h : ∀ i, i < n → X i = Y i) (h2 : ∀ i, i < n → F i = G i) : gP n X F = gP n Y G := gS_congr n (fun i hi => by rw [h i hi, h2 i hi])
end ALG
