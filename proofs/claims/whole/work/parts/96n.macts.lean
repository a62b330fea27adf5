section MACTS
variable {I I' I1 I2 : gb_FI} {J J' J1 J2 : gb_FJ} {p : gb_P}
/-- the product of two numbers -/
def qmul (X s : gb_q) : gb_q := (X.1 * s.1 + 2 * X.2.1 * s.2.1 - X.2.2.1 * s.2.2.1 - 2 * X.2.2.2 * s.2.2.2, X.1 * s.2.1 + X.2.1 * s.1 - X.2.2.1 * s.2.2.2 - X.2.2.2 * s.2.2.1, X.1 * s.2.2.1 + 2 * X.2.1 * s.2.2.2 + X.2.2.1 * s.1 + 2 * X.2.2.2 * s.2.1, X.1 * s.2.2.2 + X.2.1 * s.2.2.1 + X.2.2.1 * s.2.1 + X.2.2.2 * s.1)
/-- a factor, a root or none, quarter turns, as a number -/
def gcf (f : Int64) (r t : Nat) : gb_q := gtu (if r = 1 then (0, f, 0, 0) else (f, 0, 0, 0)) (t % 4)
theorem gcf_F (X F : gb_q) (f : Int64) {r : Nat} (hr : r ≤ 1) (t : Nat) : q4 (qmul X (gcf f r t)) F = q4 X (qM f r t F) := by
  unfold qM
  rw [qIn_mod t F]
  unfold gcf gtu
  have ht : t % 4 < 4 := Nat.mod_lt _ (by decide)
  generalize t % 4 = u at *
  match r, hr, u, ht with
  | 0, _, 0, _ => simp [q4, qmul, qS, qRn, qIn]; grind
  | 0, _, 1, _ => simp [q4, qmul, qS, qRn, qIn, qI]; grind
  | 0, _, 2, _ => simp [q4, qmul, qS, qRn, qIn, qI]; grind
  | 0, _, 3, _ => simp [q4, qmul, qS, qRn, qIn, qI]; grind
  | 1, _, 0, _ => simp [q4, qmul, qS, qRn, qIn, qR]; grind
  | 1, _, 1, _ => simp [q4, qmul, qS, qRn, qIn, qI, qR]; grind
  | 1, _, 2, _ => simp [q4, qmul, qS, qRn, qIn, qI, qR]; grind
  | 1, _, 3, _ => simp [q4, qmul, qS, qRn, qIn, qI, qR]; grind
theorem qmul_Z (X F : gb_q) : q4 (qmul X qZ) F = 0 := by
  unfold q4 qmul qZ
  grind
/-- four longs of an array -/
def pq (J : gb_FJ) (o : Nat) : gb_q := (J o 0, J o 1, J o 2, J o 3)
def gb_p4 (J : gb_FJ) (o : Nat) (v : gb_q) : gb_FJ := gb_u (gb_u (gb_u (gb_u J o 0 v.1) o 1 v.2.1) o 2 v.2.2.1) o 3 v.2.2.2
theorem pq_p4 {o : Nat} {v : gb_q} : pq (gb_p4 J o v) o = v := by
  unfold pq gb_p4
  rw [gb_u_nk _ _ (show (0 : Nat) ≠ 3 by decide), gb_u_nk _ _ (show (0 : Nat) ≠ 2 by decide), gb_u_nk _ _ (show (0 : Nat) ≠ 1 by decide), gb_u_s, gb_u_nk _ _ (show (1 : Nat) ≠ 3 by decide), gb_u_nk _ _ (show (1 : Nat) ≠ 2 by decide), gb_u_s, gb_u_nk _ _ (show (2 : Nat) ≠ 3 by decide), gb_u_s, gb_u_s]
theorem gb_p4_ne {o m : Nat} {v : gb_q} (h : m ≠ o) : gb_p4 J o v m = J m := by
  unfold gb_p4
  rw [gb_u_row _ _ h, gb_u_row _ _ h, gb_u_row _ _ h, gb_u_row _ _ h]
theorem pq_ne {o m : Nat} {v : gb_q} (h : m ≠ o) : pq (gb_p4 J o v) m = pq J m := by
  unfold pq
  rw [gb_p4_ne h]
theorem m_puts {o : Nat} (ho : o = 254 ∨ o = 255) (v : gb_q) : fnX11_puts o v.1 v.2.1 v.2.2.1 v.2.2.2 (gb_mk I J) = some ((), gb_mk I (gb_p4 J o v)) := by
  have k : ∀ (I : gb_FI) (J : gb_FJ), gb_k (gb_mk I J) o 23 = true := fun I J => by rcases ho with e | e <;> subst e; exact gk254; exact gk255
  have i : ∀ j, j < 4 → ∀ (I : gb_FI) (J : gb_FJ), gb_in (gb_mk I J) o (nI j) = true := fun j hj I J => by rcases ho with e | e <;> subst e; exact gi254 hj; exact gi255 hj
  have i0 : ∀ (I : gb_FI) (J : gb_FJ), gb_in (gb_mk I J) o 0 = true := i 0 (by decide)
  have i1 : ∀ (I : gb_FI) (J : gb_FJ), gb_in (gb_mk I J) o 1 = true := i 1 (by decide)
  have i2 : ∀ (I : gb_FI) (J : gb_FJ), gb_in (gb_mk I J) o 2 = true := i 2 (by decide)
  have i3 : ∀ (I : gb_FI) (J : gb_FJ), gb_in (gb_mk I J) o 3 = true := i 3 (by decide)
  unfold fnX11_puts
  rw [k, gb_gd_t, i0, gb_gd_t, gb_lt_d, gb_sL_mk, k, gb_gd_t, i1, gb_gd_t, gb_lt_d, gb_sL_mk, k, gb_gd_t, i2, gb_gd_t, gb_lt_d, gb_sL_mk, k, gb_gd_t, i3, gb_gd_t, gb_lt_d, gb_sL_mk]
  rfl
/-- the factors of a kind: staying (w = 1) or going (w = 0) -/
def gsv (k w : Nat) : Nat := if k = 2 then 1 else if k = 0 then (if w = 1 then 3 else 4) else (if w = 1 then 4 else 3)
theorem m_some {o k w : Nat} (ho : o = 254 ∨ o = 255) (hk : k < 3) (hw : w < 2) {u : Nat} (hu : u < 2) {sg : Int32} (hsg : sg = 1 ∨ (sg = -1 ∧ u = 0)) :
    fnX11_some o (nI k) (nI w) (nI u) sg (gb_mk I J) = some ((), gb_mk I (gb_p4 J o (gcf (lN (gsv k w)) (if k = 2 then 1 else 0) (if u = 1 then 1 else if sg = 1 then 0 else 2)))) := by
  have pt : ∀ a b c d : Int64, fnX11_puts o a b c d (gb_mk I J) = some ((), gb_mk I (gb_p4 J o (a, b, c, d))) := fun a b c d => m_puts (I := I) (J := J) ho (a, b, c, d)
  unfold fnX11_some fbX11_some_18 fbX11_some_31 fbX11_some_43 fbX11_some_88
  rcases hsg with e | ⟨e, e2⟩
  · subst e
    match k, hk, w, hw, u, hu with
    | 0, _, 0, _, 0, _ => exact (congrArg (fun z => gb_bd z fun _ h => some ((), h)) (pt _ _ _ _)).trans rfl
    | 0, _, 0, _, 1, _ => exact (congrArg (fun z => gb_bd z fun _ h => some ((), h)) (pt _ _ _ _)).trans rfl
    | 0, _, 1, _, 0, _ => exact (congrArg (fun z => gb_bd z fun _ h => some ((), h)) (pt _ _ _ _)).trans rfl
    | 0, _, 1, _, 1, _ => exact (congrArg (fun z => gb_bd z fun _ h => some ((), h)) (pt _ _ _ _)).trans rfl
    | 1, _, 0, _, 0, _ => exact (congrArg (fun z => gb_bd z fun _ h => some ((), h)) (pt _ _ _ _)).trans rfl
    | 1, _, 0, _, 1, _ => exact (congrArg (fun z => gb_bd z fun _ h => some ((), h)) (pt _ _ _ _)).trans rfl
    | 1, _, 1, _, 0, _ => exact (congrArg (fun z => gb_bd z fun _ h => some ((), h)) (pt _ _ _ _)).trans rfl
    | 1, _, 1, _, 1, _ => exact (congrArg (fun z => gb_bd z fun _ h => some ((), h)) (pt _ _ _ _)).trans rfl
    | 2, _, 0, _, 0, _ => exact (congrArg (fun z => gb_bd z fun _ h => some ((), h)) (pt _ _ _ _)).trans rfl
    | 2, _, 0, _, 1, _ => exact (congrArg (fun z => gb_bd z fun _ h => some ((), h)) (pt _ _ _ _)).trans rfl
    | 2, _, 1, _, 0, _ => exact (congrArg (fun z => gb_bd z fun _ h => some ((), h)) (pt _ _ _ _)).trans rfl
    | 2, _, 1, _, 1, _ => exact (congrArg (fun z => gb_bd z fun _ h => some ((), h)) (pt _ _ _ _)).trans rfl
  · subst e
    subst e2
    match k, hk, w, hw with
    | 0, _, 0, _ => exact (congrArg (fun z => gb_bd z fun _ h => some ((), h)) (pt _ _ _ _)).trans rfl
    | 0, _, 1, _ => exact (congrArg (fun z => gb_bd z fun _ h => some ((), h)) (pt _ _ _ _)).trans rfl
    | 1, _, 0, _ => exact (congrArg (fun z => gb_bd z fun _ h => some ((), h)) (pt _ _ _ _)).trans rfl
    | 1, _, 1, _ => exact (congrArg (fun z => gb_bd z fun _ h => some ((), h)) (pt _ _ _ _)).trans rfl
    | 2, _, 0, _ => exact (congrArg (fun z => gb_bd z fun _ h => some ((), h)) (pt _ _ _ _)).trans rfl
    | 2, _, 1, _ => exact (congrArg (fun z => gb_bd z fun _ h => some ((), h)) (pt _ _ _ _)).trans rfl
end MACTS
