section READ
variable {I I' I1 I2 : gb_FI} {J J' : gb_FJ} {c : Nat → Nat} {n s q cs : Nat}
theorem gb_cs5 : ∀ m, m < 32 → ∀ p, p < 5 → (((nI m >>> (nI p &&& 31)) &&& (1 : Int32)) = 1 ↔ m / 2 ^ p % 2 = 1) := by decide
/-- a path: counted ahead (w = 1) or not (w = 0), not u (5: any) -/
def g_path (c : Nat → Nat) (n cs w u s : Nat) : Option Nat := match g_num c n 4 s with
  | none => none
  | some v => if v ≠ u ∧ cs / 2 ^ v % 2 = w then some v else none
theorem g_path_lt {w u v : Nat} (e : g_path c n cs w u s = some v) : v < 5 ∧ v ≠ u ∧ cs / 2 ^ v % 2 = w := by
  unfold g_path at e
  split at e
  · exact absurd e (by simp)
  · rename_i x hx
    have := g_num_le hx
    split at e
    · rename_i hq
      rw [← Option.some.inj e]
      exact ⟨by omega, hq.1, hq.2⟩
    · exact absurd e (by simp)
theorem g_num4 {v : Nat} (e : g_num c n 4 s = some v) : gt_v c n s = nI v := by
  unfold g_num at e
  unfold gt_v
  split at e
  · rename_i q
    rw [if_pos (show s < n ∧ gt_dg c s = true from ⟨q.1, q.2.1⟩), Option.some.inj e]
  · exact absurd e (by simp)
theorem g_num4n (e : g_num c n 4 s = none) : gt_v c n s = -1 ∨ ∃ d, 5 ≤ d ∧ d ≤ 1000 ∧ gt_v c n s = nI d := by
  have le := gt_d_le c s (gt_e c n s - s)
  unfold gt_v
  by_cases q : s < n ∧ gt_dg c s = true
  · refine Or.inr ⟨_, ?_, le, if_pos q⟩
    refine Classical.byContradiction (fun r => ?_)
    unfold g_num at e
    rw [if_pos ⟨q.1, q.2, by omega⟩] at e
    exact absurd e (by simp)
  · exact Or.inl (if_neg q)
theorem gb_m1_eq {u v : Nat} (hu : u ≤ 5) (hv : v < 5) : nI v = gb_m1 5 u ↔ v = u := by
  unfold gb_m1
  by_cases e : u = 5
  · rw [if_pos e]
    refine ⟨fun w => absurd w ?_, fun w => absurd w (by omega)⟩
    have : ∀ v, v < 5 → ¬ nI v = -1 := by decide
    exact this v hv
  · rw [if_neg e]
    exact nI_eq (by omega) (by omega)
theorem x_path0 (h : xRd I c n s) (hc : I 3 5 = nI cs) (hcs : cs < 32) {w u : Nat} (hw : w < 2) (hu : u ≤ 5) (e : g_path c n cs w u s = none) : fnX7_readPath 3 (nI w) (gb_m1 5 u) (gb_mk I J) = some (-1, gb_mk I J) := by
  obtain ⟨t, hs, h2, h3, h4⟩ := h
  simp only [fnX7_readPath, fbX7_readPath_19, fbX7_readPath_38]
  simp only [gb_lt_d, gb_gd_t, gb_rd_s, gb_bd_s, gb_I_mk, gb_L_mk, gb_sI_mk, gb_sL_mk, gk3, gr3_0, gr3_1, h4, hc]
  unfold g_path at e
  cases g : g_num c n 4 s with
  | none =>
    rcases g_num4n g with a | ⟨d, d1, d2, a⟩
    · rw [a, if_pos (show (-1 : Int32) < 0 by decide)]
    · rw [a, if_neg (nI_pos (by omega)), if_pos (show (5 : Int32) ≤ nI d from nI_le (a := 5) d1 (by omega))]
  | some v =>
    rw [g] at e
    have hv := g_num_le g
    rw [g_num4 g, if_neg (nI_pos (by omega)), if_neg (show ¬ (5 : Int32) ≤ nI v from nI_ge (a := v) (b := 5) (by omega) (by omega))]
    by_cases z : v = u
    · rw [if_pos ((gb_m1_eq hu (by omega)).mpr z)]
    · rw [if_neg (fun y => z ((gb_m1_eq hu (by omega)).mp y))]
      have zz : ¬ cs / 2 ^ v % 2 = w := fun y => by
        have e : (if v ≠ u ∧ cs / 2 ^ v % 2 = w then some v else none) = none := e
        rw [if_pos ⟨z, y⟩] at e
        exact absurd e (by simp)
      by_cases b : cs / 2 ^ v % 2 = 1
      · rw [if_pos ((gb_cs5 cs hcs v (by omega)).mpr b), if_neg (show ¬ (1 : Int32) = nI w from fun y => zz (by have := (nI_eq (a := 1) (b := w) (by omega) (by omega)).mp y; omega))]
      · rw [if_neg (fun y => b ((gb_cs5 cs hcs v (by omega)).mp y)), if_neg (show ¬ (0 : Int32) = nI w from fun y => zz (by have := (nI_eq (a := 0) (b := w) (by omega) (by omega)).mp y; omega))]
theorem x_path1 (h : xRd I c n s) (hc : I 3 5 = nI cs) (hcs : cs < 32) {w u v : Nat} (hw : w < 2) (hu : u ≤ 5) (e : g_path c n cs w u s = some v) : ∃ I', fnX7_readPath 3 (nI w) (gb_m1 5 u) (gb_mk I J) = some (nI v, gb_mk I' J) ∧ xRd I' c n (gt_n c n s) ∧ gb_ad I I' := by
  obtain ⟨I', e1, e2, e3, e4⟩ := x_adv (J := J) h
  obtain ⟨t, hs, h2, h3, h4⟩ := h
  obtain ⟨f1, f2, f3⟩ := g_path_lt e
  refine ⟨I', ?_, e2, e3, e4⟩
  simp only [fnX7_readPath, fbX7_readPath_19, fbX7_readPath_38]
  simp only [gb_lt_d, gb_gd_t, gb_rd_s, gb_bd_s, gb_I_mk, gb_L_mk, gb_sI_mk, gb_sL_mk, gk3, gr3_0, gr3_1, h4, hc, e1]
  unfold g_path at e
  cases g : g_num c n 4 s with
  | none => rw [g] at e; exact absurd e (by simp)
  | some x =>
    rw [g] at e
    have e : (if x ≠ u ∧ cs / 2 ^ x % 2 = w then some x else none) = some v := e
    have ex : x = v := by
      split at e
      · exact Option.some.inj e
      · exact absurd e (by simp)
    subst ex
    rw [g_num4 g, if_neg (nI_pos (by omega)), if_neg (show ¬ (5 : Int32) ≤ nI x from nI_ge (a := x) (b := 5) (by omega) (by omega)), if_neg (fun y => f2 ((gb_m1_eq hu (by omega)).mp y))]
    by_cases b : cs / 2 ^ x % 2 = 1
    · rw [if_pos ((gb_cs5 cs hcs x (by omega)).mpr b), if_pos (show (1 : Int32) = nI w by rw [← f3, b]; rfl)]
    · rw [if_neg (fun y => b ((gb_cs5 cs hcs x (by omega)).mp y)), if_pos (show (0 : Int32) = nI w by rw [← f3, show cs / 2 ^ x % 2 = 0 by omega]; rfl)]
/-- the token has moved, and the part q -/
def gb_fr (q : Nat) (I I' : gb_FI) : Prop := (∀ m, m ≠ 3 → m ≠ q → I' m = I m) ∧ ∀ k, (k < 2 ∨ 4 < k) → I' 3 k = I 3 k
theorem gb_fr.t (a : gb_fr q I I1) (b : gb_fr q I1 I2) : gb_fr q I I2 := ⟨fun m h1 h2 => (b.1 m h1 h2).trans (a.1 m h1 h2), fun k h => (b.2 k h).trans (a.2 k h)⟩
theorem gb_fr.r : gb_fr q I I := ⟨fun _ _ _ => rfl, fun _ _ => rfl⟩
theorem gb_ad.fr (a : gb_ad I I') : gb_fr q I I' := ⟨fun m h1 _ => a.1 m h1, a.2⟩
theorem gb_fr.u (hq : 6 ≤ q) {k : Nat} {x : Int32} : gb_fr q I (gb_u I q k x) := ⟨fun m _ h2 => gb_u_row _ _ h2, fun k _ => by rw [gb_u_row _ _ (by omega)]⟩
theorem xRd.u (h : xRd I c n s) (hq : 6 ≤ q) {k : Nat} {x : Int32} : xRd (gb_u I q k x) c n s := by
  obtain ⟨⟨t1, t2, t3⟩, hs, h2, h3, h4⟩ := h
  exact ⟨⟨t1, by rw [gb_u_row _ _ (by omega)]; exact t2, fun i hi => by rw [gb_u_row _ _ (by omega)]; exact t3 i hi⟩, hs, by rw [gb_u_row _ _ (by omega)]; exact h2, by rw [gb_u_row _ _ (by omega)]; exact h3, by rw [gb_u_row _ _ (by omega)]; exact h4⟩
/-- a field of the part q has been read -/
def gb_sf (q k : Nat) (v : Int32) (I I' : gb_FI) : Prop := gb_fr q I I' ∧ I' q k = v ∧ ∀ j, j ≠ k → I' q j = I q j
theorem gb_ad.sf (a : gb_ad I I') (hq : 6 ≤ q) {k : Nat} {v : Int32} : gb_sf q k v I (gb_u I' q k v) :=
  ⟨a.fr.t (gb_fr.u hq), gb_u_s _ _ _ _, fun j hj => by rw [gb_u_nk _ _ hj, a.1 q (by omega)]⟩
end READ
