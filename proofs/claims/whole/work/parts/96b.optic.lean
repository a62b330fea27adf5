section OPTIC
variable {I I' I1 I2 : gb_FI} {J J' : gb_FJ} {o s q : Nat} {p : gb_P}
/-- an optic stands at o -/
def gb_OP (o : Nat) : Prop := ∀ (I : gb_FI) (J : gb_FJ), gb_k (gb_mk I J) o 4 = true ∧ gb_R (gb_mk I J) o 0 = some (o + 1) ∧ gb_R (gb_mk I J) o 1 = some (o + 2) ∧ gb_R (gb_mk I J) o 2 = some (o + 3) ∧ gb_R (gb_mk I J) o 3 = some (o + 4) ∧ gb_R (gb_mk I J) o 4 = some (o + 5) ∧ gb_kd (gb_mk I J) (o + 1) = (20, 17) ∧ gb_kd (gb_mk I J) (o + 2) = (20, 34) ∧ gb_kd (gb_mk I J) (o + 3) = (20, 34) ∧ gb_kd (gb_mk I J) (o + 4) = (20, 34) ∧ gb_kd (gb_mk I J) (o + 5) = (20, 34)
theorem gb_OP133 : gb_OP 133 := fun I J => ⟨gk133, gr133_0, gr133_1, gr133_2, gr133_3, gr133_4, kd134, kd135, kd136, kd137, kd138⟩
theorem gb_OPp : ∀ i, i < 8 → gb_OP (148 + 6 * i) := by
  intro i hi
  match i, hi with
  | 0, _ => exact fun I J => ⟨gk148, gr148_0, gr148_1, gr148_2, gr148_3, gr148_4, kd149, kd150, kd151, kd152, kd153⟩
  | 1, _ => exact fun I J => ⟨gk154, gr154_0, gr154_1, gr154_2, gr154_3, gr154_4, kd155, kd156, kd157, kd158, kd159⟩
  | 2, _ => exact fun I J => ⟨gk160, gr160_0, gr160_1, gr160_2, gr160_3, gr160_4, kd161, kd162, kd163, kd164, kd165⟩
  | 3, _ => exact fun I J => ⟨gk166, gr166_0, gr166_1, gr166_2, gr166_3, gr166_4, kd167, kd168, kd169, kd170, kd171⟩
  | 4, _ => exact fun I J => ⟨gk172, gr172_0, gr172_1, gr172_2, gr172_3, gr172_4, kd173, kd174, kd175, kd176, kd177⟩
  | 5, _ => exact fun I J => ⟨gk178, gr178_0, gr178_1, gr178_2, gr178_3, gr178_4, kd179, kd180, kd181, kd182, kd183⟩
  | 6, _ => exact fun I J => ⟨gk184, gr184_0, gr184_1, gr184_2, gr184_3, gr184_4, kd185, kd186, kd187, kd188, kd189⟩
  | 7, _ => exact fun I J => ⟨gk190, gr190_0, gr190_1, gr190_2, gr190_3, gr190_4, kd191, kd192, kd193, kd194, kd195⟩
/-- factor, roots, quarter turns, seat -/
abbrev gb_br : Type := Nat × Nat × Nat × Nat
def xOs (I : gb_FI) (o s : Nat) (l : List gb_br) : Prop := I (o + 1) s = nI l.length ∧ l.length ≤ 2 ∧ ∀ (j : Nat) (e : gb_br), l[j]? = some e → I (o + 2) (2 * s + j) = nI e.2.2.2 ∧ I (o + 3) (2 * s + j) = nI e.1 ∧ I (o + 4) (2 * s + j) = nI e.2.1 ∧ I (o + 5) (2 * s + j) = nI e.2.2.1
/-- of the optic only the seat s has moved -/
def gb_oM (o s : Nat) (I I' : gb_FI) : Prop := (∀ s' l, s' ≠ s → xOs I o s' l → xOs I' o s' l) ∧ ∀ m, m ≤ o ∨ o + 5 < m → I' m = I m
theorem gb_oM.t (a : gb_oM o s I I1) (b : gb_oM o s I1 I2) : gb_oM o s I I2 := ⟨fun s' l h x => b.1 s' l h (a.1 s' l h x), fun m h => (b.2 m h).trans (a.2 m h)⟩
def gb_ld (I : gb_FI) (o s n : Nat) (e : gb_br) : gb_FI := gb_u (gb_u (gb_u (gb_u (gb_u I (o + 1) s (nI (n + 1))) (o + 2) (2 * s + n) (nI e.2.2.2)) (o + 3) (2 * s + n) (nI e.1)) (o + 4) (2 * s + n) (nI e.2.1)) (o + 5) (2 * s + n) (nI e.2.2.1)
theorem gb_ld_m (l : List gb_br) (hl : l.length < 2) (e : gb_br) : gb_oM o s I (gb_ld I o s l.length e) := by
  refine ⟨fun s' l' hs x => ?_, fun m hm => ?_⟩
  · obtain ⟨x1, x2, x3⟩ := x
    unfold gb_ld
    refine ⟨?_, x2, fun j e' hj => ?_⟩
    · rw [gb_u_row _ _ (by omega), gb_u_row _ _ (by omega), gb_u_row _ _ (by omega), gb_u_row _ _ (by omega), gb_u_nk _ _ hs]; exact x1
    · have jl : j < l'.length := (List.getElem?_eq_some_iff.mp hj).1
      obtain ⟨y1, y2, y3, y4⟩ := x3 j e' hj
      refine ⟨?_, ?_, ?_, ?_⟩
      · rw [gb_u_row _ _ (by omega), gb_u_row _ _ (by omega), gb_u_row _ _ (by omega), gb_u_nk _ _ (by omega), gb_u_row _ _ (by omega)]; exact y1
      · rw [gb_u_row _ _ (by omega), gb_u_row _ _ (by omega), gb_u_nk _ _ (by omega), gb_u_row _ _ (by omega), gb_u_row _ _ (by omega)]; exact y2
      · rw [gb_u_row _ _ (by omega), gb_u_nk _ _ (by omega), gb_u_row _ _ (by omega), gb_u_row _ _ (by omega), gb_u_row _ _ (by omega)]; exact y3
      · rw [gb_u_nk _ _ (by omega), gb_u_row _ _ (by omega), gb_u_row _ _ (by omega), gb_u_row _ _ (by omega), gb_u_row _ _ (by omega)]; exact y4
  · unfold gb_ld
    rw [gb_u_row _ _ (by omega), gb_u_row _ _ (by omega), gb_u_row _ _ (by omega), gb_u_row _ _ (by omega), gb_u_row _ _ (by omega)]
theorem gb_ld_s {l : List gb_br} (x : xOs I o s l) (hl : l.length < 2) (e : gb_br) : xOs (gb_ld I o s l.length e) o s (l ++ [e]) := by
  obtain ⟨x1, x2, x3⟩ := x
  unfold gb_ld
  refine ⟨?_, by simp; omega, fun j e' hj => ?_⟩
  · rw [gb_u_row _ _ (by omega), gb_u_row _ _ (by omega), gb_u_row _ _ (by omega), gb_u_row _ _ (by omega), gb_u_s]; simp
  · by_cases a : j < l.length
    · rw [List.getElem?_append_left a] at hj
      obtain ⟨y1, y2, y3, y4⟩ := x3 j e' hj
      refine ⟨?_, ?_, ?_, ?_⟩
      · rw [gb_u_row _ _ (by omega), gb_u_row _ _ (by omega), gb_u_row _ _ (by omega), gb_u_nk _ _ (by omega), gb_u_row _ _ (by omega)]; exact y1
      · rw [gb_u_row _ _ (by omega), gb_u_row _ _ (by omega), gb_u_nk _ _ (by omega), gb_u_row _ _ (by omega), gb_u_row _ _ (by omega)]; exact y2
      · rw [gb_u_row _ _ (by omega), gb_u_nk _ _ (by omega), gb_u_row _ _ (by omega), gb_u_row _ _ (by omega), gb_u_row _ _ (by omega)]; exact y3
      · rw [gb_u_nk _ _ (by omega), gb_u_row _ _ (by omega), gb_u_row _ _ (by omega), gb_u_row _ _ (by omega), gb_u_row _ _ (by omega)]; exact y4
    · rw [List.getElem?_append_right (by omega)] at hj
      have ej : j = l.length := by
        by_cases w : j - l.length = 0
        · omega
        · rw [List.getElem?_eq_none (by simp; omega)] at hj
          exact absurd hj (by simp)
      subst ej
      rw [Nat.sub_self] at hj
      have : e = e' := by simpa using hj
      subst this
      refine ⟨?_, ?_, ?_, ?_⟩
      · rw [gb_u_row _ _ (by omega), gb_u_row _ _ (by omega), gb_u_row _ _ (by omega), gb_u_s]
      · rw [gb_u_row _ _ (by omega), gb_u_row _ _ (by omega), gb_u_s]
      · rw [gb_u_row _ _ (by omega), gb_u_s]
      · rw [gb_u_s]
theorem x_lead (hO : gb_OP o) {l : List gb_br} (x : xOs I o s l) (hl : l.length < 2) (hs : s < 17) (e : gb_br) : fnX4_lead o (nI s) (nI e.2.2.2) (nI e.1) (nI e.2.1) (nI e.2.2.1) (gb_mk I J) = some ((), gb_mk (gb_ld I o s l.length e) J) := by
  have k0 : ∀ (I : gb_FI) (J : gb_FJ), gb_k (gb_mk I J) o 4 = true := fun I J => (hO I J).1
  have r0 : ∀ (I : gb_FI) (J : gb_FJ), gb_R (gb_mk I J) o 0 = some (o + 1) := fun I J => (hO I J).2.1
  have r1 : ∀ (I : gb_FI) (J : gb_FJ), gb_R (gb_mk I J) o 1 = some (o + 2) := fun I J => (hO I J).2.2.1
  have r2 : ∀ (I : gb_FI) (J : gb_FJ), gb_R (gb_mk I J) o 2 = some (o + 3) := fun I J => (hO I J).2.2.2.1
  have r3 : ∀ (I : gb_FI) (J : gb_FJ), gb_R (gb_mk I J) o 3 = some (o + 4) := fun I J => (hO I J).2.2.2.2.1
  have r4 : ∀ (I : gb_FI) (J : gb_FJ), gb_R (gb_mk I J) o 4 = some (o + 5) := fun I J => (hO I J).2.2.2.2.2.1
  have d1 : ∀ (I : gb_FI) (J : gb_FJ), gb_kd (gb_mk I J) (o + 1) = (20, 17) := fun I J => (hO I J).2.2.2.2.2.2.1
  have d2 : ∀ (I : gb_FI) (J : gb_FJ), gb_kd (gb_mk I J) (o + 2) = (20, 34) := fun I J => (hO I J).2.2.2.2.2.2.2.1
  have d3 : ∀ (I : gb_FI) (J : gb_FJ), gb_kd (gb_mk I J) (o + 3) = (20, 34) := fun I J => (hO I J).2.2.2.2.2.2.2.2.1
  have d4 : ∀ (I : gb_FI) (J : gb_FJ), gb_kd (gb_mk I J) (o + 4) = (20, 34) := fun I J => (hO I J).2.2.2.2.2.2.2.2.2.1
  have d5 : ∀ (I : gb_FI) (J : gb_FJ), gb_kd (gb_mk I J) (o + 5) = (20, 34) := fun I J => (hO I J).2.2.2.2.2.2.2.2.2.2
  have k1 : ∀ (I : gb_FI) (J : gb_FJ), gb_k (gb_mk I J) (o + 1) 20 = true := fun I J => by simp [gb_k, d1]
  have k2 : ∀ (I : gb_FI) (J : gb_FJ), gb_k (gb_mk I J) (o + 2) 20 = true := fun I J => by simp [gb_k, d2]
  have k3 : ∀ (I : gb_FI) (J : gb_FJ), gb_k (gb_mk I J) (o + 3) 20 = true := fun I J => by simp [gb_k, d3]
  have k4 : ∀ (I : gb_FI) (J : gb_FJ), gb_k (gb_mk I J) (o + 4) 20 = true := fun I J => by simp [gb_k, d4]
  have k5 : ∀ (I : gb_FI) (J : gb_FJ), gb_k (gb_mk I J) (o + 5) 20 = true := fun I J => by simp [gb_k, d5]
  have i1 : ∀ (I : gb_FI) (J : gb_FJ), gb_in (gb_mk I J) (o + 1) (nI s) = true := fun I J => gb_in_k (by rw [d1]) hs (by omega)
  have i2 : ∀ (I : gb_FI) (J : gb_FJ), gb_in (gb_mk I J) (o + 2) (nI (2 * s + l.length)) = true := fun I J => gb_in_k (by rw [d2]) (by omega) (by omega)
  have i3 : ∀ (I : gb_FI) (J : gb_FJ), gb_in (gb_mk I J) (o + 3) (nI (2 * s + l.length)) = true := fun I J => gb_in_k (by rw [d3]) (by omega) (by omega)
  have i4 : ∀ (I : gb_FI) (J : gb_FJ), gb_in (gb_mk I J) (o + 4) (nI (2 * s + l.length)) = true := fun I J => gb_in_k (by rw [d4]) (by omega) (by omega)
  have i5 : ∀ (I : gb_FI) (J : gb_FJ), gb_in (gb_mk I J) (o + 5) (nI (2 * s + l.length)) = true := fun I J => gb_in_k (by rw [d5]) (by omega) (by omega)
  have e2 : (2 : Int32) * nI s = nI (2 * s) := gb_nI_mul 2 s
  simp (disch := omega) only [fnX4_lead, gb_lt_d, gb_gd_t, gb_rd_s, gb_bd_s, gb_I_mk, gb_L_mk, gb_sI_mk, gb_sL_mk, k0, r0, r1, r2, r3, r4, k1, k2, k3, k4, k5, i1, i2, i3, i4, i5, nI_clamp, x.1, e2, nI_add, nI_1]
  rfl
/-- a seat cleared -/
theorem x_clr (hO : gb_OP o) (hs : s < 17) : xOs (gb_u I (o + 1) s 0) o s [] ∧ gb_oM o s I (gb_u I (o + 1) s 0) := by
  refine ⟨⟨gb_u_s _ _ _ _, by decide, fun j e hj => absurd hj (by simp)⟩, fun s' l hs' x => ?_, fun m hm => gb_u_row _ _ (by omega)⟩
  obtain ⟨x1, x2, x3⟩ := x
  refine ⟨by rw [gb_u_nk _ _ hs']; exact x1, x2, fun j e hj => ?_⟩
  rw [gb_u_row _ _ (by omega), gb_u_row _ _ (by omega), gb_u_row _ _ (by omega), gb_u_row _ _ (by omega)]
  exact x3 j e hj
theorem x_bend (hO : gb_OP o) (hs : s < 17) (t to : Nat) : ∃ I', fnX4_bend o (nI s) (nI to) (nI t) (gb_mk I J) = some ((), gb_mk I' J) ∧ xOs I' o s [(1, 0, t, to)] ∧ gb_oM o s I I' := by
  obtain ⟨c1, c2⟩ := x_clr (I := I) hO hs
  have k0 : ∀ (I : gb_FI) (J : gb_FJ), gb_k (gb_mk I J) o 4 = true := fun I J => (hO I J).1
  have r0 : ∀ (I : gb_FI) (J : gb_FJ), gb_R (gb_mk I J) o 0 = some (o + 1) := fun I J => (hO I J).2.1
  have d1 : ∀ (I : gb_FI) (J : gb_FJ), gb_kd (gb_mk I J) (o + 1) = (20, 17) := fun I J => (hO I J).2.2.2.2.2.2.1
  have k1 : ∀ (I : gb_FI) (J : gb_FJ), gb_k (gb_mk I J) (o + 1) 20 = true := fun I J => by simp [gb_k, d1]
  have i1 : ∀ (I : gb_FI) (J : gb_FJ), gb_in (gb_mk I J) (o + 1) (nI s) = true := fun I J => gb_in_k (by rw [d1]) hs (by omega)
  have l1 := x_lead (J := J) hO c1 (by decide) hs (1, 0, t, to)
  refine ⟨gb_ld (gb_u I (o + 1) s 0) o s 0 (1, 0, t, to), ?_, gb_ld_s c1 (by decide) _, c2.t (gb_ld_m [] (by decide) _)⟩
  simp (disch := omega) only [fnX4_bend, gb_lt_d, gb_gd_t, gb_rd_s, gb_bd_s, gb_I_mk, gb_L_mk, gb_sI_mk, gb_sL_mk, k0, r0, k1, i1, nI_clamp]
  rw [show fnX4_lead o (nI s) (nI to) 1 0 (nI t) (gb_mk (gb_u I (o + 1) s 0) J) = _ from l1, gb_bd_s]
  rfl
/-- stays, goes, roots of a kind -/
def gb_st' (p : gb_P) : Nat := if p.2.2.2.1 = 1 then 3 else if p.2.2.2.1 = 2 then 4 else 1
def gb_go' (p : gb_P) : Nat := if p.2.2.2.1 = 1 then 4 else if p.2.2.2.1 = 2 then 3 else 1
def gb_ro' (p : gb_P) : Nat := if p.2.2.2.1 = 3 then 1 else 0
theorem x_stays (hk : ∀ (I : gb_FI) (J : gb_FJ), gb_k (gb_mk I J) q 5 = true) (hp : I q 3 = nI p.2.2.2.1) (ok : gb_pOK p) : fnX5_stays q (gb_mk I J) = some (nI (gb_st' p), gb_mk I J) := by
  have k3 := ok.2.2.2.1
  simp only [fnX5_stays, fbX5_stays_23, gb_lt_d, gb_gd_t, gb_rd_s, gb_bd_s, gb_I_mk, gb_L_mk, gb_sI_mk, gb_sL_mk, hk, hp]
  unfold gb_st'
  generalize p.2.2.2.1 = k at *
  match k, k3 with
  | 0, _ => rfl
  | 1, _ => rfl
  | 2, _ => rfl
  | 3, _ => rfl
theorem x_goes (hk : ∀ (I : gb_FI) (J : gb_FJ), gb_k (gb_mk I J) q 5 = true) (hp : I q 3 = nI p.2.2.2.1) (ok : gb_pOK p) : fnX5_goes q (gb_mk I J) = some (nI (gb_go' p), gb_mk I J) := by
  have k3 := ok.2.2.2.1
  simp only [fnX5_goes, fbX5_goes_23, gb_lt_d, gb_gd_t, gb_rd_s, gb_bd_s, gb_I_mk, gb_L_mk, gb_sI_mk, gb_sL_mk, hk, hp]
  unfold gb_go'
  generalize p.2.2.2.1 = k at *
  match k, k3 with
  | 0, _ => rfl
  | 1, _ => rfl
  | 2, _ => rfl
  | 3, _ => rfl
theorem x_roots (hk : ∀ (I : gb_FI) (J : gb_FJ), gb_k (gb_mk I J) q 5 = true) (hp : I q 3 = nI p.2.2.2.1) (ok : gb_pOK p) : fnX5_roots q (gb_mk I J) = some (nI (gb_ro' p), gb_mk I J) := by
  have k3 := ok.2.2.2.1
  simp only [fnX5_roots, fbX5_roots_13, gb_lt_d, gb_gd_t, gb_rd_s, gb_bd_s, gb_I_mk, gb_L_mk, gb_sI_mk, gb_sL_mk, hk, hp]
  unfold gb_ro'
  generalize p.2.2.2.1 = k at *
  match k, k3 with
  | 0, _ => rfl
  | 1, _ => rfl
  | 2, _ => rfl
  | 3, _ => rfl
theorem x_fork (hO : gb_OP o) (hs : s < 17) (hk : ∀ (I : gb_FI) (J : gb_FJ), gb_k (gb_mk I J) q 5 = true) (hp : xP (I q) p) (ok : gb_pOK p) (hq : q ≤ o ∨ o + 5 < q) (t to : Nat) : ∃ I', fnX4_fork o q (nI s) (nI to) (nI t) (gb_mk I J) = some ((), gb_mk I' J) ∧ xOs I' o s [(gb_st' p, gb_ro' p, 0, s), (gb_go' p, gb_ro' p, t, to)] ∧ gb_oM o s I I' := by
  obtain ⟨c1, c2⟩ := x_clr (I := I) hO hs
  have k0 : ∀ (I : gb_FI) (J : gb_FJ), gb_k (gb_mk I J) o 4 = true := fun I J => (hO I J).1
  have r0 : ∀ (I : gb_FI) (J : gb_FJ), gb_R (gb_mk I J) o 0 = some (o + 1) := fun I J => (hO I J).2.1
  have d1 : ∀ (I : gb_FI) (J : gb_FJ), gb_kd (gb_mk I J) (o + 1) = (20, 17) := fun I J => (hO I J).2.2.2.2.2.2.1
  have k1 : ∀ (I : gb_FI) (J : gb_FJ), gb_k (gb_mk I J) (o + 1) 20 = true := fun I J => by simp [gb_k, d1]
  have i1 : ∀ (I : gb_FI) (J : gb_FJ), gb_in (gb_mk I J) (o + 1) (nI s) = true := fun I J => gb_in_k (by rw [d1]) hs (by omega)
  have l1 := x_lead (J := J) hO c1 (by decide) hs (gb_st' p, gb_ro' p, 0, s)
  have c3 := gb_ld_s c1 (by decide) (gb_st' p, gb_ro' p, 0, s)
  have m3 : gb_oM o s I (gb_ld (gb_u I (o + 1) s 0) o s 0 (gb_st' p, gb_ro' p, 0, s)) := c2.t (gb_ld_m [] (by decide) _)
  have l2 := x_lead (J := J) hO c3 (show 1 < 2 by omega) hs (gb_go' p, gb_ro' p, t, to)
  have h3 : I q 3 = nI p.2.2.2.1 := hp.2.2.2.1
  have h3a : gb_u I (o + 1) s 0 q 3 = nI p.2.2.2.1 := by rw [c2.2 q hq]; exact h3
  have h3b : gb_ld (gb_u I (o + 1) s 0) o s 0 (gb_st' p, gb_ro' p, 0, s) q 3 = nI p.2.2.2.1 := by rw [m3.2 q hq]; exact h3
  refine ⟨_, ?_, gb_ld_s c3 (show 1 < 2 by omega) (gb_go' p, gb_ro' p, t, to), m3.t (gb_ld_m [(gb_st' p, gb_ro' p, 0, s)] (show 1 < 2 by omega) _)⟩
  simp (disch := omega) only [fnX4_fork, gb_lt_d, gb_gd_t, gb_rd_s, gb_bd_s, gb_I_mk, gb_L_mk, gb_sI_mk, gb_sL_mk, k0, r0, k1, i1, nI_clamp, hk, x_stays hk h3a ok, x_roots hk h3a ok]
  rw [show fnX4_lead o (nI s) (nI s) (nI (gb_st' p)) (nI (gb_ro' p)) 0 (gb_mk (gb_u I (o + 1) s 0) J) = some ((), gb_mk (gb_ld (gb_u I (o + 1) s 0) o s 0 (gb_st' p, gb_ro' p, 0, s)) J) from l1]
  simp only [gb_lt_d, gb_gd_t, gb_rd_s, gb_bd_s, gb_I_mk, gb_L_mk, gb_sI_mk, gb_sL_mk, k0, hk, x_goes hk h3b ok, x_roots hk h3b ok]
  rw [show fnX4_lead o (nI s) (nI to) (nI (gb_go' p)) (nI (gb_ro' p)) (nI t) (gb_mk (gb_ld (gb_u I (o + 1) s 0) o s 0 (gb_st' p, gb_ro' p, 0, s)) J) = _ from l2, gb_bd_s]
end OPTIC
