section UNIT
variable {p : gb_P} {cs ls s t : Nat} {A B : List gb_br}
def zbr (e : gb_br) : zq := zb (e.1 : Nat) e.2.1 e.2.2.1
def zdl (s t : Nat) : zq := if s = t then z1 else zZ
def zg (a b : gb_br) : zq := zM (zbr a) (zM (zJ (zbr b)) (zdl a.2.2.2 b.2.2.2))
/-- one grain, the branches of two seats against each other -/
def zLL (A B : List gb_br) : zq := zLs A (fun a => zLs B (fun b => zg a b))
def zSS (p : gb_P) (s t : Nat) : zq := zLL (gb_tb p 2 s) (gb_tb p 2 t)
def zbb (p : gb_P) (s : Nat) : zq := zb (((if s = 0 then 1 else gb_ba p) * (if s = 0 then 1 else gb_ba p) : Nat) : Int) 0 0
def zRS (p : gb_P) (s t : Nat) : zq := if s = t then zbb p s else zZ
theorem zg_ne {a b : gb_br} (h : a.2.2.2 ≠ b.2.2.2) : zg a b = zZ := by
  unfold zg zdl
  rw [if_neg h, zM_Z, zM_Z]
theorem zg_eq {a b : gb_br} (h : a.2.2.2 = b.2.2.2) : zg a b = zM (zbr a) (zJ (zbr b)) := by
  unfold zg zdl
  rw [if_pos h, zM_1']
theorem zLL_1 (a b : gb_br) : zLL [a] [b] = zg a b := by
  show zA (zA (zg a b) zZ) zZ = zg a b
  rw [zA_Z, zA_Z]
theorem zLL_2 (a b c d : gb_br) : zLL [a, b] [c, d] = zA (zA (zg a c) (zg a d)) (zA (zg b c) (zg b d)) := by
  show zA (zA (zg a c) (zA (zg a d) zZ)) (zA (zA (zg b c) (zA (zg b d) zZ)) zZ) = _
  rw [zA_Z, zA_Z, zA_Z]
theorem zLL_0 (h : ∀ a ∈ A, ∀ b ∈ B, a.2.2.2 ≠ b.2.2.2) : zLL A B = zZ := by
  unfold zLL
  rw [zLs_congr A (fun a ha => (zLs_congr B (fun b hb => zg_ne (h a ha b hb))).trans (zLs_0 B)), zLs_0]
theorem zn_n (hk : 1 ≤ p.2.2.2.1 ∧ p.2.2.2.1 ≤ 3) {t : Nat} (ht : t < 3) : zA (zM (zb (gb_st' p : Nat) (gb_ro' p) 0) (zJ (zb (gb_st' p : Nat) (gb_ro' p) 0))) (zM (zb (gb_go' p : Nat) (gb_ro' p) t) (zJ (zb (gb_go' p : Nat) (gb_ro' p) t))) = zb ((gb_ba p * gb_ba p : Nat) : Int) 0 0 := by
  unfold gb_st' gb_go' gb_ro' gb_ba
  generalize p.2.2.2.1 = k at hk
  match k, hk, t, ht with
  | 1, _, 0, _ => decide
  | 1, _, 1, _ => decide
  | 1, _, 2, _ => decide
  | 2, _, 0, _ => decide
  | 2, _, 1, _ => decide
  | 2, _, 2, _ => decide
  | 3, _, 0, _ => decide
  | 3, _, 1, _ => decide
  | 3, _, 2, _ => decide
theorem zn_c (hk : 1 ≤ p.2.2.2.1 ∧ p.2.2.2.1 ≤ 3) {t u : Nat} (h : (t = 1 ∧ u = 1) ∨ (t = 2 ∧ u = 0) ∨ (t = 0 ∧ u = 2)) : zA (zM (zb (gb_st' p : Nat) (gb_ro' p) 0) (zJ (zb (gb_go' p : Nat) (gb_ro' p) t))) (zM (zb (gb_go' p : Nat) (gb_ro' p) u) (zJ (zb (gb_st' p : Nat) (gb_ro' p) 0))) = zZ := by
  unfold gb_st' gb_go' gb_ro'
  generalize p.2.2.2.1 = k at hk
  have k3 : k = 1 ∨ k = 2 ∨ k = 3 := by omega
  rcases h with ⟨rfl, rfl⟩ | ⟨rfl, rfl⟩ | ⟨rfl, rfl⟩ <;> rcases k3 with rfl | rfl | rfl <;> decide
/-- a seat that is met, and what it is -/
theorem zhit (hw : gb_wp cs ls p) (hs : gb_hit p ((s - 1) / 2) = true) (h0 : s ≠ 0) : gb_tb p 2 s = gb_hl p ((s - 1) / 2) ((s - 1) % 2) ∧ (s - 1) / 2 < 5 ∧ s = 2 * ((s - 1) / 2) + (s - 1) % 2 + 1 := by
  obtain ⟨w1, w2, w3, _⟩ := hw.1
  have hit := of_decide_eq_true hs
  refine ⟨?_, by omega, by omega⟩
  unfold gb_tb
  rw [if_neg h0, if_pos ⟨by omega, hs⟩]
theorem zmiss (hs : ¬ gb_hit p ((s - 1) / 2) = true) (h0 : s ≠ 0) : gb_tb p 2 s = [(gb_ba p, 0, 0, s)] := by
  unfold gb_tb
  rw [if_neg h0, if_neg (fun z => hs z.2)]
/-- what is met goes to what is met, or is lost -/
theorem zhit_t (hw : gb_wp cs ls p) (hs : gb_hit p ((s - 1) / 2) = true) (h0 : s ≠ 0) (ht : t < 11 + 2 * ls) (hm : ¬ gb_hit p ((t - 1) / 2) = true) : ∀ e ∈ gb_tb p 2 s, e.2.2.2 ≠ t := by
  obtain ⟨e1, e2, e3⟩ := zhit hw hs h0
  rw [e1]
  have hit := of_decide_eq_true hs
  have m : ∀ x, (((p.1 = 0 ∨ p.1 = 3) ∧ (x = p.2.1 ∨ x = p.2.2.1)) ∨ ((p.1 = 1 ∨ p.1 = 2 ∨ p.1 = 4) ∧ x = p.2.1)) → x ≠ (t - 1) / 2 := fun x hx z => hm (decide_eq_true (by rw [← z]; exact hx))
  have mx := m _ hit
  have mo : (p.1 = 0 ∨ p.1 = 3) → gb_oth p ((s - 1) / 2) ≠ (t - 1) / 2 := fun h => m _ (Or.inl ⟨h, by unfold gb_oth; split <;> simp⟩)
  have l4 := hw.2.2.2.2.1
  intro e he
  unfold gb_hl at he
  split at he
  · next z =>
    have := mo (Or.inl z)
    simp only [List.mem_cons, List.not_mem_nil, or_false] at he
    rcases he with q | q <;> subst q <;> simp only <;> omega
  · split at he
    · simp only [List.mem_cons, List.not_mem_nil, or_false] at he
      rcases he with q | q <;> subst q <;> simp only <;> omega
    · split at he
      · simp only [List.mem_cons, List.not_mem_nil, or_false] at he
        subst he; simp only; omega
      · split at he
        · next z =>
          have := mo (Or.inr z)
          simp only [List.mem_cons, List.not_mem_nil, or_false] at he
          subst he; simp only; omega
        · have := (l4 (by omega)).1
          simp only [List.mem_cons, List.not_mem_nil, or_false] at he
          rcases he with q | q <;> subst q <;> simp only <;> omega
theorem zSS_hh (hw : gb_wp cs ls p) (h5 : p.1 ≠ 5) (hs : gb_hit p ((s - 1) / 2) = true) (s0 : s ≠ 0) (ht : gb_hit p ((t - 1) / 2) = true) (t0 : t ≠ 0) (hsl : s < 11 + 2 * ls) (htl : t < 11 + 2 * ls) : zSS p s t = zRS p s t := by
  obtain ⟨e1, e2, e3⟩ := zhit hw hs s0
  obtain ⟨f1, f2, f3⟩ := zhit hw ht t0
  have hit := of_decide_eq_true hs
  have hit' := of_decide_eq_true ht
  obtain ⟨w1, w2, w3, w4, w5, w6, w7, w8, w9⟩ := hw.1
  have w11 := hw.2.2.1
  have w13 := hw.2.2.2.2.1
  have w14 := hw.2.2.2.2.2.1
  unfold zSS
  rw [e1, f1]
  generalize hx : (s - 1) / 2 = x at *
  generalize hk : (s - 1) % 2 = k at *
  generalize hy : (t - 1) / 2 = y at *
  generalize hm : (t - 1) % 2 = m at *
  have rs : zRS p s t = if s = t then zb ((gb_ba p * gb_ba p : Nat) : Int) 0 0 else zZ := by
    unfold zRS zbb
    rw [if_neg s0]
  rw [rs]
  have hcase : p.1 = 0 ∨ p.1 = 1 ∨ p.1 = 2 ∨ p.1 = 3 ∨ p.1 = 4 := by omega
  rcases hcase with z | z | z | z | z
  · -- split
    have kk : 1 ≤ p.2.2.2.1 ∧ p.2.2.2.1 ≤ 3 := by omega
    have ne := (w11 (Or.inl z)).1
    have hl : ∀ x k, gb_hl p x k = [(gb_st' p, gb_ro' p, 0, 2 * x + k + 1), (gb_go' p, gb_ro' p, 1, 2 * gb_oth p x + k + 1)] := fun x k => by unfold gb_hl; rw [if_pos z]
    have hx' : x = p.2.1 ∨ x = p.2.2.1 := by omega
    have hy' : y = p.2.1 ∨ y = p.2.2.1 := by omega
    have ox : gb_oth p x ≠ x ∧ (gb_oth p x = p.2.1 ∨ gb_oth p x = p.2.2.1) := by unfold gb_oth; split <;> omega
    have oy : gb_oth p y ≠ y ∧ (gb_oth p y = p.2.1 ∨ gb_oth p y = p.2.2.1) := by unfold gb_oth; split <;> omega
    rw [hl, hl, zLL_2]
    by_cases c : s = t
    · rw [if_pos c]
      have c1 : x = y := by omega
      have c2 : k = m := by omega
      subst c1; subst c2
      rw [zg_eq (a := (gb_st' p, gb_ro' p, 0, 2 * x + k + 1)) rfl, zg_ne (a := (gb_st' p, gb_ro' p, 0, 2 * x + k + 1)) (show 2 * x + k + 1 ≠ 2 * gb_oth p x + k + 1 by omega), zg_ne (a := (gb_go' p, gb_ro' p, 1, 2 * gb_oth p x + k + 1)) (show 2 * gb_oth p x + k + 1 ≠ 2 * x + k + 1 by omega), zg_eq (a := (gb_go' p, gb_ro' p, 1, 2 * gb_oth p x + k + 1)) rfl, zA_Z, zZ_A]
      exact zn_n (t := 1) kk (by decide)
    · rw [if_neg c]
      by_cases d : k = m
      · subst d
        have c1 : x = gb_oth p y := by omega
        have c2 : gb_oth p x = y := by omega
        rw [zg_ne (a := (gb_st' p, gb_ro' p, 0, 2 * x + k + 1)) (show 2 * x + k + 1 ≠ 2 * y + k + 1 by omega), zg_eq (a := (gb_st' p, gb_ro' p, 0, 2 * x + k + 1)) (show 2 * x + k + 1 = 2 * gb_oth p y + k + 1 by omega), zg_eq (a := (gb_go' p, gb_ro' p, 1, 2 * gb_oth p x + k + 1)) (show 2 * gb_oth p x + k + 1 = 2 * y + k + 1 by omega), zg_ne (a := (gb_go' p, gb_ro' p, 1, 2 * gb_oth p x + k + 1)) (show 2 * gb_oth p x + k + 1 ≠ 2 * gb_oth p y + k + 1 by omega), zA_Z, zZ_A]
        exact zn_c kk (Or.inl ⟨rfl, rfl⟩)
      · rw [zg_ne (a := (gb_st' p, gb_ro' p, 0, 2 * x + k + 1)) (show 2 * x + k + 1 ≠ 2 * y + m + 1 by omega), zg_ne (a := (gb_st' p, gb_ro' p, 0, 2 * x + k + 1)) (show 2 * x + k + 1 ≠ 2 * gb_oth p y + m + 1 by omega), zg_ne (a := (gb_go' p, gb_ro' p, 1, 2 * gb_oth p x + k + 1)) (show 2 * gb_oth p x + k + 1 ≠ 2 * y + m + 1 by omega), zg_ne (a := (gb_go' p, gb_ro' p, 1, 2 * gb_oth p x + k + 1)) (show 2 * gb_oth p x + k + 1 ≠ 2 * gb_oth p y + m + 1 by omega), zA_Z, zA_Z]
  · -- turn
    have kk : 1 ≤ p.2.2.2.1 ∧ p.2.2.2.1 ≤ 3 := by omega
    have hl : ∀ x k, gb_hl p x k = [(gb_st' p, gb_ro' p, 0, 2 * x + k + 1), (gb_go' p, gb_ro' p, 2 * k, 2 * x + (1 - k) + 1)] := fun x k => by unfold gb_hl; rw [if_neg (by omega), if_pos z]
    have xy : x = y := by omega
    subst xy
    rw [hl, hl, zLL_2]
    by_cases c : s = t
    · rw [if_pos c]
      have c2 : k = m := by omega
      subst c2
      rw [zg_eq (a := (gb_st' p, gb_ro' p, 0, 2 * x + k + 1)) rfl, zg_ne (a := (gb_st' p, gb_ro' p, 0, 2 * x + k + 1)) (show 2 * x + k + 1 ≠ 2 * x + (1 - k) + 1 by omega), zg_ne (a := (gb_go' p, gb_ro' p, 2 * k, 2 * x + (1 - k) + 1)) (show 2 * x + (1 - k) + 1 ≠ 2 * x + k + 1 by omega), zg_eq (a := (gb_go' p, gb_ro' p, 2 * k, 2 * x + (1 - k) + 1)) rfl, zA_Z, zZ_A]
      exact zn_n (t := 2 * k) kk (by omega)
    · rw [if_neg c]
      rw [zg_ne (a := (gb_st' p, gb_ro' p, 0, 2 * x + k + 1)) (show 2 * x + k + 1 ≠ 2 * x + m + 1 by omega), zg_eq (a := (gb_st' p, gb_ro' p, 0, 2 * x + k + 1)) (show 2 * x + k + 1 = 2 * x + (1 - m) + 1 by omega), zg_eq (a := (gb_go' p, gb_ro' p, 2 * k, 2 * x + (1 - k) + 1)) (show 2 * x + (1 - k) + 1 = 2 * x + m + 1 by omega), zg_ne (a := (gb_go' p, gb_ro' p, 2 * k, 2 * x + (1 - k) + 1)) (show 2 * x + (1 - k) + 1 ≠ 2 * x + (1 - m) + 1 by omega), zA_Z, zZ_A]
      exact zn_c (t := 2 * m) (u := 2 * k) kk (by omega)
  · -- shift
    have ba : gb_ba p = 1 := by unfold gb_ba; rw [if_pos (by omega)]
    have hl : ∀ x k, gb_hl p x k = [(1, 0, if p.2.2.2.2.1 = 2 ∨ p.2.2.2.2.1 = k then p.2.2.2.2.2.1 else 0, 2 * x + k + 1)] := fun x k => by unfold gb_hl; rw [if_neg (by omega), if_neg (by omega), if_pos z]
    have xy : x = y := by omega
    subst xy
    rw [hl, hl, zLL_1]
    by_cases c : s = t
    · rw [if_pos c]
      have c2 : k = m := by omega
      subst c2
      rw [zg_eq (a := (1, 0, if p.2.2.2.2.1 = 2 ∨ p.2.2.2.2.1 = k then p.2.2.2.2.2.1 else 0, 2 * x + k + 1)) rfl, ba]
      have b3 : (if p.2.2.2.2.1 = 2 ∨ p.2.2.2.2.1 = k then p.2.2.2.2.2.1 else 0) < 4 := by split <;> omega
      unfold zbr
      simp only
      generalize (if p.2.2.2.2.1 = 2 ∨ p.2.2.2.2.1 = k then p.2.2.2.2.2.1 else 0) = u at b3
      match u, b3 with
      | 0, _ => decide
      | 1, _ => decide
      | 2, _ => decide
      | 3, _ => decide
    · rw [if_neg c]
      exact zg_ne (show 2 * x + k + 1 ≠ 2 * x + m + 1 by omega)
  · -- swap
    have ba : gb_ba p = 1 := by unfold gb_ba; rw [if_pos (by omega)]
    have ne := (w11 (Or.inr z)).1
    have hl : ∀ x k, gb_hl p x k = [(1, 0, 0, 2 * gb_oth p x + k + 1)] := fun x k => by unfold gb_hl; rw [if_neg (by omega), if_neg (by omega), if_neg (by omega), if_pos z]
    have hx' : x = p.2.1 ∨ x = p.2.2.1 := by omega
    have hy' : y = p.2.1 ∨ y = p.2.2.1 := by omega
    have ox : gb_oth p x ≠ x ∧ (gb_oth p x = p.2.1 ∨ gb_oth p x = p.2.2.1) := by unfold gb_oth; split <;> omega
    have oy : gb_oth p y ≠ y ∧ (gb_oth p y = p.2.1 ∨ gb_oth p y = p.2.2.1) := by unfold gb_oth; split <;> omega
    rw [hl, hl, zLL_1]
    by_cases c : s = t
    · rw [if_pos c]
      have c1 : x = y := by omega
      have c2 : k = m := by omega
      subst c1; subst c2
      rw [zg_eq (a := (1, 0, 0, 2 * gb_oth p x + k + 1)) rfl, ba]
      rfl
    · rw [if_neg c]
      exact zg_ne (show 2 * gb_oth p x + k + 1 ≠ 2 * gb_oth p y + m + 1 by omega)
  · -- lose
    have kk : 1 ≤ p.2.2.2.1 ∧ p.2.2.2.1 ≤ 3 := by omega
    have hl : ∀ x k, gb_hl p x k = [(gb_st' p, gb_ro' p, 0, 2 * x + k + 1), (gb_go' p, gb_ro' p, 1, 2 * (5 + p.2.2.2.2.2.2.2.2) + k + 1)] := fun x k => by unfold gb_hl; rw [if_neg (by omega), if_neg (by omega), if_neg (by omega), if_neg (by omega)]
    have xy : x = y := by omega
    subst xy
    rw [hl, hl, zLL_2]
    by_cases c : s = t
    · rw [if_pos c]
      have c2 : k = m := by omega
      subst c2
      rw [zg_eq (a := (gb_st' p, gb_ro' p, 0, 2 * x + k + 1)) rfl, zg_ne (a := (gb_st' p, gb_ro' p, 0, 2 * x + k + 1)) (show 2 * x + k + 1 ≠ 2 * (5 + p.2.2.2.2.2.2.2.2) + k + 1 by omega), zg_ne (a := (gb_go' p, gb_ro' p, 1, 2 * (5 + p.2.2.2.2.2.2.2.2) + k + 1)) (show 2 * (5 + p.2.2.2.2.2.2.2.2) + k + 1 ≠ 2 * x + k + 1 by omega), zg_eq (a := (gb_go' p, gb_ro' p, 1, 2 * (5 + p.2.2.2.2.2.2.2.2) + k + 1)) rfl, zA_Z, zZ_A]
      exact zn_n (t := 1) kk (by decide)
    · rw [if_neg c]
      rw [zg_ne (a := (gb_st' p, gb_ro' p, 0, 2 * x + k + 1)) (show 2 * x + k + 1 ≠ 2 * x + m + 1 by omega), zg_ne (a := (gb_st' p, gb_ro' p, 0, 2 * x + k + 1)) (show 2 * x + k + 1 ≠ 2 * (5 + p.2.2.2.2.2.2.2.2) + m + 1 by omega), zg_ne (a := (gb_go' p, gb_ro' p, 1, 2 * (5 + p.2.2.2.2.2.2.2.2) + k + 1)) (show 2 * (5 + p.2.2.2.2.2.2.2.2) + k + 1 ≠ 2 * x + m + 1 by omega), zg_ne (a := (gb_go' p, gb_ro' p, 1, 2 * (5 + p.2.2.2.2.2.2.2.2) + k + 1)) (show 2 * (5 + p.2.2.2.2.2.2.2.2) + k + 1 ≠ 2 * (5 + p.2.2.2.2.2.2.2.2) + m + 1 by omega), zA_Z, zA_Z]
/-- one part keeps the sizes of one grain -/
theorem zSS_e (hw : gb_wp cs ls p) (h5 : p.1 ≠ 5) (l3 : ls ≤ 3) (hs : s < 11 + 2 * ls) (ht : t < 11 + 2 * ls) : zSS p s t = zRS p s t := by
  by_cases s0 : s = 0
  · subst s0
    by_cases t0 : t = 0
    · subst t0
      unfold zSS zRS zbb
      rw [if_pos rfl, if_pos rfl, show gb_tb p 2 0 = [(1, 0, 0, 0)] from rfl, zLL_1]
      decide
    · unfold zRS
      rw [if_neg (fun z => t0 z.symm)]
      refine zLL_0 (fun a ha b hb => ?_)
      rw [(gb_tb_z ha)]
      have := (gb_tb_n hw (show 1 ≤ t by omega) ht l3 b hb).1
      simp only
      omega
  · by_cases t0 : t = 0
    · subst t0
      unfold zRS
      rw [if_neg s0]
      refine zLL_0 (fun a ha b hb => ?_)
      rw [(gb_tb_z hb)]
      have := (gb_tb_n hw (show 1 ≤ s by omega) hs l3 a ha).1
      simp only
      omega
    · by_cases hs' : gb_hit p ((s - 1) / 2) = true
      · by_cases ht' : gb_hit p ((t - 1) / 2) = true
        · exact zSS_hh hw h5 hs' s0 ht' t0 hs ht
        · unfold zRS zSS
          rw [if_neg (fun z : s = t => ht' (z ▸ hs')), zmiss ht' t0]
          refine zLL_0 (fun a ha b hb => ?_)
          rw [List.mem_singleton.mp hb]
          exact zhit_t hw hs' s0 ht ht' a ha
      · by_cases ht' : gb_hit p ((t - 1) / 2) = true
        · unfold zRS zSS
          rw [if_neg (fun z : s = t => hs' (z ▸ ht')), zmiss hs' s0]
          refine zLL_0 (fun a ha b hb => ?_)
          rw [List.mem_singleton.mp ha]
          exact fun z => zhit_t hw ht' t0 hs hs' b hb z.symm
        · unfold zRS zSS zbb
          rw [zmiss hs' s0, zmiss ht' t0, zLL_1, if_neg s0]
          by_cases c : s = t
          · subst c
            rw [if_pos rfl, zg_eq (a := (gb_ba p, 0, 0, s)) rfl]
            unfold gb_ba
            split
            · rfl
            · split <;> rfl
          · rw [if_neg c]
            exact zg_ne c
end UNIT
