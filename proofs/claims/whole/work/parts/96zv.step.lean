section STEP
variable {p : gb_P} {ps : List gb_P} {cs ls g k k' s : Nat} {F G : Nat → zq}
/-- the products that a part makes of a product, with their factors -/
def zl2 (p : gb_P) (k : Nat) : List (zq × Nat) := if gb_ac p k = true then (gb_tb p 2 (k % 32)).flatMap (fun ex => (gb_tb p 2 (k / 32 % 32)).flatMap (fun ey => (gb_tb p 2 (k / 1024)).map (fun ez => (t3 (zbr ex) (zbr ey) (zbr ez), gb_ky ex.2.2.2 ey.2.2.2 ez.2.2.2)))) else [(zb (zid p k : Nat) 0 0, k)]
theorem zl2_a (h : gb_ac p k = true) (f : zq × Nat → zq) : zLs (zl2 p k) f = S3 (gb_tb p 2 (k % 32)) (gb_tb p 2 (k / 32 % 32)) (gb_tb p 2 (k / 1024)) (fun ex ey ez => f (t3 (zbr ex) (zbr ey) (zbr ez), gb_ky ex.2.2.2 ey.2.2.2 ez.2.2.2)) := by
  unfold zl2 S3
  rw [if_pos h, zLs_fm]
  refine zLs_congr _ (fun a _ => ?_)
  rw [zLs_fm]
  refine zLs_congr _ (fun b _ => ?_)
  rw [zLs_map]
theorem zl2_n (h : ¬ gb_ac p k = true) (f : zq × Nat → zq) : zLs (zl2 p k) f = f (zb (zid p k : Nat) 0 0, k) := by
  unfold zl2
  rw [if_neg h]
  exact zA_Z _
theorem zop_l2 : zop p F k = zLs (zl2 p k) (fun e => zM e.1 (F e.2)) := by
  unfold zop
  by_cases a : gb_ac p k = true
  · rw [if_pos a, zl2_a a]
    unfold zG S3
    refine zLs_congr _ (fun ex _ => zLs_congr _ (fun ey _ => zLs_congr _ (fun ez _ => ?_)))
    unfold zC
    rw [zbr_3]
  · rw [if_neg a, zl2_n a]
theorem zid_g (h : zk_nz k = g) : zid p k = gb_ba p ^ g := by
  subst h
  unfold zid zk_nz
  by_cases a : k % 32 = 0 <;> by_cases b : k / 32 % 32 = 0 <;> by_cases c : k / 1024 = 0 <;> simp [a, b, c, Nat.pow_succ]
theorem zb_t3 (a b c : Nat) : t3 (zb (a : Int) 0 0) (zb (b : Int) 0 0) (zb (c : Int) 0 0) = zb ((a * b * c : Nat) : Int) 0 0 := by
  unfold t3
  rw [zb_M, zb_M, ← Int.natCast_mul, ← Int.natCast_mul, Nat.mul_assoc]
theorem zbb_3 (h : zk_nz k = g) : t3 (zbb p (k % 32)) (zbb p (k / 32 % 32)) (zbb p (k / 1024)) = zb ((gb_ba p ^ g * gb_ba p ^ g : Nat) : Int) 0 0 := by
  rw [← zid_g (p := p) h]
  unfold zbb zid
  rw [zb_t3]
  congr 2
  generalize (if k % 32 = 0 then 1 else gb_ba p) = a
  generalize (if k / 32 % 32 = 0 then 1 else gb_ba p) = b
  generalize (if k / 1024 = 0 then 1 else gb_ba p) = c
  grind
theorem zg_per (a b c u v w : gb_br) : zM (t3 (zbr a) (zbr b) (zbr c)) (zM (zJ (t3 (zbr u) (zbr v) (zbr w))) (zper (fun (a u : gb_br) => zdl a.2.2.2 u.2.2.2) a b c u v w)) = zper zg a b c u v w := by
  have e : ∀ u v w : gb_br, zM (t3 (zbr a) (zbr b) (zbr c)) (zM (t3 (zJ (zbr u)) (zJ (zbr v)) (zJ (zbr w))) (t3 (zdl a.2.2.2 u.2.2.2) (zdl b.2.2.2 v.2.2.2) (zdl c.2.2.2 w.2.2.2))) = t3 (zg a u) (zg b v) (zg c w) := fun u v w => by
    rw [t3_M, t3_M]
    rfl
  unfold zper
  rw [zJ_t3]
  simp only [zM_A]
  rw [← e u v w, ← e u w v, ← e v u w, ← e v w u, ← e w u v, ← e w v u]
  rw [t3_23 (zJ (zbr u)) (zJ (zbr w)) (zJ (zbr v)), t3_12 (zJ (zbr v)) (zJ (zbr u)) (zJ (zbr w)), t3_23 (zJ (zbr v)) (zJ (zbr w)) (zJ (zbr u)), t3_12 (zJ (zbr v)) (zJ (zbr u)) (zJ (zbr w)), t3_12 (zJ (zbr w)) (zJ (zbr u)) (zJ (zbr v)), t3_23 (zJ (zbr u)) (zJ (zbr w)) (zJ (zbr v)), t3_12 (zJ (zbr w)) (zJ (zbr v)) (zJ (zbr u)), t3_23 (zJ (zbr v)) (zJ (zbr w)) (zJ (zbr u)), t3_12 (zJ (zbr v)) (zJ (zbr u)) (zJ (zbr w))]
theorem zper_congr {α β : Type} {f h : α → β → zq} {x y z : α} {u v w : β} (e : ∀ a, (a = x ∨ a = y ∨ a = z) → ∀ b, (b = u ∨ b = v ∨ b = w) → f a b = h a b) : zper f x y z u v w = zper h x y z u v w := by
  unfold zper
  rw [e x (by simp) u (by simp), e x (by simp) v (by simp), e x (by simp) w (by simp), e y (by simp) u (by simp), e y (by simp) v (by simp), e y (by simp) w (by simp), e z (by simp) u (by simp), e z (by simp) v (by simp), e z (by simp) w (by simp)]
theorem zper_M {α β : Type} (h : α → zq) (f : α → β → zq) (x y z : α) (u v w : β) : zper (fun a b => zM (h a) (f a b)) x y z u v w = zM (t3 (h x) (h y) (h z)) (zper f x y z u v w) := by
  unfold zper
  simp only [← t3_M, ← zM_A]
theorem zRS_M (p : gb_P) (s t : Nat) : zRS p s t = zM (zbb p s) (zdl s t) := by
  unfold zRS zdl
  by_cases e : s = t
  · rw [if_pos e, if_pos e, zM_1']
  · rw [if_neg e, if_neg e, zM_Z]
/-- both products are acted on -/
theorem zst_a (hw : gb_wp cs ls p) (h5 : p.1 ≠ 5) (l3 : ls ≤ 3) (hk : zk_ad g ls k) (hk' : zk_ad g ls k') (a : gb_ac p k = true) (a' : gb_ac p k' = true) :
    zLs (zl2 p k) (fun e => zLs (zl2 p k') (fun e' => zM e.1 (zM (zJ e'.1) (zdo e.2 e'.2)))) = zM (zb ((gb_ba p ^ g * gb_ba p ^ g : Nat) : Int) 0 0) (zdo k k') := by
  obtain ⟨s1, s2, s3⟩ := hk
  obtain ⟨s1', s2', s3'⟩ := hk'
  have q := s1
  have q' := s1'
  unfold gb_sk at q q'
  rw [zl2_a a]
  have e1 : S3 (gb_tb p 2 (k % 32)) (gb_tb p 2 (k / 32 % 32)) (gb_tb p 2 (k / 1024)) (fun ex ey ez => zLs (zl2 p k') (fun e' => zM (t3 (zbr ex) (zbr ey) (zbr ez)) (zM (zJ e'.1) (zdo (gb_ky ex.2.2.2 ey.2.2.2 ez.2.2.2) e'.2)))) =
      S3 (gb_tb p 2 (k % 32)) (gb_tb p 2 (k / 32 % 32)) (gb_tb p 2 (k / 1024)) (fun ex ey ez => S3 (gb_tb p 2 (k' % 32)) (gb_tb p 2 (k' / 32 % 32)) (gb_tb p 2 (k' / 1024)) (fun u v w => zper zg ex ey ez u v w)) := by
    refine S3_congr (fun ex hx ey hy ez hz => ?_)
    rw [zl2_a a']
    refine S3_congr (fun u hu v hv w hww => ?_)
    rw [← zper_ky (zk_tg hw l3 (by omega) hx).2.1 (zk_tg hw l3 (by omega) hy).2.1 (zk_tg hw l3 (by omega) hz).2.1 (zk_tg hw l3 (by omega) hu).2.1 (zk_tg hw l3 (by omega) hv).2.1 (zk_tg hw l3 (by omega) hww).2.1]
    exact zg_per ex ey ez u v w
  refine e1.trans ?_
  rw [zper_S]
  show zper (fun s t => zSS p s t) (k % 32) (k / 32 % 32) (k / 1024) (k' % 32) (k' / 32 % 32) (k' / 1024) = _
  rw [zper_congr (h := fun s t => zM (zbb p s) (zdl s t)) (fun s hs t ht => by
    rw [← zRS_M]
    exact zSS_e hw h5 l3 (by omega) (by omega)), zper_M, zbb_3 s2, zper_so s1 s1']
theorem zb_J (n : Nat) : zJ (zb (n : Int) 0 0) = zb (n : Int) 0 0 := by
  unfold zb
  apply z_ext <;> simp [zJ, zS, zRn, zIn, z1]
/-- no product is acted on -/
theorem zst_n (hk : zk_ad g ls k) (hk' : zk_ad g ls k') (a : ¬ gb_ac p k = true) (a' : ¬ gb_ac p k' = true) :
    zLs (zl2 p k) (fun e => zLs (zl2 p k') (fun e' => zM e.1 (zM (zJ e'.1) (zdo e.2 e'.2)))) = zM (zb ((gb_ba p ^ g * gb_ba p ^ g : Nat) : Int) 0 0) (zdo k k') := by
  rw [zl2_n a, zl2_n a']
  simp only
  rw [zb_J, ← zM_assoc, zb_M, zid_g hk.2.1, zid_g hk'.2.1, ← Int.natCast_mul]
/-- a part keeps the path that it waits for -/
theorem ztg_pa (hw : gb_wp cs ls p) (hp : p.2.2.2.2.2.2.1 < 5) (hs : s < 17) {e : gb_br} (he : e ∈ gb_tb p 2 s) : gb_pa e.2.2.2 = p.2.2.2.2.2.2.1 + 1 ↔ gb_pa s = p.2.2.2.2.2.2.1 + 1 := by
  obtain ⟨p1, f, x, kd, a, b, c, d, l⟩ := p
  obtain ⟨⟨w1, w2, w3, w4, w5, w6, w7, w8, w9⟩, w10, w11, w12, w13, w14, w15⟩ := hw
  simp only at *
  have cf : c ≠ f := fun z => by subst z; have := w12 hp; omega
  have cx : (p1 = 0 ∨ p1 = 3) → c ≠ x := fun h z => by subst z; have := w12 hp; have := (w11 h).2; omega
  have n4 : ¬ (p1 = 4 ∨ p1 = 5) := fun h => by have := w15 h; omega
  unfold gb_tb at he
  split at he
  · next z =>
    subst z
    rw [List.mem_singleton.mp he]
  · next z =>
    split at he
    · next hh =>
      have hit := hh.2
      unfold gb_hit at hit
      have hit' := of_decide_eq_true hit
      simp only at hit'
      have y5 : (s - 1) / 2 < 5 := by omega
      have yc : (s - 1) / 2 ≠ c := by
        rcases hit' with ⟨h1, h2⟩ | ⟨h1, h2⟩
        · have := cx h1; omega
        · omega
      have pas : gb_pa s = (s - 1) / 2 + 1 := by unfold gb_pa; rw [if_neg (by omega)]; omega
      have pat : ∀ m y, y < 5 → m < 2 → gb_pa (2 * y + m + 1) = y + 1 := fun m y hy hm => by unfold gb_pa; rw [if_neg (by omega)]; omega
      have oc : (p1 = 0 ∨ p1 = 3) → gb_oth (p1, f, x, kd, a, b, c, d, l) ((s - 1) / 2) ≠ c ∧ gb_oth (p1, f, x, kd, a, b, c, d, l) ((s - 1) / 2) < 5 := fun h => by
        have := cx h
        unfold gb_oth
        simp only
        split <;> omega
      have m2 : (s - 1) % 2 < 2 := by omega
      have fin : ∀ t, (∃ y m, t = 2 * y + m + 1 ∧ y < 5 ∧ m < 2 ∧ y ≠ c) → (gb_pa t = c + 1 ↔ gb_pa s = c + 1) := fun t ⟨y, m, h1, h2, h3, h4⟩ => by
        rw [h1, pat m y h2 h3, pas]
        omega
      unfold gb_hl at he
      simp only at he
      split at he
      · next z0 =>
        simp only [List.mem_cons, List.not_mem_nil, or_false] at he
        rcases he with q | q <;> subst q
        · exact fin _ ⟨_, _, rfl, y5, m2, yc⟩
        · exact fin _ ⟨_, _, rfl, (oc (Or.inl z0)).2, m2, (oc (Or.inl z0)).1⟩
      · split at he
        · simp only [List.mem_cons, List.not_mem_nil, or_false] at he
          rcases he with q | q <;> subst q
          · exact fin _ ⟨_, _, rfl, y5, m2, yc⟩
          · exact fin _ ⟨_, _, rfl, y5, by omega, yc⟩
        · split at he
          · simp only [List.mem_cons, List.not_mem_nil, or_false] at he
            subst he
            exact fin _ ⟨_, _, rfl, y5, m2, yc⟩
          · split at he
            · next z3 =>
              simp only [List.mem_cons, List.not_mem_nil, or_false] at he
              subst he
              exact fin _ ⟨_, _, rfl, (oc (Or.inr z3)).2, m2, (oc (Or.inr z3)).1⟩
            · exact absurd (show p1 = 4 ∨ p1 = 5 by omega) n4
    · rw [List.mem_singleton.mp he]
theorem ztg_gi (hw : gb_wp cs ls p) (hp : p.2.2.2.2.2.2.1 < 5) (l3 : ls ≤ 3) (hk : zk_ad g ls k) {ex ey ez : gb_br} (hx : ex ∈ gb_tb p 2 (k % 32)) (hy : ey ∈ gb_tb p 2 (k / 32 % 32)) (hz : ez ∈ gb_tb p 2 (k / 1024)) : gb_gi (gb_ky ex.2.2.2 ey.2.2.2 ez.2.2.2) (p.2.2.2.2.2.2.1 + 1) = gb_gi k (p.2.2.2.2.2.2.1 + 1) := by
  obtain ⟨s1, s2, s3⟩ := hk
  have q := s1
  unfold gb_sk at q
  rw [gb_gi_ky (zk_tg hw l3 (by omega) hx).2.1 (zk_tg hw l3 (by omega) hy).2.1 (zk_tg hw l3 (by omega) hz).2.1]
  unfold gb_gi
  simp only [ztg_pa hw hp (show k % 32 < 17 by omega) hx, ztg_pa hw hp (show k / 32 % 32 < 17 by omega) hy, ztg_pa hw hp (show k / 1024 < 17 by omega) hz]
/-- one is acted on, the other is not: they never meet -/
theorem zst_m (hw : gb_wp cs ls p) (l3 : ls ≤ 3) (hk : zk_ad g ls k) (a : gb_ac p k = true) (a' : ¬ gb_ac p k' = true) (e : zq × Nat) (he : e ∈ zl2 p k) : e.2 ≠ k' := by
  intro q
  have w5 : p.2.2.2.2.2.2.1 < 5 := by
    have := hw.1.2.2.2.2.2.2.1
    rcases Nat.lt_or_ge p.2.2.2.2.2.2.1 5 with z | z
    · exact z
    · exact absurd (show gb_ac p k' = true from decide_eq_true (Or.inl (by omega))) a'
  have ge : gb_gi e.2 (p.2.2.2.2.2.2.1 + 1) = gb_gi k (p.2.2.2.2.2.2.1 + 1) := by
    unfold zl2 at he
    rw [if_pos a] at he
    obtain ⟨ex, hx, he⟩ := List.mem_flatMap.mp he
    obtain ⟨ey, hy, he⟩ := List.mem_flatMap.mp he
    obtain ⟨ez, hz, he⟩ := List.mem_map.mp he
    rw [← he]
    exact ztg_gi hw w5 l3 hk hx hy hz
  have c := of_decide_eq_true a
  rcases c with c | c
  · omega
  · refine a' (decide_eq_true (Or.inr ?_))
    rw [← q, ge, c]
theorem zdo_n (h : k ≠ k') : zdo k k' = zZ := if_neg h
theorem zLs_z {α : Type} {f : α → zq} (l : List α) (h : ∀ a ∈ l, f a = zZ) : zLs l f = zZ := by
  rw [zLs_congr l h, zLs_0]
/-- one part keeps the sizes -/
theorem zst (hw : gb_wp cs ls p) (h5 : p.1 ≠ 5) (l3 : ls ≤ 3) (hk : zk_ad g ls k) (hk' : zk_ad g ls k') :
    zLs (zl2 p k) (fun e => zLs (zl2 p k') (fun e' => zM e.1 (zM (zJ e'.1) (zdo e.2 e'.2)))) = zM (zb ((gb_ba p ^ g * gb_ba p ^ g : Nat) : Int) 0 0) (zdo k k') := by
  by_cases a : gb_ac p k = true
  · by_cases a' : gb_ac p k' = true
    · exact zst_a hw h5 l3 hk hk' a a'
    · rw [zdo_n (k := k) (k' := k') (fun z => a' (z ▸ a)), zM_Z]
      refine zLs_z _ (fun e he => ?_)
      rw [zl2_n a', zdo_n (zst_m hw l3 hk a a' e he), zM_Z, zM_Z]
  · by_cases a' : gb_ac p k' = true
    · rw [zdo_n (k := k) (k' := k') (fun z => a (z ▸ a')), zM_Z, zl2_n a]
      refine zLs_z _ (fun e he => ?_)
      rw [zdo_n (k := k) (fun z => zst_m hw l3 hk' a' a e he z.symm), zM_Z, zM_Z]
    · exact zst_n hk hk' a a'
end STEP
