section UNITS
variable {p : gb_P} {ps : List gb_P} {cs ls g k k' k0 s : Nat} {F G : Nat → zq}
theorem zl2_ad (hw : gb_wp cs ls p) (l3 : ls ≤ 3) (hk : zk_ad g ls k) {e : zq × Nat} (he : e ∈ zl2 p k) : zk_ad g (gb_nl ls p) e.2 := by
  unfold zl2 at he
  split at he
  · obtain ⟨ex, hx, he⟩ := List.mem_flatMap.mp he
    obtain ⟨ey, hy, he⟩ := List.mem_flatMap.mp he
    obtain ⟨ez, hz, he⟩ := List.mem_map.mp he
    rw [← he]
    exact zk_ad_t hw l3 hk hx hy hz
  · rw [List.mem_singleton.mp he]
    exact ⟨hk.1, hk.2.1, by have := hk.2.2; have := gb_nl_le ls p; show k / 1024 < _; omega⟩
theorem zLs_pt (a : Nat) (v : zq) : ∀ n, zLs (List.range n) (fun w => if w = a then v else zZ) = if a < n then v else zZ
  | 0 => by rw [if_neg (by omega)]; rfl
  | n + 1 => by
    rw [List.range_succ, zLs_app, zLs_pt a v n]
    show zA _ (zA (if n = a then v else zZ) zZ) = _
    rw [zA_Z]
    by_cases e : n = a
    · rw [if_neg (by omega), if_pos e, zZ_A, if_pos (by omega)]
    · rw [if_neg e, zA_Z]
      by_cases q : a < n
      · rw [if_pos q, if_pos (by omega)]
      · rw [if_neg q, if_neg (by omega)]
/-- the sizes of two products behind a bench against each other -/
def zHt (ps : List gb_P) (k k' K : Nat) : zq := zM ((zod K : Nat), 0, 0, 0) (zM (zN ps k K) (zJ (zN ps k' K)))
def zH (g : Nat) (ps : List gb_P) (k k' : Nat) : zq := zLs (List.range (16 ^ g)) (fun w => if gw_so g w = true then zHt ps k k' (gw_k g w) else zZ)
def zD (g : Nat) : List gb_P → Nat
  | [] => 1
  | p :: ps => gb_ba p ^ g * zD g ps
theorem zN_nil (k K : Nat) : zN [] k K = if k = K then z1 else zZ := rfl
theorem zH_nil (g3 : g ≤ 3) (hk : zk_ad g 3 k) : zH g [] k k' = zdo k k' := by
  have e : zH g [] k k' = zLs (List.range (16 ^ g)) (fun w => if w = gk_w g k then zdo k k' else zZ) := by
    unfold zH
    refine zLs_congr _ (fun w hw => ?_)
    have hw' := List.mem_range.mp hw
    unfold zHt
    rw [zN_nil, zN_nil]
    by_cases a : w = gk_w g k
    · obtain ⟨q1, q2, q3⟩ := gw_k_so g3 hk
      rw [if_pos a, a, if_pos q2, q3, if_pos rfl, zM_1]
      unfold zdo
      by_cases b : k' = k
      · rw [if_pos b, if_pos b.symm, show zJ z1 = z1 from rfl, zM_1']
      · rw [if_neg b, if_neg (fun z => b z.symm), show zJ zZ = zZ from rfl, zM_Z]
    · rw [if_neg a]
      by_cases b : gw_so g w = true
      · rw [if_pos b, if_neg (fun z : k = gw_k g w => a (by rw [z, gw_so_k g3 hw' b])), zZ_M, zM_Z]
      · rw [if_neg b]
  rw [e, zLs_pt, if_pos (gw_k_so g3 hk).1]
theorem zN_5 (h5 : p.1 = 5) (k K : Nat) : zN (p :: ps) k K = zN ps k K := by
  unfold zN
  show (if p.1 = 5 then zops ps (zpt K) else zop p (zops ps (zpt K))) k = _
  rw [if_pos h5]
theorem zN_c' (h5 : p.1 ≠ 5) (k K : Nat) : zN (p :: ps) k K = zLs (zl2 p k) (fun e => zM e.1 (zN ps e.2 K)) := by
  unfold zN
  show (if p.1 = 5 then zops ps (zpt K) else zop p (zops ps (zpt K))) k = _
  rw [if_neg h5, zop_l2]
theorem zHt_c (h5 : p.1 ≠ 5) (k k' K : Nat) : zHt (p :: ps) k k' K = zLs (zl2 p k) (fun e => zLs (zl2 p k') (fun e' => zM e.1 (zM (zJ e'.1) (zHt ps e.2 e'.2 K)))) := by
  have r : ∀ (o a n b m : zq), zM o (zM (zM a n) (zM b m)) = zM a (zM b (zM o (zM n m))) := fun o a n b m => by
    rw [zM_4, zM_12 o, zM_assoc]
  unfold zHt
  rw [zN_c' h5, zN_c' h5, zJ_Ls, ← zLs_M', ← zLs_M]
  refine zLs_congr _ (fun e _ => ?_)
  rw [← zLs_M, ← zLs_M]
  refine zLs_congr _ (fun e' _ => ?_)
  rw [zJ_M, r]
theorem zH_c (h5 : p.1 ≠ 5) (k k' : Nat) : zH g (p :: ps) k k' = zLs (zl2 p k) (fun e => zLs (zl2 p k') (fun e' => zM e.1 (zM (zJ e'.1) (zH g ps e.2 e'.2)))) := by
  unfold zH
  have e1 : ∀ w, (if gw_so g w = true then zHt (p :: ps) k k' (gw_k g w) else zZ) = zLs (zl2 p k) (fun e => zLs (zl2 p k') (fun e' => zM e.1 (zM (zJ e'.1) (if gw_so g w = true then zHt ps e.2 e'.2 (gw_k g w) else zZ)))) := fun w => by
    by_cases a : gw_so g w = true
    · rw [if_pos a, zHt_c h5]
      simp only [a, if_true]
    · rw [if_neg a]
      refine (zLs_z _ (fun e _ => zLs_z _ (fun e' _ => ?_))).symm
      rw [if_neg a, zM_Z, zM_Z]
  rw [zLs_congr _ (fun w _ => e1 w), zLs_swap]
  refine zLs_congr _ (fun e _ => ?_)
  rw [zLs_swap]
  refine zLs_congr _ (fun e' _ => ?_)
  rw [zLs_M, zLs_M]
theorem zH_e (g3 : g ≤ 3) : ∀ {ps : List gb_P} {cs ls k k' : Nat}, gb_wl cs ls ps → ls ≤ 3 → zk_ad g ls k → zk_ad g ls k' → zH g ps k k' = zM (zb ((zD g ps * zD g ps : Nat) : Int) 0 0) (zdo k k')
  | [], cs, ls, k, k', _, l3, hk, hk' => by
    rw [zH_nil g3 ⟨hk.1, hk.2.1, by have := hk.2.2; omega⟩]
    show _ = zM (zb ((1 * 1 : Nat) : Int) 0 0) (zdo k k')
    rw [show zb ((1 * 1 : Nat) : Int) 0 0 = z1 from rfl, zM_1]
  | p :: ps, cs, ls, k, k', hw, l3, hk, hk' => by
    have nl := gb_nl_le ls p
    by_cases h5 : p.1 = 5
    · have ba : gb_ba p = 1 := by
        unfold gb_ba
        rw [if_pos (hw.1.2.2.2.2.2.1.mpr (Or.inr (Or.inr h5)))]
      have d : zD g (p :: ps) = zD g ps := by
        show gb_ba p ^ g * zD g ps = _
        rw [ba, Nat.one_pow, Nat.one_mul]
      rw [d, ← zH_e g3 hw.2 (gb_nl_3 hw.1 l3) ⟨hk.1, hk.2.1, by have := hk.2.2; omega⟩ ⟨hk'.1, hk'.2.1, by have := hk'.2.2; omega⟩]
      unfold zH zHt
      simp only [zN_5 h5]
    · rw [zH_c h5]
      have e1 : zLs (zl2 p k) (fun e => zLs (zl2 p k') (fun e' => zM e.1 (zM (zJ e'.1) (zH g ps e.2 e'.2)))) = zLs (zl2 p k) (fun e => zLs (zl2 p k') (fun e' => zM (zb ((zD g ps * zD g ps : Nat) : Int) 0 0) (zM e.1 (zM (zJ e'.1) (zdo e.2 e'.2))))) := by
        refine zLs_congr _ (fun e he => zLs_congr _ (fun e' he' => ?_))
        rw [zH_e g3 hw.2 (gb_nl_3 hw.1 l3) (zl2_ad hw.1 l3 hk he) (zl2_ad hw.1 l3 hk' he')]
        rw [zM_12 (zJ e'.1), zM_12 e.1]
      have e2 : zLs (zl2 p k) (fun e => zLs (zl2 p k') (fun e' => zM (zb ((zD g ps * zD g ps : Nat) : Int) 0 0) (zM e.1 (zM (zJ e'.1) (zdo e.2 e'.2))))) = zM (zb ((zD g ps * zD g ps : Nat) : Int) 0 0) (zLs (zl2 p k) (fun e => zLs (zl2 p k') (fun e' => zM e.1 (zM (zJ e'.1) (zdo e.2 e'.2))))) := by
        rw [← zLs_M]
        exact zLs_congr _ (fun e _ => zLs_M _ _ _)
      rw [e1, e2]
      rw [zst hw.1 h5 l3 hk hk', ← zM_assoc, zb_M, ← Int.natCast_mul]
      congr 3
      show _ = gb_ba p ^ g * zD g ps * (gb_ba p ^ g * zD g ps)
      generalize gb_ba p ^ g = a
      generalize zD g ps = b
      grind
theorem zLs_1 (f : Nat → zq) : ∀ n, (zLs (List.range n) f).1 = iS n (fun w => (f w).1) ∧ (zLs (List.range n) f).2.1 = iS n (fun w => (f w).2.1)
  | 0 => ⟨rfl, rfl⟩
  | n + 1 => by
    have ih := zLs_1 f n
    rw [List.range_succ, zLs_app]
    show (zA _ (zA (f n) zZ)).1 = iS n _ + (f n).1 ∧ (zA _ (zA (f n) zZ)).2.1 = iS n _ + (f n).2.1
    rw [zA_Z]
    exact ⟨by rw [← ih.1]; rfl, by rw [← ih.2]; rfl⟩
theorem iS_congr {f h : Nat → Int} : ∀ n, (∀ i, i < n → f i = h i) → iS n f = iS n h
  | 0, _ => rfl
  | n + 1, e => by rw [iS, iS, iS_congr n (fun i hi => e i (by omega)), e n (by omega)]
theorem iS_mul (s : Int) (f : Nat → Int) : ∀ n, iS n (fun i => s * f i) = s * iS n f
  | 0 => by show (0 : Int) = s * 0; omega
  | n + 1 => by rw [iS, iS, iS_mul s f n, Int.mul_add]
theorem zN_sq (d : Int) (x : zq) : (zM (d, 0, 0, 0) (zM x (zJ x))).1 = d * zU x ∧ (zM (d, 0, 0, 0) (zM x (zJ x))).2.1 = d * zV x := by
  simp only [zM, zJ, zU, zV]
  constructor <;> grind
/-- all odds together are one -/
theorem pU_all (g3 : g ≤ 3) (hw : gb_wl cs ls ps) (l3 : ls ≤ 3) (hk : zk_ad g ls k0) : pU g ps k0 (fun _ => true) = ((zD g ps * zD g ps * gb_od k0 : Nat) : Int) ∧ pV g ps k0 (fun _ => true) = 0 := by
  have h := zH_e g3 hw l3 hk hk
  have w0 : (0 : Int) < (zwt g : Nat) := by unfold zwt; split <;> (try split) <;> decide
  have l1 := (zLs_1 (fun w => if gw_so g w = true then zHt ps k0 k0 (gw_k g w) else zZ) (16 ^ g)).1
  have l2 := (zLs_1 (fun w => if gw_so g w = true then zHt ps k0 k0 (gw_k g w) else zZ) (16 ^ g)).2
  have e1 : iS (16 ^ g) (fun w => (if gw_so g w = true then zHt ps k0 k0 (gw_k g w) else zZ).1) = (zwt g : Nat) * pU g ps k0 (fun _ => true) := by
    unfold pU
    rw [← iS_mul]
    refine iS_congr _ (fun w hw' => ?_)
    by_cases a : gw_so g w = true
    · rw [if_pos a, if_pos ⟨a, rfl⟩]
      unfold zHt
      rw [(zN_sq _ _).1, zod_od (gw_k_ad g3).1 (gw_k_ad g3).2.1]
      push_cast
      grind
    · rw [if_neg a, if_neg (fun z => a z.1)]
      show (0 : Int) = _
      omega
  have e2 : iS (16 ^ g) (fun w => (if gw_so g w = true then zHt ps k0 k0 (gw_k g w) else zZ).2.1) = (zwt g : Nat) * pV g ps k0 (fun _ => true) := by
    unfold pV
    rw [← iS_mul]
    refine iS_congr _ (fun w hw' => ?_)
    by_cases a : gw_so g w = true
    · rw [if_pos a, if_pos ⟨a, rfl⟩]
      unfold zHt
      rw [(zN_sq _ _).2, zod_od (gw_k_ad g3).1 (gw_k_ad g3).2.1]
      push_cast
      grind
    · rw [if_neg a, if_neg (fun z => a z.1)]
      show (0 : Int) = _
      omega
  unfold zH at h
  rw [h] at l1 l2
  rw [e1] at l1
  rw [e2] at l2
  have z1' : (zM (zb ((zD g ps * zD g ps : Nat) : Int) 0 0) (zdo k0 k0)).1 = ((zD g ps * zD g ps : Nat) : Int) * (zod k0 : Nat) ∧ (zM (zb ((zD g ps * zD g ps : Nat) : Int) 0 0) (zdo k0 k0)).2.1 = 0 := by
    unfold zdo zb
    rw [if_pos rfl]
    simp [zM, zS, zRn, zIn, z1]
  rw [z1'.1, zod_od hk.1 hk.2.1] at l1
  rw [z1'.2] at l2
  constructor
  · have : (zwt g : Int) * pU g ps k0 (fun _ => true) = (zwt g : Int) * ((zD g ps * zD g ps * gb_od k0 : Nat) : Int) := by
      rw [← l1]
      push_cast
      grind
    exact Int.eq_of_mul_eq_mul_left (by omega) this
  · rcases Int.mul_eq_zero.mp l2.symm with z | z
    · omega
    · exact z
end UNITS
