section LAST
variable {p : gb_P} {ps qs : List gb_P} {cs ls g k k' k0 s : Nat} {F G : Nat → zq} {P : Nat → Bool}
/-- as zH, for some products -/
def zHP (P : Nat → Bool) (g : Nat) (ps : List gb_P) (k k' : Nat) : zq := zLs (List.range (16 ^ g)) (fun w => if gw_so g w = true ∧ P (gw_k g w) = true then zHt ps k k' (gw_k g w) else zZ)
theorem zHP_nil (g3 : g ≤ 3) (hk : zk_ad g 3 k) : zHP P g [] k k' = if P k = true then zdo k k' else zZ := by
  have e : zHP P g [] k k' = zLs (List.range (16 ^ g)) (fun w => if w = gk_w g k then (if P k = true then zdo k k' else zZ) else zZ) := by
    unfold zHP
    refine zLs_congr _ (fun w hw => ?_)
    have hw' := List.mem_range.mp hw
    unfold zHt
    rw [zN_nil, zN_nil]
    by_cases a : w = gk_w g k
    · obtain ⟨q1, q2, q3⟩ := gw_k_so g3 hk
      rw [if_pos a, a, q3]
      by_cases pk : P k = true
      · rw [if_pos ⟨q2, pk⟩, if_pos pk, if_pos rfl, zM_1]
        unfold zdo
        by_cases b : k' = k
        · rw [if_pos b, if_pos b.symm, show zJ z1 = z1 from rfl, zM_1']
        · rw [if_neg b, if_neg (fun z => b z.symm), show zJ zZ = zZ from rfl, zM_Z]
      · rw [if_neg (fun z => pk z.2), if_neg pk]
    · rw [if_neg a]
      by_cases b : gw_so g w = true ∧ P (gw_k g w) = true
      · rw [if_pos b, if_neg (fun z : k = gw_k g w => a (by rw [z, gw_so_k g3 hw' b.1])), zZ_M, zM_Z]
      · rw [if_neg b]
  rw [e, zLs_pt, if_pos (gw_k_so g3 hk).1]
theorem zHP_c (h5 : p.1 ≠ 5) (k k' : Nat) : zHP P g (p :: ps) k k' = zLs (zl2 p k) (fun e => zLs (zl2 p k') (fun e' => zM e.1 (zM (zJ e'.1) (zHP P g ps e.2 e'.2)))) := by
  unfold zHP
  have e1 : ∀ w, (if gw_so g w = true ∧ P (gw_k g w) = true then zHt (p :: ps) k k' (gw_k g w) else zZ) = zLs (zl2 p k) (fun e => zLs (zl2 p k') (fun e' => zM e.1 (zM (zJ e'.1) (if gw_so g w = true ∧ P (gw_k g w) = true then zHt ps e.2 e'.2 (gw_k g w) else zZ)))) := fun w => by
    by_cases a : gw_so g w = true ∧ P (gw_k g w) = true
    · rw [if_pos a, zHt_c h5]
      exact zLs_congr _ (fun e _ => zLs_congr _ (fun e' _ => by rw [if_pos a]))
    · rw [if_neg a]
      refine (zLs_z _ (fun e _ => zLs_z _ (fun e' _ => ?_))).symm
      rw [if_neg a, zM_Z, zM_Z]
  rw [zLs_congr _ (fun w _ => e1 w), zLs_swap]
  refine zLs_congr _ (fun e _ => ?_)
  rw [zLs_swap]
  refine zLs_congr _ (fun e' _ => ?_)
  rw [zLs_M, zLs_M]
theorem zHP_1 (g3 : g ≤ 3) : (zHP P g ps k0 k0).1 = (zwt g : Nat) * pU g ps k0 P ∧ (zHP P g ps k0 k0).2.1 = (zwt g : Nat) * pV g ps k0 P := by
  have l := zLs_1 (fun w => if gw_so g w = true ∧ P (gw_k g w) = true then zHt ps k0 k0 (gw_k g w) else zZ) (16 ^ g)
  unfold zHP
  rw [l.1, l.2]
  unfold pU pV
  rw [← iS_mul, ← iS_mul]
  constructor
  · refine iS_congr _ (fun w hw' => ?_)
    by_cases a : gw_so g w = true ∧ P (gw_k g w) = true
    · rw [if_pos a, if_pos a]
      unfold zHt
      rw [(zN_sq _ _).1, zod_od (gw_k_ad g3).1 (gw_k_ad g3).2.1]
      push_cast
      grind
    · rw [if_neg a, if_neg a]
      show (0 : Int) = _
      omega
  · refine iS_congr _ (fun w hw' => ?_)
    by_cases a : gw_so g w = true ∧ P (gw_k g w) = true
    · rw [if_pos a, if_pos a]
      unfold zHt
      rw [(zN_sq _ _).2, zod_od (gw_k_ad g3).1 (gw_k_ad g3).2.1]
      push_cast
      grind
    · rw [if_neg a, if_neg a]
      show (0 : Int) = _
      omega
/-- a part of the shelf -/
def gso (p : gb_P) : Prop := gb_wp 0 0 p ∧ p.1 < 4 ∧ p.2.2.2.2.2.2.1 = 5
theorem gso_wl : ∀ {ps : List gb_P}, (∀ p ∈ ps, gso p) → gb_wl 0 0 ps
  | [], _ => trivial
  | p :: ps, h => by
    have hp := h p (by simp)
    refine ⟨hp.1, ?_⟩
    rw [show gb_nc 0 p = 0 from if_neg (by have := hp.2.1; omega), show gb_nl 0 p = 0 from if_neg (by have := hp.2.1; omega)]
    exact gso_wl (fun q hq => h q (List.mem_cons_of_mem _ hq))
theorem gso_nl (h : gso p) : gb_nl 0 p = 0 := if_neg (by have := h.2.1; omega)
theorem zl2_0 (h : gso p) (hk : zk_ad g 0 k) {e : zq × Nat} (he : e ∈ zl2 p k) : zk_ad g 0 e.2 := by
  have := zl2_ad h.1 (by decide) hk he
  rw [gso_nl h] at this
  exact this
/-- turns and shifts keep the paths -/
theorem gturn_pa (h : gso p) (hp : p.1 = 1 ∨ p.1 = 2) {s : Nat} (hs : s < 17) {e : gb_br} (he : e ∈ gb_tb p 2 s) : gb_pa e.2.2.2 = gb_pa s := by
  unfold gb_tb at he
  split at he
  · next z =>
    rw [List.mem_singleton.mp he, z]
  · next z =>
    split at he
    · next c =>
      have hit := of_decide_eq_true c.2
      have x5 : (s - 1) / 2 < 5 := by have := h.1.1.2.1; omega
      have pas : gb_pa s = (s - 1) / 2 + 1 := by unfold gb_pa; rw [if_neg (by omega)]; omega
      have pat : ∀ m y, y < 5 → m < 2 → gb_pa (2 * y + m + 1) = y + 1 := fun m y hy hm => by unfold gb_pa; rw [if_neg (by omega)]; omega
      unfold gb_hl at he
      rw [if_neg (by omega)] at he
      split at he
      · simp only [List.mem_cons, List.not_mem_nil, or_false] at he
        rcases he with q | q <;> subst q
        · show gb_pa (2 * ((s - 1) / 2) + (s - 1) % 2 + 1) = _
          rw [pat _ _ x5 (by omega), pas]
        · show gb_pa (2 * ((s - 1) / 2) + (1 - (s - 1) % 2) + 1) = _
          rw [pat _ _ x5 (by omega), pas]
      · rw [if_pos (by omega)] at he
        simp only [List.mem_cons, List.not_mem_nil, or_false] at he
        subst he
        show gb_pa (2 * ((s - 1) / 2) + (s - 1) % 2 + 1) = _
        rw [pat _ _ x5 (by omega), pas]
    · rw [List.mem_singleton.mp he]
theorem gpk_ky {x y z : Nat} (hx : x < 17) (hy : y < 17) (hz : z < 17) : gpk (gb_ky x y z) = gplT (gb_pa x) (gb_pa y) (gb_pa z) := by
  obtain ⟨_, a2, a3, a4⟩ := gb_ky_s hx hy hz
  rw [gpk_T, a2, a3, a4]
  exact z_sym (fun x y z => gplT (gb_pa x) (gb_pa y) (gb_pa z)) (fun x y z => gplT_12 _ _ _) (fun x y z => gplT_23 _ _ _) x y z
theorem gturn_pk (h : gso p) (hp : p.1 = 1 ∨ p.1 = 2) (hk : zk_ad g 0 k) {e : zq × Nat} (he : e ∈ zl2 p k) : gpk e.2 = gpk k := by
  have q := hk.1
  unfold gb_sk at q
  have h3 := hk.2.2
  unfold zl2 at he
  rw [if_pos (show gb_ac p k = true from decide_eq_true (Or.inl h.2.2))] at he
  obtain ⟨ex, hx, he⟩ := List.mem_flatMap.mp he
  obtain ⟨ey, hy, he⟩ := List.mem_flatMap.mp he
  obtain ⟨ez, hz, he⟩ := List.mem_map.mp he
  rw [← he]
  show gpk (gb_ky ex.2.2.2 ey.2.2.2 ez.2.2.2) = _
  rw [gpk_ky (zk_tg h.1 (by decide) (by omega) hx).2.1 (zk_tg h.1 (by decide) (by omega) hy).2.1 (zk_tg h.1 (by decide) (by omega) hz).2.1, gturn_pa h hp (by omega) hx, gturn_pa h hp (by omega) hy, gturn_pa h hp (by omega) hz, gpk_T]
theorem zHP_app (g3 : g ≤ 3) (h : gso p) (hp : p.1 = 1 ∨ p.1 = 2) (pl : Nat) : ∀ {ps : List gb_P} {k k' : Nat}, (∀ q ∈ ps, gso q) → zk_ad g 0 k → zk_ad g 0 k' → zHP (fun k => decide (gpk k = pl)) g (ps ++ [p]) k k' = zM (zb ((gb_ba p ^ g * gb_ba p ^ g : Nat) : Int) 0 0) (zHP (fun k => decide (gpk k = pl)) g ps k k')
  | [], k, k', _, hk, hk' => by
    have w3 : ∀ {k}, zk_ad g 0 k → zk_ad g 3 k := fun hk => ⟨hk.1, hk.2.1, by have := hk.2.2; omega⟩
    have n5 : p.1 ≠ 5 := by omega
    show zHP _ g [p] k k' = _
    rw [zHP_c n5, zHP_nil g3 (w3 hk)]
    have e1 : zLs (zl2 p k) (fun e => zLs (zl2 p k') (fun e' => zM e.1 (zM (zJ e'.1) (zHP (fun k => decide (gpk k = pl)) g [] e.2 e'.2)))) = if decide (gpk k = pl) = true then zLs (zl2 p k) (fun e => zLs (zl2 p k') (fun e' => zM e.1 (zM (zJ e'.1) (zdo e.2 e'.2)))) else zZ := by
      by_cases c : decide (gpk k = pl) = true
      · rw [if_pos c]
        refine zLs_congr _ (fun e he => zLs_congr _ (fun e' _ => ?_))
        rw [zHP_nil g3 (w3 (zl2_0 h hk he)), if_pos (by rw [gturn_pk h hp hk he]; exact c)]
      · rw [if_neg c]
        refine zLs_z _ (fun e he => zLs_z _ (fun e' _ => ?_))
        rw [zHP_nil g3 (w3 (zl2_0 h hk he)), if_neg (by rw [gturn_pk h hp hk he]; exact c), zM_Z, zM_Z]
    rw [e1]
    by_cases c : decide (gpk k = pl) = true
    · rw [if_pos c, if_pos c, zst h.1 n5 (by decide) hk hk']
    · rw [if_neg c, if_neg c, zM_Z]
  | q :: ps, k, k', hq, hk, hk' => by
    have hq0 := hq q (by simp)
    have n5 : q.1 ≠ 5 := by have := hq0.2.1; omega
    show zHP _ g (q :: (ps ++ [p])) k k' = _
    rw [zHP_c n5, zHP_c n5, ← zLs_M]
    refine zLs_congr _ (fun e he => ?_)
    rw [← zLs_M]
    refine zLs_congr _ (fun e' he' => ?_)
    rw [zHP_app g3 h hp pl (fun r hr => hq r (List.mem_cons_of_mem _ hr)) (zl2_0 hq0 hk he) (zl2_0 hq0 hk' he'), zM_12 (zJ e'.1), zM_12 e.1]
/-- a last turn or shift changes no odds -/
theorem pU_last (g3 : g ≤ 3) (h : gso p) (hp : p.1 = 1 ∨ p.1 = 2) (pl : Nat) (hps : ∀ q ∈ ps, gso q) (hk : zk_ad g 0 k0) : pU g (ps ++ [p]) k0 (fun k => decide (gpk k = pl)) = ((gb_ba p ^ g * gb_ba p ^ g : Nat) : Int) * pU g ps k0 (fun k => decide (gpk k = pl)) ∧ pV g (ps ++ [p]) k0 (fun k => decide (gpk k = pl)) = ((gb_ba p ^ g * gb_ba p ^ g : Nat) : Int) * pV g ps k0 (fun k => decide (gpk k = pl)) := by
  have e := zHP_app g3 h hp pl hps hk hk
  have w0 : (0 : Int) < (zwt g : Nat) := by unfold zwt; split <;> (try split) <;> decide
  obtain ⟨a1, a2⟩ := zHP_1 (ps := ps ++ [p]) (k0 := k0) (P := fun k => decide (gpk k = pl)) g3
  obtain ⟨b1, b2⟩ := zHP_1 (ps := ps) (k0 := k0) (P := fun k => decide (gpk k = pl)) g3
  have m : ∀ (n : Nat) (x : zq), (zM (zb (n : Int) 0 0) x).1 = (n : Int) * x.1 ∧ (zM (zb (n : Int) 0 0) x).2.1 = (n : Int) * x.2.1 := fun n x => by
    rw [zM_b]
    exact ⟨rfl, rfl⟩
  rw [e, (m _ _).1, b1] at a1
  rw [e, (m _ _).2, b2] at a2
  generalize gb_ba p ^ g * gb_ba p ^ g = n at *
  constructor
  · refine (Int.eq_of_mul_eq_mul_left (a := ((zwt g : Nat) : Int)) (by omega) ?_).symm
    rw [← a1, Int.mul_left_comm]
  · refine (Int.eq_of_mul_eq_mul_left (a := ((zwt g : Nat) : Int)) (by omega) ?_).symm
    rw [← a2, Int.mul_left_comm]
end LAST
