section VAIN
variable {p : gb_P} {ps qs : List gb_P} {cs ls g k k' k0 s : Nat} {F G : Nat → zq} {P : Nat → Bool}
theorem zops_app (qs : List gb_P) (F : Nat → zq) : ∀ (ps : List gb_P), zops (ps ++ qs) F = zops ps (zops qs F)
  | [] => rfl
  | p :: ps => by
    show (if p.1 = 5 then zops (ps ++ qs) F else zop p (zops (ps ++ qs) F)) = (if p.1 = 5 then zops ps (zops qs F) else zop p (zops ps (zops qs F)))
    rw [zops_app qs F ps]
/-- sums go through -/
theorem zops_lin {α : Type} (l : List α) (F : α → Nat → zq) (c : α → zq) : ∀ (ps : List gb_P) (k : Nat), zops ps (fun j => zLs l (fun w => zM (F w j) (c w))) k = zLs l (fun w => zM (zops ps (F w) k) (c w))
  | [], k => rfl
  | p :: ps, k => by
    show (if p.1 = 5 then zops ps (fun j => zLs l (fun w => zM (F w j) (c w))) else zop p (zops ps (fun j => zLs l (fun w => zM (F w j) (c w))))) k = zLs l (fun w => zM ((if p.1 = 5 then zops ps (F w) else zop p (zops ps (F w))) k) (c w))
    by_cases h5 : p.1 = 5
    · rw [if_pos h5, zops_lin l F c ps k]
      exact zLs_congr l (fun w _ => by rw [if_pos h5])
    · rw [if_neg h5, zop_l2, show zops ps (fun j => zLs l (fun w => zM (F w j) (c w))) = fun k => zLs l (fun w => zM (zops ps (F w) k) (c w)) from funext (zops_lin l F c ps)]
      rw [zLs_congr (h := fun e => zLs l (fun w => zM (zM e.1 (zops ps (F w) e.2)) (c w))) _ (fun e _ => by rw [← zLs_M]; exact zLs_congr l (fun w _ => by rw [zM_assoc])), zLs_swap]
      refine zLs_congr l (fun w _ => ?_)
      rw [if_neg h5, zop_l2, zLs_M']
/-- what a bench makes of a functional, by its numbers -/
theorem zops_sum (g3 : g ≤ 3) (hw : gb_wl cs ls ps) (l3 : ls ≤ 3) (hk : zk_ad g ls k0) (G : Nat → zq) : zops ps G k0 = zLs (List.range (16 ^ g)) (fun w => zM (if gw_so g w = true then zN ps k0 (gw_k g w) else zZ) (G (gw_k g w))) := by
  have e1 : zops ps G k0 = zops ps (fun j => zLs (List.range (16 ^ g)) (fun w => zM (if gw_so g w = true then zpt (gw_k g w) j else zZ) (G (gw_k g w)))) k0 := by
    refine zops_congr hw l3 hk (fun j hj => ?_)
    rw [zLs_congr (h := fun w => if w = gk_w g j then G j else zZ) _ (fun w hw' => ?_), zLs_pt, if_pos (gw_k_so g3 hj).1]
    have hw2 := List.mem_range.mp hw'
    obtain ⟨q1, q2, q3⟩ := gw_k_so g3 hj
    by_cases a : w = gk_w g j
    · rw [if_pos a, a, if_pos q2, q3]
      unfold zpt
      rw [if_pos rfl, zM_1]
    · rw [if_neg a]
      by_cases b : gw_so g w = true
      · rw [if_pos b]
        unfold zpt
        rw [if_neg (fun z : j = gw_k g w => a (by rw [z, gw_so_k g3 hw2 b])), zZ_M]
      · rw [if_neg b, zZ_M]
  rw [e1, zops_lin (List.range (16 ^ g)) (fun w j => if gw_so g w = true then zpt (gw_k g w) j else zZ)]
  refine zLs_congr _ (fun w _ => ?_)
  by_cases b : gw_so g w = true
  · simp only [b, if_true]
    rfl
  · rw [if_neg b, show (fun j => if gw_so g w = true then zpt (gw_k g w) j else zZ) = (fun _ => zZ) from funext (fun j => if_neg b), zops_0]
/-- no grain is in a path that the part names -/
def gnmK (p : gb_P) (k : Nat) : Prop := ∀ s, (s = k % 32 ∨ s = k / 32 % 32 ∨ s = k / 1024) → s = 0 ∨ ¬ gb_hit p ((s - 1) / 2) = true
theorem gnm_tb {s : Nat} (h : s = 0 ∨ ¬ gb_hit p ((s - 1) / 2) = true) : gb_tb p 2 s = [((if s = 0 then 1 else gb_ba p), 0, 0, s)] := by
  by_cases z : s = 0
  · subst z
    rfl
  · rw [if_neg z]
    rcases h with h | h
    · exact absurd h z
    · exact zmiss h z
theorem zop_nm (hp : p.2.2.2.2.2.2.1 = 5) (hk : zk_ad g ls k) (h : gnmK p k) : zop p F k = zM (zb ((gb_ba p ^ g : Nat) : Int) 0 0) (F k) := by
  have ac : gb_ac p k = true := decide_eq_true (Or.inl hp)
  unfold zop
  rw [if_pos ac]
  unfold zG
  rw [gnm_tb (h _ (Or.inl rfl)), gnm_tb (h _ (Or.inr (Or.inl rfl))), gnm_tb (h _ (Or.inr (Or.inr rfl)))]
  show zA (zA (zA (zC F _ _ _) zZ) zZ) zZ = _
  rw [zA_Z, zA_Z, zA_Z]
  unfold zC
  simp only
  rw [gb_ky_of hk.1, ← zid_g hk.2.1]
  rfl
/-- a part that meets no grain only scales -/
theorem zN_vain (g3 : g ≤ 3) (hw : gb_wl cs ls ps) (l3 : ls ≤ 3) (hk : zk_ad g ls k0) (hp : p.2.2.2.2.2.2.1 = 5) (h5 : p.1 ≠ 5) (h : ∀ k, zk_ad g 3 k → zN ps k0 k ≠ zZ → gnmK p k) (qs : List gb_P) (K : Nat) : zN (ps ++ p :: qs) k0 K = zM (zb ((gb_ba p ^ g : Nat) : Int) 0 0) (zN (ps ++ qs) k0 K) := by
  unfold zN
  rw [zops_app, zops_app, zops_sum g3 hw l3 hk, zops_sum g3 hw l3 hk (zops qs (zpt K)), ← zLs_M]
  refine zLs_congr _ (fun w _ => ?_)
  rw [zM_12 (zb _ 0 0)]
  by_cases b : gw_so g w = true
  · rw [if_pos b]
    by_cases z : zN ps k0 (gw_k g w) = zZ
    · rw [z, zZ_M, zZ_M]
    · congr 1
      show (if p.1 = 5 then zops qs (zpt K) else zop p (zops qs (zpt K))) (gw_k g w) = _
      rw [if_neg h5, zop_nm hp (gw_k_ad g3) (h _ (gw_k_ad g3) z)]
  · rw [if_neg b, zZ_M, zZ_M]
theorem zU_b (n : Nat) (x : zq) : zU (zM (zb (n : Int) 0 0) x) = ((n * n : Nat) : Int) * zU x ∧ zV (zM (zb (n : Int) 0 0) x) = ((n * n : Nat) : Int) * zV x := by
  rw [zM_b]
  simp only [zS, zRn, zIn, zU, zV, Int.natCast_mul]
  constructor <;> grind
theorem pU_scale {ps qs : List gb_P} {n : Nat} (h : ∀ K, zN ps k0 K = zM (zb (n : Int) 0 0) (zN qs k0 K)) (P : Nat → Bool) : pU g ps k0 P = ((n * n : Nat) : Int) * pU g qs k0 P ∧ pV g ps k0 P = ((n * n : Nat) : Int) * pV g qs k0 P := by
  unfold pU pV
  rw [← iS_mul, ← iS_mul]
  constructor
  · refine iS_congr _ (fun w _ => ?_)
    by_cases a : gw_so g w = true ∧ P (gw_k g w) = true
    · rw [if_pos a, if_pos a, h, (zU_b _ _).1, Int.mul_assoc]
    · rw [if_neg a, if_neg a, Int.mul_zero]
  · refine iS_congr _ (fun w _ => ?_)
    by_cases a : gw_so g w = true ∧ P (gw_k g w) = true
    · rw [if_pos a, if_pos a, h, (zU_b _ _).2, Int.mul_assoc]
    · rw [if_neg a, if_neg a, Int.mul_zero]
end VAIN
