section VAL
variable {gs : List Nat} {sh : List gb_P} {ps qs : List gb_P} {pl n g k k0 : Nat} {p : gb_P}
def gCm (g : Nat) : Nat := if g = 1 then 1000000 else if g = 2 then 2000000000000 else 384000000000000
def gWz (gs : List Nat) (ps : List gb_P) : Nat := zD gs.length ps * zD gs.length ps * gb_od (gb_k0 gs)
/-- the odds of counts behind parts, as one number -/
def gvl (gs : List Nat) (pl : Nat) (ps : List gb_P) : Int := ((gCm gs.length / gWz gs ps : Nat) : Int) * gph (pU gs.length ps (gb_k0 gs) (fun k => decide (gpk k = pl))) (pV gs.length ps (gb_k0 gs) (fun k => decide (gpk k = pl)))
theorem gba_c (p : gb_P) : gb_ba p = 1 ∨ gb_ba p = 2 ∨ gb_ba p = 5 := by
  unfold gb_ba
  split
  · exact Or.inl rfl
  · split
    · exact Or.inr (Or.inl rfl)
    · exact Or.inr (Or.inr rfl)
theorem zD_ab : ∀ ps : List gb_P, ∃ a b, a + b ≤ ps.length ∧ zD g ps = (2 ^ a * 5 ^ b) ^ g
  | [] => ⟨0, 0, by simp, by simp [zD]⟩
  | p :: ps => by
    obtain ⟨a, b, h, e⟩ := zD_ab ps
    show ∃ a b, a + b ≤ ps.length + 1 ∧ gb_ba p ^ g * zD g ps = (2 ^ a * 5 ^ b) ^ g
    rw [e]
    rcases gba_c p with q | q | q
    · exact ⟨a, b, by omega, by rw [q, Nat.one_pow, Nat.one_mul]⟩
    · exact ⟨a + 1, b, by omega, by rw [q, ← Nat.mul_pow, Nat.pow_succ]; congr 1; rw [Nat.mul_comm (2 ^ a) 2, Nat.mul_assoc]⟩
    · exact ⟨a, b + 1, by omega, by rw [q, ← Nat.mul_pow, Nat.pow_succ]; congr 1; rw [← Nat.mul_assoc, Nat.mul_comm 5, Nat.mul_assoc (2 ^ a) 5, Nat.mul_comm 5, ← Nat.mul_assoc, Nat.mul_assoc]⟩
def gdvC (g a b o : Nat) : Bool := decide ((2 ^ a * 5 ^ b) ^ g ≤ 300000 → (2 ^ a * 5 ^ b) ^ g * (2 ^ a * 5 ^ b) ^ g * o ∣ gCm g)
theorem gdv1 : ∀ a, a < 4 → ∀ b, b < 4 → a + b ≤ 3 → gdvC 1 a b 1 = true := by decide +kernel
theorem gdv2 : ∀ a, a < 4 → ∀ b, b < 4 → a + b ≤ 3 → gdvC 2 a b 1 = true ∧ gdvC 2 a b 2 = true := by decide +kernel
theorem gdv3 : ∀ a, a < 4 → ∀ b, b < 4 → a + b ≤ 3 → gdvC 3 a b 1 = true ∧ gdvC 3 a b 2 = true ∧ gdvC 3 a b 6 = true := by decide +kernel
theorem gb_od_v (k : Nat) : gb_od k = 1 ∨ gb_od k = 2 ∨ gb_od k = 6 := by
  unfold gb_od
  split <;> split <;> simp
theorem gWdvd (hgs : ∀ m ∈ gs, m < 10) (g3 : gs.length ≤ 3) (g1 : 1 ≤ gs.length) (hl : ps.length ≤ 3) (hd : zD gs.length ps ≤ 300000) : gWz gs ps ∣ gCm gs.length := by
  obtain ⟨a, b, h, e⟩ := zD_ab (g := gs.length) ps
  have ad := gb_k0_ad hgs g3
  have og := gb_od_g ad.1 ad.2.1
  have ov := gb_od_v (gb_k0 gs)
  unfold gWz
  rw [e] at hd ⊢
  rcases (show gs.length = 1 ∨ gs.length = 2 ∨ gs.length = 3 by omega) with q | q | q
  · rw [q] at hd og ⊢
    rw [og.1 (by decide)]
    exact of_decide_eq_true (gdv1 a (by omega) b (by omega) (by omega)) hd
  · rw [q] at hd og ⊢
    have f := gdv2 a (by omega) b (by omega) (by omega)
    rcases ov with o | o | o
    · rw [o]; exact of_decide_eq_true f.1 hd
    · rw [o]; exact of_decide_eq_true f.2 hd
    · have := og.2 (by decide); omega
  · rw [q] at hd ⊢
    have f := gdv3 a (by omega) b (by omega) (by omega)
    rcases ov with o | o | o
    · rw [o]; exact of_decide_eq_true f.1 hd
    · rw [o]; exact of_decide_eq_true f.2.1 hd
    · rw [o]; exact of_decide_eq_true f.2.2 hd
theorem gpq_m (m x y : Int) (q p : Nat) : gpq q p (m * x) (m * y) = m * gpq q p x y := by
  unfold gpq
  rw [Int.mul_add, Int.mul_left_comm m, Int.mul_left_comm m]
theorem gph_m (m x y : Int) : gph (m * x) (m * y) = m * gph x y := gpq_m m x y _ _
/-- numbers that are scaled alike have the same value -/
theorem gvl_scale {m : Nat} (m0 : 0 < m) (hW : gWz gs ps ∣ gCm gs.length) (eW : gWz gs ps = m * gWz gs qs) (eU : pU gs.length ps (gb_k0 gs) (fun k => decide (gpk k = pl)) = (m : Int) * pU gs.length qs (gb_k0 gs) (fun k => decide (gpk k = pl))) (eV : pV gs.length ps (gb_k0 gs) (fun k => decide (gpk k = pl)) = (m : Int) * pV gs.length qs (gb_k0 gs) (fun k => decide (gpk k = pl))) : gvl gs pl ps = gvl gs pl qs := by
  have w0 : 0 < gWz gs qs := Nat.mul_pos (Nat.mul_pos (zD_pos qs) (zD_pos qs)) (gb_od_b _).1
  have w1 : 0 < gWz gs ps := Nat.mul_pos (Nat.mul_pos (zD_pos ps) (zD_pos ps)) (gb_od_b _).1
  obtain ⟨j, hj⟩ := hW
  unfold gvl
  rw [eU, eV, gph_m, ← Int.mul_assoc, ← Int.natCast_mul]
  congr 2
  rw [hj, Nat.mul_div_cancel_left _ w1, eW, Nat.mul_assoc, Nat.mul_left_comm, Nat.mul_div_cancel_left _ w0, Nat.mul_comm]
def gpt (sh : List gb_P) (r : List Nat) : List gb_P := r.map (fun i => sh.getD i (0, 0, 0, 0, 0, 0, 0, 0, 0))
theorem gpt_so (hs : ∀ p ∈ sh, gso p) {r : List Nat} (hr : ∀ x ∈ r, x < sh.length) : ∀ p ∈ gpt sh r, gso p := fun p hp => by
  obtain ⟨i, hi, e⟩ := List.mem_map.mp hp
  rw [← e, List.getD_eq_getElem?_getD, List.getElem?_eq_getElem (hr i hi)]
  exact hs _ (List.getElem_mem _)
theorem iS_ge {f : Nat → Int} : ∀ n, (∀ i, i < n → 0 ≤ f i) → ∀ w, w < n → f w ≤ iS n f
  | 0, _, w, h => absurd h (by omega)
  | n + 1, h, w, hw => by
    have h0 : 0 ≤ iS n f := by
      have := iS_le (f := fun _ => 0) (h := f) n (fun i hi => h i (by omega))
      rw [iS_0] at this
      exact this
    show f w ≤ iS n f + f n
    by_cases e : w = n
    · rw [e]; omega
    · have := iS_ge n (fun i hi => h i (by omega)) w (by omega)
      have := h n (by omega)
      omega
/-- a number that is 0 in 64 bits is 0 -/
theorem zL_0 (g3 : g ≤ 3) (hw : gb_wl 0 0 ps) (hk : zk_ad g 0 k0) (hd : zD g ps ≤ 300000) (ha : zk_ad g 3 k) (h : zL (zN ps k0 k) = qZ) : zN ps k0 k = zZ := by
  obtain ⟨q1, q2, q3⟩ := gw_k_so g3 ha
  have al := (pU_all g3 hw (by decide) hk).1
  have tm : zU (zN ps k0 k) * (gb_od k : Nat) ≤ pU g ps k0 (fun _ => true) := by
    have := iS_ge (f := fun w => if gw_so g w = true ∧ (fun _ => true) (gw_k g w) = true then zU (zN ps k0 (gw_k g w)) * (gb_od (gw_k g w) : Nat) else 0) (16 ^ g) (fun i _ => by
      split
      · exact zT_n _ _
      · exact Int.le_refl _) (gk_w g k) q1
    rw [if_pos ⟨q2, rfl⟩, q3] at this
    exact this
  have ob := gb_od_b k
  have ob0 := gb_od_b k0
  have wb : zD g ps * zD g ps * gb_od k0 ≤ 300000 * 300000 * 6 := Nat.mul_le_mul (Nat.mul_le_mul hd hd) ob0.2
  have un := zU_n (zN ps k0 k)
  have ub : zU (zN ps k0 k) ≤ 540000000000 := by
    have : zU (zN ps k0 k) * 1 ≤ zU (zN ps k0 k) * (gb_od k : Nat) := Int.mul_le_mul_of_nonneg_left (by omega) un
    omega
  have sq : ∀ a : Int, 0 ≤ a * a ∧ (a.natAbs : Int) ≤ a * a := fun a => by
    have e : a * a = ((a.natAbs * a.natAbs : Nat) : Int) := by rw [Int.natCast_mul, Int.natAbs_mul_self']
    rw [e]
    refine ⟨by omega, ?_⟩
    have : a.natAbs ≤ a.natAbs * a.natAbs := by
      rcases Nat.eq_zero_or_pos a.natAbs with z | z
      · omega
      · exact Nat.le_mul_of_pos_left _ z
    omega
  generalize zN ps k0 k = x at *
  unfold zU at ub
  rw [Int.mul_assoc, Int.mul_assoc] at ub
  have s1 := sq x.1
  have s2 := sq x.2.1
  have s3 := sq x.2.2.1
  have s4 := sq x.2.2.2
  have z : ∀ a : Int, a.natAbs < 2 ^ 63 → iL a = 0 → a = 0 := fun a ha e => (iL_eq (b := 0) ha (by decide)).mp e
  unfold zL qZ at h
  injection h with e1 h
  injection h with e2 h
  injection h with e3 e4
  exact z_ext (z _ (by omega) e1) (z _ (by omega) e2) (z _ (by omega) e3) (z _ (by omega) e4)
def gjn (p : gb_P) : Bool := decide (p.1 = 0 ∨ p.1 = 3)
/-- how many grains of a product are in a path that the part names -/
def gmet (p : gb_P) (k : Nat) : Nat := gb_gi k (p.2.1 + 1) + (if gjn p = true then gb_gi k (p.2.2.1 + 1) else 0)
theorem gmet_nm (h : gso p) (hm : gmet p k = 0) : gnmK p k := by
  intro s hs
  by_cases z : s = 0
  · exact Or.inl z
  · refine Or.inr (fun hit => ?_)
    have hit' := of_decide_eq_true hit
    have ok := h.1.1
    have x5 : (s - 1) / 2 < 5 := by have := ok.2.1; have := ok.2.2.1; omega
    have pas : gb_pa s = (s - 1) / 2 + 1 := by unfold gb_pa; rw [if_neg (by omega)]; omega
    have gi : ∀ t, gb_pa s = t → 0 < gb_gi k t := fun t ht => by
      unfold gb_gi
      rcases hs with q | q | q
      · rw [q] at ht; rw [if_pos ht]; omega
      · rw [q] at ht; rw [if_pos ht]; omega
      · rw [q] at ht; rw [if_pos ht]; omega
    unfold gmet gjn at hm
    rcases hit' with ⟨j, q | q⟩ | ⟨_, q⟩
    · have := gi (p.2.1 + 1) (by rw [pas, q]); omega
    · have := gi (p.2.2.1 + 1) (by rw [pas, q])
      rw [if_pos (decide_eq_true j)] at hm
      omega
    · have := gi (p.2.1 + 1) (by rw [pas, q]); omega
def gMet (g : Nat) (ps : List gb_P) (k0 : Nat) (p : gb_P) : Prop := ∃ k, zk_ad g 3 k ∧ zL (zN ps k0 k) ≠ qZ ∧ 0 < gmet p k
def gVain (n : Nat) (g : Nat) (k0 : Nat) (sh : List gb_P) (a : List Nat) (c : Nat) : Prop := (n ≤ a.length + 1 ∧ ¬ gjn (sh.getD c (0, 0, 0, 0, 0, 0, 0, 0, 0)) = true) ∨ ¬ gMet g (gpt sh a) k0 (sh.getD c (0, 0, 0, 0, 0, 0, 0, 0, 0))
noncomputable def gokc (n : Nat) (g : Nat) (k0 : Nat) (sh : List gb_P) (a : List Nat) (c : Nat) : Bool := @decide (zD g (gpt sh (a ++ [c])) ≤ 300000 ∧ ¬ gVain n g k0 sh a c) (Classical.propDecidable _)
theorem gokc_t {a : List Nat} {c : Nat} : gokc n g k0 sh a c = true ↔ zD g (gpt sh (a ++ [c])) ≤ 300000 ∧ ¬ gVain n g k0 sh a c := by
  unfold gokc
  exact @decide_eq_true_iff _ (Classical.propDecidable _)
theorem gpt_app (a b : List Nat) : gpt sh (a ++ b) = gpt sh a ++ gpt sh b := List.map_append
/-- a row that is left out is no better than a shorter one -/
theorem gdom (hgs : ∀ m ∈ gs, m < 10) (g3 : gs.length ≤ 3) (g1 : 1 ≤ gs.length) (hs : ∀ p ∈ sh, gso p) (n3 : n ≤ 3) {t : List Nat} (tl : t.length ≤ n) (ti : ∀ x ∈ t, x < sh.length) (tv : zD gs.length (gpt sh t) ≤ 300000) :
    t ∈ [] :: dfsP (gokc n gs.length (gb_k0 gs) sh) sh.length n [] ∨ ∃ t', t'.length < t.length ∧ (∀ x ∈ t', x < sh.length) ∧ zD gs.length (gpt sh t') ≤ 300000 ∧ gvl gs pl (gpt sh t') = gvl gs pl (gpt sh t) := by
  by_cases all : ∀ a c e, t = a ++ c :: e → gokc n gs.length (gb_k0 gs) sh a c = true
  · refine Or.inl ?_
    by_cases z : t = []
    · rw [z]; simp
    · refine List.mem_cons_of_mem _ ?_
      have := dfsP_in (ok := gokc n gs.length (gb_k0 gs) sh) (s := sh.length) (d := n) (pre := []) (u := t) z tl ti (fun a c e q => all a c e q)
      simpa using this
  · refine Or.inr ?_
    have ex : ∃ a c e, t = a ++ c :: e ∧ ¬ gokc n gs.length (gb_k0 gs) sh a c = true := Classical.byContradiction (fun q => all (fun a c e h => Classical.byContradiction (fun q' => q ⟨a, c, e, h, q'⟩)))
    obtain ⟨a, c, e, h, nk⟩ := ex
    subst h
    have ci : c < sh.length := ti c (by simp)
    have ai : ∀ x ∈ a, x < sh.length := fun x hx => ti x (by simp [hx])
    have ei : ∀ x ∈ e, x < sh.length := fun x hx => ti x (by simp [hx])
    generalize hp : sh.getD c (0, 0, 0, 0, 0, 0, 0, 0, 0) = p at *
    have pso : gso p := by
      rw [← hp, List.getD_eq_getElem?_getD, List.getElem?_eq_getElem ci]
      exact hs _ (List.getElem_mem _)
    have aso := gpt_so hs ai
    have eT : gpt sh (a ++ c :: e) = gpt sh a ++ p :: gpt sh e := by
      rw [gpt_app, ← hp]
      rfl
    have e1 : gpt sh (a ++ [c]) = gpt sh a ++ [p] := by
      rw [gpt_app, ← hp]
      rfl
    have eA : gpt sh (a ++ e) = gpt sh a ++ gpt sh e := gpt_app a e
    have bp : 1 ≤ gb_ba p ^ gs.length := Nat.pow_pos (by have := gb_ba_b p; omega)
    have D1 : zD gs.length (gpt sh (a ++ c :: e)) = gb_ba p ^ gs.length * (zD gs.length (gpt sh a) * zD gs.length (gpt sh e)) := by
      rw [eT, zD_app]
      show _ * (gb_ba p ^ gs.length * _) = _
      rw [Nat.mul_left_comm]
    have D2 : zD gs.length (gpt sh (a ++ e)) = zD gs.length (gpt sh a) * zD gs.length (gpt sh e) := by rw [eA, zD_app]
    have D3 : zD gs.length (gpt sh (a ++ [c])) = zD gs.length (gpt sh a) * gb_ba p ^ gs.length := by
      rw [e1, zD_app]
      show _ * (gb_ba p ^ gs.length * 1) = _
      rw [Nat.mul_one]
    have dA : zD gs.length (gpt sh (a ++ e)) ≤ 300000 := by
      rw [D1] at tv
      rw [D2]
      exact Nat.le_trans (Nat.le_mul_of_pos_left _ bp) tv
    have dC : zD gs.length (gpt sh (a ++ [c])) ≤ 300000 := by
      rw [D1] at tv
      rw [D3]
      refine Nat.le_trans ?_ tv
      rw [Nat.mul_comm, ← Nat.mul_assoc]
      exact Nat.le_mul_of_pos_right _ (zD_pos _)
    have dP : zD gs.length (gpt sh a) ≤ 300000 := by
      rw [D3] at dC
      exact Nat.le_trans (Nat.le_mul_of_pos_right _ bp) dC
    have vain : gVain n gs.length (gb_k0 gs) sh a c := Classical.byContradiction (fun q => nk (gokc_t.mpr ⟨dC, q⟩))
    have ad := gb_k0_ad hgs g3
    have hW : gWz gs (gpt sh (a ++ c :: e)) ∣ gCm gs.length := gWdvd hgs g3 g1 (by unfold gpt; rw [List.length_map]; omega) tv
    have eW : gWz gs (gpt sh (a ++ c :: e)) = (gb_ba p ^ gs.length * gb_ba p ^ gs.length) * gWz gs (gpt sh (a ++ e)) := by
      unfold gWz
      rw [D1, D2]
      generalize gb_ba p ^ gs.length = B
      generalize zD gs.length (gpt sh a) * zD gs.length (gpt sh e) = X
      rw [Nat.mul_mul_mul_comm, Nat.mul_assoc]
    have mp : 0 < gb_ba p ^ gs.length * gb_ba p ^ gs.length := Nat.mul_pos bp bp
    refine ⟨a ++ e, by simp, fun x hx => by rcases List.mem_append.mp hx with q | q; exact ai x q; exact ei x q, dA, ?_⟩
    unfold gVain at vain
    rw [hp] at vain
    rcases vain with ⟨v1, v2⟩ | v
    · have e0 : e = [] := by
        have : e.length = 0 := by simp at tl; omega
        exact List.length_eq_zero_iff.mp this
      subst e0
      have p12 : p.1 = 1 ∨ p.1 = 2 := by
        have := pso.2.1
        have : ¬ (p.1 = 0 ∨ p.1 = 3) := fun q => v2 (decide_eq_true q)
        omega
      obtain ⟨u1, u2⟩ := pU_last g3 pso p12 pl aso ad
      rw [← e1] at u1 u2
      rw [List.append_nil] at eW ⊢
      exact (gvl_scale mp hW eW u1 u2).symm
    · have zn := zN_vain (p := p) g3 (gso_wl aso) (by decide) ad pso.2.2 (by have := pso.2.1; omega) (fun k hk nz => gmet_nm pso (Classical.byContradiction (fun q => v ⟨k, hk, fun z => nz (zL_0 g3 (gso_wl aso) ad dP hk z), by omega⟩))) (gpt sh e)
      rw [← eT, ← eA] at zn
      obtain ⟨u1, u2⟩ := pU_scale (g := gs.length) zn (fun k => decide (gpk k = pl))
      exact (gvl_scale mp hW eW u1 u2).symm
end VAL
