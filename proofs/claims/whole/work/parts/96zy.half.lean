section HALF
variable {p : gb_P} {ps : List gb_P} {cs ls g k k' k0 s n m : Nat} {F G : Nat → zq} {x y : zq}
/-- so many roots of two can be taken out -/
def zDv (n : Nat) (x : zq) : Prop := ∃ y, x = zRn n y
theorem zR_A (x y : zq) : zR (zA x y) = zA (zR x) (zR y) := by
  apply z_ext <;> simp only [zR, zA] <;> omega
theorem zRn_A (x y : zq) : ∀ n, zRn n (zA x y) = zA (zRn n x) (zRn n y)
  | 0 => rfl
  | n + 1 => by show zR (zRn n (zA x y)) = zA (zR (zRn n x)) (zR (zRn n y)); rw [zRn_A x y n, zR_A]
theorem zDv.a (h : zDv n x) (h' : zDv n y) : zDv n (zA x y) := by
  obtain ⟨a, rfl⟩ := h
  obtain ⟨b, rfl⟩ := h'
  exact ⟨zA a b, (zRn_A a b n).symm⟩
theorem zRn_Z : ∀ n, zRn n zZ = zZ
  | 0 => rfl
  | n + 1 => by show zR (zRn n zZ) = zZ; rw [zRn_Z n]; rfl
theorem zDv.z : zDv n zZ := ⟨zZ, (zRn_Z n).symm⟩
theorem zDv.mm (h : zDv n x) (h' : zDv m y) : zDv (n + m) (zM x y) := by
  obtain ⟨a, rfl⟩ := h
  obtain ⟨b, rfl⟩ := h'
  refine ⟨zM a b, ?_⟩
  rw [zM_Rn, zM_comm, zM_Rn, zRn_n, zM_comm]
theorem zDv.o (x : zq) : zDv 0 x := ⟨x, rfl⟩
theorem zDv.l {α : Type} {f : α → zq} : ∀ l : List α, (∀ a ∈ l, zDv n (f a)) → zDv n (zLs l f)
  | [], _ => zDv.z
  | a :: l, h => (h a (by simp)).a (zDv.l l (fun b hb => h b (List.mem_cons_of_mem _ hb)))
theorem zDv_br (hw : gb_wp cs ls p) (hp : p.2.2.2.1 = 3) {e : gb_br} (he : e ∈ gb_tb p 2 s) : zDv (if s = 0 then 0 else 1) (zbr e) := by
  have one : ∀ f t u, zDv 1 (zbr (f, 1, t, u)) := fun f t u => ⟨zS (f : Nat) (zIn t z1), by
    show zS (f : Nat) (zR (zIn t z1)) = zR (zS (f : Nat) (zIn t z1))
    rw [zR_S]⟩
  have ro : gb_ro' p = 1 := by unfold gb_ro'; rw [if_pos hp]
  have n23 : ¬ (p.1 = 2 ∨ p.1 = 3 ∨ p.1 = 5) := fun z => by have := hw.2.2.2.2.2.1.mpr z; omega
  by_cases z : s = 0
  · rw [if_pos z]; exact zDv.o _
  · rw [if_neg z]
    unfold gb_tb at he
    rw [if_neg z] at he
    split at he
    · unfold gb_hl at he
      rw [ro] at he
      split at he
      · simp only [List.mem_cons, List.not_mem_nil, or_false] at he
        rcases he with q | q <;> (rw [q]; exact one _ _ _)
      · split at he
        · simp only [List.mem_cons, List.not_mem_nil, or_false] at he
          rcases he with q | q <;> (rw [q]; exact one _ _ _)
        · split at he
          · exact absurd (by omega) n23
          · split at he
            · exact absurd (by omega) n23
            · simp only [List.mem_cons, List.not_mem_nil, or_false] at he
              rcases he with q | q <;> (rw [q]; exact one _ _ _)
    · have ba : gb_ba p = 2 := by unfold gb_ba; rw [if_neg (by omega), if_pos hp]
      rw [ba] at he
      rw [List.mem_singleton.mp he]
      exact ⟨(0, 1, 0, 0), rfl⟩
theorem zDv_2 : ∀ n : Nat, zDv n (zb ((2 ^ n : Nat) : Int) 0 0)
  | 0 => zDv.o _
  | n + 1 => by
    have h : zDv (n + 1) (zM (zb ((2 ^ n : Nat) : Int) 0 0) (zb ((2 : Nat) : Int) 0 0)) := (zDv_2 n).mm ⟨(0, 1, 0, 0), by decide⟩
    rw [zb_M, ← Int.natCast_mul, ← Nat.pow_succ] at h
    exact h
theorem zDv_l2 (hw : gb_wp cs ls p) (hp : p.2.2.2.1 = 3) (hk : zk_nz k = g) {e : zq × Nat} (he : e ∈ zl2 p k) : zDv g e.1 := by
  unfold zl2 at he
  split at he
  · obtain ⟨ex, hx, he⟩ := List.mem_flatMap.mp he
    obtain ⟨ey, hy, he⟩ := List.mem_flatMap.mp he
    obtain ⟨ez, hz, he⟩ := List.mem_map.mp he
    rw [← he, ← hk]
    unfold zk_nz t3
    rw [Nat.add_assoc]
    exact (zDv_br hw hp hx).mm ((zDv_br hw hp hy).mm (zDv_br hw hp hz))
  · rw [List.mem_singleton.mp he]
    have ba : gb_ba p = 2 := by unfold gb_ba; rw [if_neg (by omega), if_pos hp]
    simp only
    rw [zid_g hk, ba]
    exact zDv_2 g
theorem zDv_ops : ∀ {ps : List gb_P} {cs ls k : Nat}, gb_wl cs ls ps → ls ≤ 3 → zk_ad g ls k → (∃ p ∈ ps, p.2.2.2.1 = 3) → zDv g (zops ps F k)
  | [], _, _, _, _, _, _, ⟨p, hp, _⟩ => absurd hp (by simp)
  | p :: ps, cs, ls, k, hw, l3, hk, h => by
    have nl := gb_nl_le ls p
    unfold zops
    by_cases h5 : p.1 = 5
    · rw [if_pos h5]
      obtain ⟨q, hq, e⟩ := h
      rcases List.mem_cons.mp hq with z | z
      · subst z
        have := hw.1.2.2.2.2.2.1.mpr (Or.inr (Or.inr h5))
        omega
      · exact zDv_ops hw.2 (gb_nl_3 hw.1 l3) ⟨hk.1, hk.2.1, by have := hk.2.2; omega⟩ ⟨q, z, e⟩
    · rw [if_neg h5, zop_l2]
      refine zDv.l _ (fun e he => ?_)
      obtain ⟨q, hq, eq⟩ := h
      rcases List.mem_cons.mp hq with z | z
      · subst z
        exact (zDv_l2 hw.1 eq hk.2.1 he).mm (zDv.o _)
      · have := (zDv.o e.1).mm (zDv_ops hw.2 (gb_nl_3 hw.1 l3) (zl2_ad hw.1 l3 hk he) ⟨q, z, eq⟩)
        rw [Nat.zero_add] at this
        exact this
theorem zU_R (x : zq) : zU (zR x) = 2 * zU x ∧ zV (zR x) = 2 * zV x := by
  simp only [zU, zV, zR]
  constructor <;> grind
theorem zU_Rn (x : zq) : ∀ n, zU (zRn n x) = (2 ^ n : Nat) * zU x ∧ zV (zRn n x) = (2 ^ n : Nat) * zV x
  | 0 => by simp [zRn]
  | n + 1 => by
    show zU (zR (zRn n x)) = _ ∧ zV (zR (zRn n x)) = _
    rw [(zU_R _).1, (zU_R _).2, (zU_Rn x n).1, (zU_Rn x n).2, Nat.pow_succ]
    push_cast
    constructor <;> grind
theorem iS_dvd {d : Int} {f : Nat → Int} : ∀ n, (∀ i, i < n → d ∣ f i) → d ∣ iS n f
  | 0, _ => ⟨0, by show (0 : Int) = _; omega⟩
  | n + 1, h => Int.dvd_add (iS_dvd n (fun i hi => h i (by omega))) (h n (by omega))
theorem sU_dvd (hw : gb_wl cs ls ps) (l3 : ls ≤ 3) (hk : zk_ad g ls k0) (h : ∃ p ∈ ps, p.2.2.2.1 = 3) (f : Nat → Nat) : ((2 ^ g : Nat) : Int) ∣ sU g ps k0 f ∧ ((2 ^ g : Nat) : Int) ∣ sV g ps k0 f := by
  have z : ∀ K, ((2 ^ g : Nat) : Int) ∣ zU (zN ps k0 K) ∧ ((2 ^ g : Nat) : Int) ∣ zV (zN ps k0 K) := fun K => by
    obtain ⟨y, hy⟩ := zDv_ops (F := zpt K) hw l3 hk h
    unfold zN
    rw [hy, (zU_Rn y g).1, (zU_Rn y g).2]
    exact ⟨⟨_, rfl⟩, ⟨_, rfl⟩⟩
  unfold sU sV
  constructor
  · refine iS_dvd _ (fun w _ => ?_)
    split
    · exact Int.dvd_mul_of_dvd_right (Int.dvd_mul_of_dvd_left (z _).1)
    · exact ⟨0, by omega⟩
  · refine iS_dvd _ (fun w _ => ?_)
    split
    · exact Int.dvd_mul_of_dvd_right (Int.dvd_mul_of_dvd_left (z _).2)
    · exact ⟨0, by omega⟩
theorem zD_2 : ∀ {ps : List gb_P}, (∃ p ∈ ps, p.2.2.2.1 = 3) → 2 ^ g ∣ zD g ps
  | [], ⟨p, hp, _⟩ => absurd hp (by simp)
  | p :: ps, ⟨q, hq, e⟩ => by
    show 2 ^ g ∣ gb_ba p ^ g * zD g ps
    rcases List.mem_cons.mp hq with z | z
    · subst z
      have ba : gb_ba q = 2 := by unfold gb_ba; rw [if_neg (by omega), if_pos e]
      rw [ba]
      exact ⟨_, rfl⟩
    · exact Nat.dvd_trans (zD_2 ⟨q, z, e⟩) ⟨_, Nat.mul_comm _ _⟩
theorem zD_5 : ∀ {ps : List gb_P}, (¬ ∃ p ∈ ps, p.2.2.2.1 = 3) → ∃ a, zD g ps = 5 ^ (g * a)
  | [], _ => ⟨0, rfl⟩
  | p :: ps, h => by
    obtain ⟨a, ha⟩ := zD_5 (ps := ps) (fun ⟨q, hq, e⟩ => h ⟨q, List.mem_cons_of_mem _ hq, e⟩)
    have n3 : ¬ p.2.2.2.1 = 3 := fun e => h ⟨p, by simp, e⟩
    show ∃ a, gb_ba p ^ g * zD g ps = 5 ^ (g * a)
    by_cases z : p.2.2.2.1 = 0
    · have ba : gb_ba p = 1 := by unfold gb_ba; rw [if_pos z]
      exact ⟨a, by rw [ba, Nat.one_pow, Nat.one_mul, ha]⟩
    · have ba : gb_ba p = 5 := by unfold gb_ba; rw [if_neg z, if_neg n3]
      exact ⟨a + 1, by rw [ba, ha, ← Nat.pow_add, Nat.mul_succ, Nat.add_comm]⟩
theorem zD_pos : ∀ ps : List gb_P, 0 < zD g ps
  | [] => Nat.one_pos
  | p :: ps => Nat.mul_pos (Nat.pow_pos (by have := gb_ba_b p; omega)) (zD_pos ps)
/-- without halves the depth is small -/
theorem zD_s (g2 : 2 ≤ g) (g3 : g ≤ 3) (h : ¬ ∃ p ∈ ps, p.2.2.2.1 = 3) (hd : zD g ps ≤ 300000) : zD g ps ≤ 15625 := by
  obtain ⟨a, ha⟩ := zD_5 (g := g) h
  rw [ha] at hd ⊢
  have l8 : g * a < 8 := Nat.lt_of_not_le (fun q => by
    have : 5 ^ 8 ≤ 5 ^ (g * a) := Nat.pow_le_pow_right (by decide) q
    have : (5 : Nat) ^ 8 = 390625 := by decide
    omega)
  have l6 : g * a ≤ 6 := by
    rcases (show g = 2 ∨ g = 3 by omega) with e | e <;> subst e <;> omega
  exact Nat.le_trans (Nat.pow_le_pow_right (by decide) l6) (by decide)
theorem zD_app (qs : List gb_P) : ∀ ps : List gb_P, zD g (ps ++ qs) = zD g ps * zD g qs
  | [] => (Nat.one_mul _).symm
  | p :: ps => by
    show gb_ba p ^ g * zD g (ps ++ qs) = gb_ba p ^ g * zD g ps * zD g qs
    rw [zD_app qs ps, Nat.mul_assoc]
theorem gb_dq_D : ∀ i, gb_dq g ps i = min (zD g (ps.take i)) 300001
  | 0 => by rw [List.take_zero]; rfl
  | i + 1 => by
    have ih := gb_dq_D i
    show (match ps[i]? with | none => gb_dq g ps i | some p => min (gb_dq g ps i * gb_ba p ^ g) 300001) = _
    rw [List.take_add_one]
    cases e : ps[i]? with
    | none => simp only [Option.toList_none, List.append_nil]; exact ih
    | some p =>
      simp only [Option.toList_some]
      rw [zD_app, ih, show zD g [p] = gb_ba p ^ g from Nat.mul_one _]
      have b1 : 1 ≤ gb_ba p ^ g := Nat.pow_pos (by have := gb_ba_b p; omega)
      generalize gb_ba p ^ g = B at *
      generalize zD g (ps.take i) = D at *
      by_cases q : D ≤ 300001
      · rw [Nat.min_eq_left q]
      · rw [show min D 300001 = 300001 by omega]
        have h1 : 300001 * 1 ≤ 300001 * B := Nat.mul_le_mul_left _ b1
        have h2 : D * 1 ≤ D * B := Nat.mul_le_mul_left _ b1
        omega
theorem gb_dpt_D : gb_dpt g ps = min (zD g ps) 300001 := by
  unfold gb_dpt
  rw [gb_dq_D, List.take_length]
end HALF
