section SUMS
variable {I I' I1 I2 : gb_FI} {J J' J1 J2 : gb_FJ} {p : gb_P} {ps : List gb_P} {cs ls g k k0 i w o n : Nat} {kl : List Nat}
theorem bS_words (g3 : g ≤ 3) (h : Nat → Int64) : ∀ l : List Nat, (∀ (a b c d : Nat), l[a]? = some c → l[b]? = some d → gb_kp c = gb_kp d → a = b) → (∀ k ∈ l, ¬ zk_ad g 3 k → h k = 0) → bS l h = gS (16 ^ g) (fun w => if gw_so g w = true ∧ gw_k g w ∈ l then h (gw_k g w) else 0)
  | [], _, _ => by
    rw [gS_congr (g := fun _ => 0) _ (fun i _ => if_neg (fun z => by simp at z)), gS_0]
    rfl
  | c :: l, d, e => by
    have d' : ∀ (a b c d : Nat), l[a]? = some c → l[b]? = some d → gb_kp c = gb_kp d → a = b := fun a b x y h1 h2 e => by
      have := d (a + 1) (b + 1) x y (by simpa using h1) (by simpa using h2) e
      omega
    have nl : c ∉ l := fun w => by
      obtain ⟨a, ha⟩ := List.mem_iff_getElem?.mp w
      have := d 0 (a + 1) c c (by simp) (by simpa using ha) rfl
      omega
    show h c + bS l h = _
    rw [bS_words g3 h l d' (fun k hk => e k (List.mem_cons_of_mem _ hk))]
    by_cases ad : zk_ad g 3 c
    · have s : h c = gS (16 ^ g) (fun w => if w = gk_w g c then h c else 0) := by
        rw [gS_pt, if_pos (gw_k_so g3 ad).1]
      rw [s, ← gS_add]
      refine gS_congr _ (fun w hw => ?_)
      by_cases a : gw_so g w = true ∧ gw_k g w = c
      · have wd : w = gk_w g c := by rw [← a.2, gw_so_k g3 hw a.1]
        rw [if_pos wd, if_neg (fun z : gw_so g w = true ∧ gw_k g w ∈ l => nl (a.2 ▸ z.2)), if_pos (show gw_so g w = true ∧ gw_k g w ∈ c :: l from ⟨a.1, by rw [a.2]; simp⟩), a.2, Int64.add_zero]
      · have b : ¬ w = gk_w g c := fun b => a (by rw [b]; exact (gw_k_so g3 ad).2)
        rw [if_neg b, Int64.zero_add]
        by_cases b : gw_so g w = true ∧ gw_k g w ∈ l
        · rw [if_pos b, if_pos (show gw_so g w = true ∧ gw_k g w ∈ c :: l from ⟨b.1, List.mem_cons_of_mem _ b.2⟩)]
        · rw [if_neg b, if_neg (fun z : gw_so g w = true ∧ gw_k g w ∈ c :: l => by
            rcases List.mem_cons.mp z.2 with y | y
            · exact a ⟨z.1, y⟩
            · exact b ⟨z.1, y⟩)]
    · rw [e c (by simp) ad, Int64.zero_add]
      refine gS_congr _ (fun w hw => ?_)
      have nc : ¬ gw_k g w = c := fun z => ad (by rw [← z]; exact gw_k_ad g3)
      by_cases b : gw_so g w = true ∧ gw_k g w ∈ l
      · rw [if_pos b, if_pos (show gw_so g w = true ∧ gw_k g w ∈ c :: l from ⟨b.1, List.mem_cons_of_mem _ b.2⟩)]
      · rw [if_neg b, if_neg (fun z : gw_so g w = true ∧ gw_k g w ∈ c :: l => by
          rcases List.mem_cons.mp z.2 with y | y
          · exact nc y
          · exact b ⟨z.1, y⟩)]
/-- sums of whole numbers -/
def iS : Nat → (Nat → Int) → Int
  | 0, _ => 0
  | n + 1, f => iS n f + f n
theorem iS_L (f : Nat → Int) : ∀ n, gS n (fun i => iL (f i)) = iL (iS n f)
  | 0 => rfl
  | n + 1 => by
    show gS n (fun i => iL (f i)) + iL (f n) = iL (iS n f + f n)
    rw [iS_L f n, iL_add]
def zU (x : zq) : Int := x.1 * x.1 + 2 * x.2.1 * x.2.1 + x.2.2.1 * x.2.2.1 + 2 * x.2.2.2 * x.2.2.2
def zV (x : zq) : Int := 2 * (x.1 * x.2.1 + x.2.2.1 * x.2.2.2)
theorem qU_L (x : zq) : qU (zL x) = iL (zU x) := by
  simp only [qU, zL, zU, iL_2, iL_mul, iL_add]
theorem qV_L (x : zq) : qV (zL x) = iL (zV x) := by
  simp only [qV, zL, zV, iL_2, iL_mul, iL_add]
/-- odds (not yet through the whole) of all products of a sort -/
def pU (g : Nat) (ps : List gb_P) (k0 : Nat) (P : Nat → Bool) : Int := iS (16 ^ g) (fun w => if gw_so g w = true ∧ P (gw_k g w) = true then zU (zN ps k0 (gw_k g w)) * (gb_od (gw_k g w) : Nat) else 0)
def pV (g : Nat) (ps : List gb_P) (k0 : Nat) (P : Nat → Bool) : Int := iS (16 ^ g) (fun w => if gw_so g w = true ∧ P (gw_k g w) = true then zV (zN ps k0 (gw_k g w)) * (gb_od (gw_k g w) : Nat) else 0)
theorem qc_ext {X Y : gb_q} (h : ∀ i, i < 4 → qc X i = qc Y i) : X = Y := q_ext (h 0 (by decide)) (h 1 (by decide)) (h 2 (by decide)) (h 3 (by decide))
/-- the numbers of a beam that light has gone to -/
theorem xBl.num (h : xBl I J o n kl) (hF : ∀ F, bP kl (gq J o) F = (gb_ops ps F k0).1) : (∀ k ∈ kl, gq J o (gb_kp k) = zL (zN ps k0 k)) ∧ ∀ k, k ∉ kl → zL (zN ps k0 k) = qZ := by
  have c := h.2.2.1
  have e : ∀ k i, (if k ∈ kl then qc (gq J o (gb_kp k)) i else 0) = qc (zL (zN ps k0 k)) i := fun k i => by
    rw [← zN_c, ← hF, bP_pt kl c]
  refine ⟨fun k hk => qc_ext (fun i _ => ?_), fun k hk => qc_ext (fun i _ => ?_)⟩
  · rw [← e k i, if_pos hk]
  · rw [← e k i, if_neg hk]
    unfold qc qZ
    split <;> (try rfl)
    split <;> (try rfl)
    split <;> rfl
theorem xBl.sumU (h : xBl I J o n kl) (hF : ∀ F, bP kl (gq J o) F = (gb_ops ps F k0).1) (g3 : g ≤ 3) (hw : gb_wl cs ls ps) (l3 : ls ≤ 3) (hk : zk_ad g ls k0) (P : Nat → Bool) :
    bS kl (fun k => if P k = true then wU (gq J o) k else 0) = iL (pU g ps k0 P) ∧ bS kl (fun k => if P k = true then wV (gq J o) k else 0) = iL (pV g ps k0 P) := by
  obtain ⟨n1, n2⟩ := h.num hF
  have zu : qU qZ = 0 := by rfl
  have zv : qV qZ = 0 := by rfl
  have z0 : zL zZ = qZ := rfl
  unfold pU pV
  rw [← iS_L, ← iS_L]
  constructor
  · rw [bS_words g3 _ kl h.2.2.1 (fun k hk' na => by
      show (if P k = true then wU (gq J o) k else 0) = 0
      unfold wU
      rw [n1 k hk', zN_0 hw l3 hk na, z0, zu, Int64.zero_mul, ite_self])]
    refine gS_congr _ (fun w _ => ?_)
    by_cases a : gw_so g w = true
    · by_cases b : P (gw_k g w) = true
      · rw [if_pos (show gw_so g w = true ∧ P (gw_k g w) = true from ⟨a, b⟩), if_pos b]
        by_cases c : gw_k g w ∈ kl
        · rw [if_pos (show gw_so g w = true ∧ gw_k g w ∈ kl from ⟨a, c⟩)]
          unfold wU
          rw [n1 _ c, qU_L, lN_iL, iL_mul]
        · rw [if_neg (fun z : gw_so g w = true ∧ gw_k g w ∈ kl => c z.2), ← iL_mul, ← qU_L, n2 _ c, zu, Int64.zero_mul]
      · rw [if_neg (fun z : gw_so g w = true ∧ P (gw_k g w) = true => b z.2), if_neg b, ite_self]
        rfl
    · rw [if_neg (fun z : gw_so g w = true ∧ P (gw_k g w) = true => a z.1), if_neg (fun z : gw_so g w = true ∧ gw_k g w ∈ kl => a z.1)]
      rfl
  · rw [bS_words g3 _ kl h.2.2.1 (fun k hk' na => by
      show (if P k = true then wV (gq J o) k else 0) = 0
      unfold wV
      rw [n1 k hk', zN_0 hw l3 hk na, z0, zv, Int64.zero_mul, ite_self])]
    refine gS_congr _ (fun w _ => ?_)
    by_cases a : gw_so g w = true
    · by_cases b : P (gw_k g w) = true
      · rw [if_pos (show gw_so g w = true ∧ P (gw_k g w) = true from ⟨a, b⟩), if_pos b]
        by_cases c : gw_k g w ∈ kl
        · rw [if_pos (show gw_so g w = true ∧ gw_k g w ∈ kl from ⟨a, c⟩)]
          unfold wV
          rw [n1 _ c, qV_L, lN_iL, iL_mul]
        · rw [if_neg (fun z : gw_so g w = true ∧ gw_k g w ∈ kl => c z.2), ← iL_mul, ← qV_L, n2 _ c, zv, Int64.zero_mul]
      · rw [if_neg (fun z : gw_so g w = true ∧ P (gw_k g w) = true => b z.2), if_neg b, ite_self]
        rfl
    · rw [if_neg (fun z : gw_so g w = true ∧ P (gw_k g w) = true => a z.1), if_neg (fun z : gw_so g w = true ∧ gw_k g w ∈ kl => a z.1)]
      rfl
end SUMS
