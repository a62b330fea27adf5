section SUPP
variable {p : gb_P} {ps : List gb_P} {cs ls g k k0 i w : Nat} {F G : Nat → zq}
theorem zk_tg (hw : gb_wp cs ls p) (l3 : ls ≤ 3) {s : Nat} (h : s < 11 + 2 * ls) {e : gb_br} (he : e ∈ gb_tb p 2 s) : e.2.2.2 < 11 + 2 * gb_nl ls p ∧ e.2.2.2 < 17 ∧ (e.2.2.2 = 0 ↔ s = 0) := by
  rcases Nat.eq_zero_or_pos s with z | z
  · subst z
    rw [gb_tb_z he]
    refine ⟨by show 0 < _; omega, by decide, by simp⟩
  · obtain ⟨a, b, c⟩ := gb_tb_n hw z h l3 e he
    exact ⟨b, c, by omega⟩
theorem zk_ad_t (hw : gb_wp cs ls p) (l3 : ls ≤ 3) (hk : zk_ad g ls k) {ex ey ez : gb_br} (hx : ex ∈ gb_tb p 2 (k % 32)) (hy : ey ∈ gb_tb p 2 (k / 32 % 32)) (hz : ez ∈ gb_tb p 2 (k / 1024)) : zk_ad g (gb_nl ls p) (gb_ky ex.2.2.2 ey.2.2.2 ez.2.2.2) := by
  obtain ⟨h1, h2, h3⟩ := hk
  have h1' := h1
  unfold gb_sk at h1'
  obtain ⟨a1, a2, a3⟩ := zk_tg hw l3 (by omega) hx
  obtain ⟨b1, b2, b3⟩ := zk_tg hw l3 (by omega) hy
  obtain ⟨c1, c2, c3⟩ := zk_tg hw l3 (by omega) hz
  obtain ⟨d1, d2, d3, d4⟩ := gb_ky_s a2 b2 c2
  refine ⟨d1, ?_, ?_⟩
  · rw [zk_nz_ky a2 b2 c2, ← h2]
    unfold zk_nz
    simp only [a3, b3, c3]
  · rw [d4]
    unfold gb_ma
    omega
theorem gb_nl_le (ls : Nat) (p : gb_P) : ls ≤ gb_nl ls p := by
  unfold gb_nl
  split <;> omega
theorem gb_nl_3 (hw : gb_wp cs ls p) (l3 : ls ≤ 3) : gb_nl ls p ≤ 3 := by
  have := hw.2.2.2.2.1
  unfold gb_nl
  split
  · next c => have := (this c).2; omega
  · exact l3
theorem zop_congr (hw : gb_wp cs ls p) (l3 : ls ≤ 3) (hk : zk_ad g ls k) (h : ∀ k', zk_ad g (gb_nl ls p) k' → F k' = G k') : zop p F k = zop p G k := by
  unfold zop
  by_cases a : gb_ac p k = true
  · rw [if_pos a, if_pos a]
    unfold zG
    refine zLs_congr _ (fun ex hx => zLs_congr _ (fun ey hy => zLs_congr _ (fun ez hz => ?_)))
    unfold zC
    rw [h _ (zk_ad_t hw l3 hk hx hy hz)]
  · rw [if_neg a, if_neg a, h k ⟨hk.1, hk.2.1, by have := hk.2.2; have := gb_nl_le ls p; omega⟩]
theorem zops_congr : ∀ {ps : List gb_P} {cs ls k : Nat}, gb_wl cs ls ps → ls ≤ 3 → zk_ad g ls k → (∀ k', zk_ad g 3 k' → F k' = G k') → zops ps F k = zops ps G k
  | [], cs, ls, k, _, l3, hk, h => h k ⟨hk.1, hk.2.1, by have := hk.2.2; omega⟩
  | p :: ps, cs, ls, k, hw, l3, hk, h => by
    unfold zops
    by_cases a : p.1 = 5
    · rw [if_pos a, if_pos a]
      exact zops_congr hw.2 (gb_nl_3 hw.1 l3) ⟨hk.1, hk.2.1, by have := hk.2.2; have := gb_nl_le ls p; omega⟩ h
    · rw [if_neg a, if_neg a]
      exact zop_congr hw.1 l3 hk (fun k' hk' => zops_congr hw.2 (gb_nl_3 hw.1 l3) hk' h)
theorem zC_0 (ex ey ez : gb_br) : zC (fun _ => zZ) ex ey ez = zZ := by
  unfold zC
  rw [zM_Z]
theorem zop_0 : zop p (fun _ => zZ) k = zZ := by
  unfold zop
  split
  · unfold zG
    simp only [zC_0, zLs_0]
  · rw [zM_Z]
theorem zops_0 : ∀ (ps : List gb_P) (k : Nat), zops ps (fun _ => zZ) k = zZ
  | [], _ => rfl
  | p :: ps, k => by
    unfold zops
    split
    · exact zops_0 ps k
    · rw [show zops ps (fun _ => zZ) = (fun _ => zZ) from funext (zops_0 ps)]
      exact zop_0
/-- products of another number of grains never come -/
theorem zN_0 (hw : gb_wl cs ls ps) (l3 : ls ≤ 3) (hk : zk_ad g ls k0) (h : ¬ zk_ad g 3 k) : zN ps k0 k = zZ := by
  unfold zN
  rw [← zops_0 ps k0]
  refine zops_congr hw l3 hk (fun k' hk' => ?_)
  unfold zpt
  have ne : ¬ k' = k := fun e => h (by rw [← e]; exact hk')
  rw [if_neg ne]
/-- rising words and the products with g grains -/
def gw_so (g w : Nat) : Bool := decide ((2 ≤ g → gw_m g w 0 ≤ gw_m g w 1) ∧ (3 ≤ g → gw_m g w 1 ≤ gw_m g w 2))
def gk_w (g k : Nat) : Nat := if g = 0 then 0 else if g = 1 then k / 1024 - 1 else if g = 2 then 16 * (k / 32 % 32 - 1) + (k / 1024 - 1) else 256 * (k % 32 - 1) + 16 * (k / 32 % 32 - 1) + (k / 1024 - 1)
theorem zk_ad_0 : zk_ad 0 3 k ↔ k = 0 := by
  unfold zk_ad gb_sk zk_nz
  constructor
  · rintro ⟨⟨a, b, c⟩, d, _⟩
    split at d <;> split at d <;> split at d <;> omega
  · intro e; subst e; decide
theorem gw_k_so (g3 : g ≤ 3) (hk : zk_ad g 3 k) : gk_w g k < 16 ^ g ∧ gw_so g (gk_w g k) = true ∧ gw_k g (gk_w g k) = k := by
  obtain ⟨h1, h2, h3⟩ := hk
  have h1' := h1
  unfold gb_sk at h1'
  unfold zk_nz at h2
  have key := gb_ky_of h1
  match g, g3 with
  | 0, _ =>
    have : k = 0 := zk_ad_0.mp ⟨h1, h2, h3⟩
    subst this
    decide
  | 1, _ =>
    have e1 : k % 32 = 0 := by (try split at h2) <;> (try split at h2) <;> (try split at h2) <;> omega
    have e2 : k / 32 % 32 = 0 := by (try split at h2) <;> (try split at h2) <;> (try split at h2) <;> omega
    have e3 : k / 1024 ≠ 0 := by (try split at h2) <;> (try split at h2) <;> (try split at h2) <;> omega
    rw [e1, e2] at key
    refine ⟨by show k / 1024 - 1 < 16; omega, by unfold gw_so; simp, ?_⟩
    show gb_ky 0 0 ((k / 1024 - 1) / 16 ^ 0 % 16 + 1) = k
    rw [show (k / 1024 - 1) / 16 ^ 0 % 16 + 1 = k / 1024 by simp; omega]
    exact key
  | 2, _ =>
    have e1 : k % 32 = 0 := by (try split at h2) <;> (try split at h2) <;> (try split at h2) <;> omega
    have e2 : k / 32 % 32 ≠ 0 := by (try split at h2) <;> (try split at h2) <;> (try split at h2) <;> omega
    have e3 : k / 1024 ≠ 0 := by (try split at h2) <;> (try split at h2) <;> (try split at h2) <;> omega
    rw [e1] at key
    have m0 : gw_m 2 (gk_w 2 k) 0 = k / 32 % 32 - 1 := by
      show (16 * (k / 32 % 32 - 1) + (k / 1024 - 1)) / 16 ^ 1 % 16 = _
      simp; omega
    have m1 : gw_m 2 (gk_w 2 k) 1 = k / 1024 - 1 := by
      show (16 * (k / 32 % 32 - 1) + (k / 1024 - 1)) / 16 ^ 0 % 16 = _
      simp; omega
    refine ⟨by show 16 * (k / 32 % 32 - 1) + (k / 1024 - 1) < 256; omega, ?_, ?_⟩
    · unfold gw_so
      rw [m0, m1]
      simp; omega
    · show gb_ky 0 (gw_m 2 (gk_w 2 k) 0 + 1) (gw_m 2 (gk_w 2 k) 1 + 1) = k
      rw [m0, m1, show k / 32 % 32 - 1 + 1 = k / 32 % 32 by omega, show k / 1024 - 1 + 1 = k / 1024 by omega]
      exact key
  | 3, _ =>
    have e1 : k % 32 ≠ 0 := by (try split at h2) <;> (try split at h2) <;> (try split at h2) <;> omega
    have m0 : gw_m 3 (gk_w 3 k) 0 = k % 32 - 1 := by
      show (256 * (k % 32 - 1) + 16 * (k / 32 % 32 - 1) + (k / 1024 - 1)) / 16 ^ 2 % 16 = _
      simp; omega
    have m1 : gw_m 3 (gk_w 3 k) 1 = k / 32 % 32 - 1 := by
      show (256 * (k % 32 - 1) + 16 * (k / 32 % 32 - 1) + (k / 1024 - 1)) / 16 ^ 1 % 16 = _
      simp; omega
    have m2 : gw_m 3 (gk_w 3 k) 2 = k / 1024 - 1 := by
      show (256 * (k % 32 - 1) + 16 * (k / 32 % 32 - 1) + (k / 1024 - 1)) / 16 ^ 0 % 16 = _
      simp; omega
    refine ⟨by show 256 * (k % 32 - 1) + 16 * (k / 32 % 32 - 1) + (k / 1024 - 1) < 4096; omega, ?_, ?_⟩
    · unfold gw_so
      rw [m0, m1, m2]
      simp; omega
    · show gb_ky (gw_m 3 (gk_w 3 k) 0 + 1) (gw_m 3 (gk_w 3 k) 1 + 1) (gw_m 3 (gk_w 3 k) 2 + 1) = k
      rw [m0, m1, m2, show k % 32 - 1 + 1 = k % 32 by omega, show k / 32 % 32 - 1 + 1 = k / 32 % 32 by omega, show k / 1024 - 1 + 1 = k / 1024 by omega]
      exact key
theorem gw_so_k (g3 : g ≤ 3) (hw : w < 16 ^ g) (h : gw_so g w = true) : gk_w g (gw_k g w) = w := by
  have s := of_decide_eq_true h
  match g, g3 with
  | 0, _ => show 0 = w; simp at hw; omega
  | 1, _ =>
    have hw' : w < 16 := hw
    show gb_ky 0 0 (gw_m 1 w 0 + 1) / 1024 - 1 = w
    have m0 : gw_m 1 w 0 = w := by show w / 16 ^ 0 % 16 = w; simp; omega
    rw [m0]
    unfold gb_ky gb_mi gb_ma
    omega
  | 2, _ =>
    have hw' : w < 256 := hw
    have s0 := s.1 (by decide)
    have b0 := gw_m_b (g := 2) (w := w) (j := 0)
    have b1 := gw_m_b (g := 2) (w := w) (j := 1)
    have e : w = 16 * gw_m 2 w 0 + gw_m 2 w 1 := by
      show w = 16 * (w / 16 ^ 1 % 16) + w / 16 ^ 0 % 16
      simp; omega
    show 16 * (gb_ky 0 (gw_m 2 w 0 + 1) (gw_m 2 w 1 + 1) / 32 % 32 - 1) + (gb_ky 0 (gw_m 2 w 0 + 1) (gw_m 2 w 1 + 1) / 1024 - 1) = w
    obtain ⟨q1, q2, q3, q4⟩ := gb_ky_s (x := 0) (y := gw_m 2 w 0 + 1) (z := gw_m 2 w 1 + 1) (by decide) (by omega) (by omega)
    rw [q3, q4]
    unfold gb_mi gb_ma
    omega
  | 3, _ =>
    have hw' : w < 4096 := hw
    have s0 := s.1 (by decide)
    have s1 := s.2 (by decide)
    have b0 := gw_m_b (g := 3) (w := w) (j := 0)
    have b1 := gw_m_b (g := 3) (w := w) (j := 1)
    have b2 := gw_m_b (g := 3) (w := w) (j := 2)
    have e : w = 256 * gw_m 3 w 0 + 16 * gw_m 3 w 1 + gw_m 3 w 2 := by
      show w = 256 * (w / 16 ^ 2 % 16) + 16 * (w / 16 ^ 1 % 16) + w / 16 ^ 0 % 16
      simp; omega
    show 256 * (gb_ky (gw_m 3 w 0 + 1) (gw_m 3 w 1 + 1) (gw_m 3 w 2 + 1) % 32 - 1) + 16 * (gb_ky (gw_m 3 w 0 + 1) (gw_m 3 w 1 + 1) (gw_m 3 w 2 + 1) / 32 % 32 - 1) + (gb_ky (gw_m 3 w 0 + 1) (gw_m 3 w 1 + 1) (gw_m 3 w 2 + 1) / 1024 - 1) = w
    obtain ⟨q1, q2, q3, q4⟩ := gb_ky_s (x := gw_m 3 w 0 + 1) (y := gw_m 3 w 1 + 1) (z := gw_m 3 w 2 + 1) (by omega) (by omega) (by omega)
    rw [q2, q3, q4]
    unfold gb_mi gb_ma
    omega
theorem gw_k_ad (g3 : g ≤ 3) : zk_ad g 3 (gw_k g w) := by
  have b0 : ∀ g w j, gw_m g w j + 1 < 17 := fun g w j => by have := gw_m_b (g := g) (w := w) (j := j); omega
  have fin : ∀ {x y z n : Nat}, x < 17 → y < 17 → z < 17 → (if x = 0 then 0 else 1) + (if y = 0 then 0 else 1) + (if z = 0 then 0 else 1) = n → zk_ad n 3 (gb_ky x y z) := fun {x y z n} hx hy hz hn => by
    obtain ⟨q1, q2, q3, q4⟩ := gb_ky_s hx hy hz
    refine ⟨q1, (zk_nz_ky hx hy hz).trans hn, ?_⟩
    rw [q4]
    unfold gb_ma
    omega
  match g, g3 with
  | 0, _ => exact fin (by decide) (by decide) (by decide) rfl
  | 1, _ => exact fin (by decide) (by decide) (b0 1 w 0) (by rw [if_pos rfl, if_neg (by omega)])
  | 2, _ => exact fin (by decide) (b0 2 w 0) (b0 2 w 1) (by rw [if_pos rfl, if_neg (by omega), if_neg (by omega)])
  | 3, _ => exact fin (b0 3 w 0) (b0 3 w 1) (b0 3 w 2) (by rw [if_neg (by omega), if_neg (by omega), if_neg (by omega)])
end SUPP
