section XMET
variable {S : gb_S} {I I' I1 I2 : gb_FI} {J J' J1 J2 : gb_FJ} {gs : List Nat} {sh : List gb_P} {ps qs : List gb_P} {pl n g k m q o N : Nat} {r b pre : List Nat} {kl : List Nat} {p : gb_P}
theorem x_joins (hq : ∀ (I : gb_FI) (J : gb_FJ), gb_k (gb_mk I J) q 5 = true) (hp : xP (I q) p) (ok : gb_pOK p) : fnX5_joinsPaths q (gb_mk I J) = some (if gjn p = true then 1 else 0, gb_mk I J) := by
  have p5 := ok.1
  unfold fnX5_joinsPaths fbX5_joinsPaths_15 fbX5_joinsPaths_20 gjn
  rw [hq, gb_gd_t, gb_gd_t, gb_I_mk, hp.1, gb_b_0, gb_b_1, gb_gd_t, gb_gd_t]
  by_cases a : p.1 = 0
  · rw [if_pos (show nI p.1 = 0 by rw [a]; rfl), if_pos (decide_eq_true (Or.inl a))]
  · rw [if_neg (show ¬ nI p.1 = 0 from fun z => a ((nI_eq (b := 0) (by omega) (by omega)).mp z))]
    by_cases b : p.1 = 3
    · rw [if_pos (show nI p.1 = 3 by rw [b]; rfl), if_pos (decide_eq_true (Or.inr b))]
    · rw [if_neg (show ¬ nI p.1 = 3 from fun z => b ((nI_eq (b := 3) (by omega) (by omega)).mp z)), if_neg (fun z => by have := of_decide_eq_true z; omega)]
theorem gb_gi_b3 (k t : Nat) : gb_gi k t ≤ 3 := by
  unfold gb_gi
  split <;> split <;> split <;> omega
theorem x_met2 (hB : gb_BM o N) (h : xBl I J o N kl) (hq : ∀ (I : gb_FI) (J : gb_FJ), gb_k (gb_mk I J) q 5 = true) (hp : xP (I q) p) (ok : gb_pOK p) : ∀ k i F, i + k = kl.length → k < F → ∃ v : Int32, lpX0_isMetBy_2 F o q (nI i) (gb_mk I J) = some (v, gb_mk I J) ∧ ((∃ a key, i ≤ a ∧ kl[a]? = some key ∧ 0 < gmet p key ∧ gq J o (gb_kp key) ≠ qZ) → v = 1) ∧ ((¬ ∃ a key, i ≤ a ∧ kl[a]? = some key ∧ 0 < gmet p key ∧ gq J o (gb_kp key) ≠ qZ) → v = 0) := by
  have hlen := h.len
  have hn := hB.1
  have hO := hB.2
  obtain ⟨a1, a2, a3, a4⟩ := id h
  have k0 : ∀ (I : gb_FI) (J : gb_FJ), gb_k (gb_mk I J) o 0 = true := fun I J => (hO I J).1
  have r0 : ∀ (I : gb_FI) (J : gb_FJ), gb_R (gb_mk I J) o 0 = some (o + 1) := fun I J => (hO I J).2.1
  have d1 : ∀ (I : gb_FI) (J : gb_FJ), gb_kd (gb_mk I J) (o + 1) = (20, N) := fun I J => (hO I J).2.2.2.2.2.2.2.1
  have kk1 : ∀ (I : gb_FI) (J : gb_FJ), gb_k (gb_mk I J) (o + 1) 20 = true := fun I J => by simp [gb_k, d1]
  intro k
  induction k with
  | zero =>
    intro i F hi hF
    obtain ⟨F, rfl⟩ : ∃ f, F = f + 1 := ⟨F - 1, by omega⟩
    refine ⟨0, ?_, fun ⟨a, key, ha, hk, _⟩ => by have := (List.getElem?_eq_some_iff.mp hk).1; omega, fun _ => rfl⟩
    rw [show lpX0_isMetBy_2 (F + 1) o q (nI i) (gb_mk I J) = fbX0_isMetBy_2 (fun v0 v1 v2 h => lpX0_isMetBy_2 F v0 v1 v2 h) o q (nI i) (gb_mk I J) from rfl]
    unfold fbX0_isMetBy_2
    rw [k0, gb_gd_t, gb_I_mk, a1, if_pos (nI_le (by omega) (by omega))]
  | succ k ih =>
    intro i F hi hF
    obtain ⟨F, rfl⟩ : ∃ f, F = f + 1 := ⟨F - 1, by omega⟩
    have il : i < kl.length := by omega
    obtain ⟨key, hkey⟩ : ∃ key, kl[i]? = some key := ⟨kl[i], List.getElem?_eq_getElem il⟩
    obtain ⟨e1, e2, e3, e4⟩ := a2 i key hkey
    have i1 : gb_in (gb_mk I J) (o + 1) (nI i) = true := gb_in_k (by rw [d1]) (by omega) (by omega)
    have b1 := gb_gi_b3 key (p.2.1 + 1)
    have b2 := gb_gi_b3 key (p.2.2.1 + 1)
    have o1 := ok.2.1
    have o2 := ok.2.2.1
    obtain ⟨v, w1, w2, w3⟩ := ih (i + 1) F (by omega) (by omega)
    have next : ¬ (0 < gmet p key ∧ gq J o (gb_kp key) ≠ qZ) → ∃ v : Int32, fbX0_isMetBy_77 (fun v0 v1 v2 h => lpX0_isMetBy_2 F v0 v1 v2 h) o q (nI i) (gb_mk I J) = some (v, gb_mk I J) ∧ ((∃ a key, i ≤ a ∧ kl[a]? = some key ∧ 0 < gmet p key ∧ gq J o (gb_kp key) ≠ qZ) → v = 1) ∧ ((¬ ∃ a key, i ≤ a ∧ kl[a]? = some key ∧ 0 < gmet p key ∧ gq J o (gb_kp key) ≠ qZ) → v = 0) := fun no => by
      refine ⟨v, ?_, fun ⟨a, key', ha, hk, hm⟩ => w2 ⟨a, key', ?_, hk, hm⟩, fun z => w3 (fun ⟨a, key', ha, hk, hm⟩ => z ⟨a, key', by omega, hk, hm⟩)⟩
      · unfold fbX0_isMetBy_77
        rw [gb_lt_d, nI_1]
        exact w1
      · rcases Nat.lt_or_ge i a with c | c
        · exact c
        · obtain rfl : a = i := by omega
          rw [hkey] at hk
          rw [← Option.some.inj hk] at hm
          exact absurd hm no
    have hit : 0 < gmet p key ∧ gq J o (gb_kp key) ≠ qZ → ∃ a key, i ≤ a ∧ kl[a]? = some key ∧ 0 < gmet p key ∧ gq J o (gb_kp key) ≠ qZ := fun hm => ⟨i, key, Nat.le_refl _, hkey, hm⟩
    have f53 : ∀ s1 : Nat, gb_gi key (p.2.1 + 1) + s1 = gmet p key → ∃ v : Int32, fbX0_isMetBy_53 (fun v0 v1 v2 h => lpX0_isMetBy_2 F v0 v1 v2 h) o q (nI i) (nI (gb_gi key (p.2.1 + 1))) (nI s1) (gb_mk I J) = some (v, gb_mk I J) ∧ ((∃ a key, i ≤ a ∧ kl[a]? = some key ∧ 0 < gmet p key ∧ gq J o (gb_kp key) ≠ qZ) → v = 1) ∧ ((¬ ∃ a key, i ≤ a ∧ kl[a]? = some key ∧ 0 < gmet p key ∧ gq J o (gb_kp key) ≠ qZ) → v = 0) := fun s1 es => by
      have mb : gmet p key ≤ 6 := by unfold gmet; split <;> omega
      unfold fbX0_isMetBy_53
      rw [gb_lt_d, nI_add, es]
      by_cases c : 0 < gmet p key
      · rw [if_neg (show ¬ nI (gmet p key) ≤ 0 from nI_ge (a := 0) c (by omega)), k0, gb_gd_t, r0, gb_rd_s, kk1, gb_gd_t, i1, gb_gd_t, gb_I_mk, nI_clamp (by omega), e1, x_place e2, gb_bd_s, k0, gb_gd_t, x_isZero hB e3, gb_bd_s]
        by_cases z : gq J o (gb_kp key) = qZ
        · rw [if_pos z, if_neg gb_n10]
          exact next (fun hm => hm.2 z)
        · rw [if_neg z, if_pos (show (0 : Int32) = 0 from rfl)]
          exact ⟨1, rfl, fun _ => rfl, fun no => absurd (hit ⟨c, z⟩) no⟩
      · rw [if_pos (show nI (gmet p key) ≤ 0 from nI_le (b := 0) (by omega) (by omega))]
        exact next (fun hm => c hm.1)
    rw [show lpX0_isMetBy_2 (F + 1) o q (nI i) (gb_mk I J) = fbX0_isMetBy_2 (fun v0 v1 v2 h => lpX0_isMetBy_2 F v0 v1 v2 h) o q (nI i) (gb_mk I J) from rfl]
    unfold fbX0_isMetBy_2
    rw [k0, gb_gd_t, gb_I_mk, a1, if_neg (nI_ge il (by omega)), gb_gd_t, r0, gb_rd_s, kk1, gb_gd_t, i1, gb_gd_t, hq, gb_gd_t, nI_clamp (by omega), e1, hp.2.1, nI_1, x_grainsIn e2 (by omega), gb_bd_s, hq, gb_gd_t, x_joins hq hp ok, gb_bd_s]
    by_cases j : gjn p = true
    · rw [if_pos j, if_neg gb_n10, k0, gb_gd_t, r0, gb_rd_s, kk1, gb_gd_t, i1, gb_gd_t, hq, gb_gd_t, gb_I_mk, e1, hp.2.2.1, nI_1, x_grainsIn e2 (by omega), gb_bd_s]
      exact f53 _ (by unfold gmet; rw [if_pos j])
    · rw [if_neg j, if_pos (show (0 : Int32) = 0 from rfl)]
      exact f53 0 (by unfold gmet; rw [if_neg j])
/-- whether a part meets a grain behind a row -/
theorem x_isMet (g3 : gs.length ≤ 3) (hgs : ∀ m ∈ gs, m < 10) (hw : gb_wl 0 0 ps) (hB : gb_BM o 286) (hm : gBm gs ps o I J) (hq : ∀ (I : gb_FI) (J : gb_FJ), gb_k (gb_mk I J) q 5 = true) (hp : xP (I q) p) (ok : gb_pOK p) : ∃ v : Int32, fnX0_isMetBy o q (gb_mk I J) = some (v, gb_mk I J) ∧ (gMet gs.length ps (gb_k0 gs) p → v = 1) ∧ (¬ gMet gs.length ps (gb_k0 gs) p → v = 0) := by
  obtain ⟨kl, h, hF⟩ := hm
  obtain ⟨n1, n2⟩ := h.num hF
  obtain ⟨v, s1, s2, s3⟩ := x_met2 hB h hq hp ok kl.length 0 gb_FU (by omega) (show kl.length < 1000000 by have := h.len; omega)
  refine ⟨v, s1, fun ⟨k, k1, k2, k3⟩ => s2 ?_, fun no => s3 (fun ⟨a, key, ha, hk, m1, m2⟩ => no ⟨key, ?_, ?_, m1⟩)⟩
  · have km : k ∈ kl := Classical.byContradiction (fun z => k2 (n2 k z))
    obtain ⟨a, ha⟩ := List.mem_iff_getElem?.mp km
    exact ⟨a, k, by omega, ha, k3, by rw [n1 k km]; exact k2⟩
  · refine Classical.byContradiction (fun z => ?_)
    have km : key ∈ kl := List.mem_of_getElem? hk
    rw [n1 key km, zN_0 hw (by decide) (gb_k0_ad hgs g3) z] at m2
    exact m2 rfl
  · have km : key ∈ kl := List.mem_of_getElem? hk
    rw [n1 key km] at m2
    exact m2
end XMET
