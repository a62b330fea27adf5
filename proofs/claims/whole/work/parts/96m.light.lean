section LIGHT3
variable {I I' I1 I2 : gb_FI} {J J' J1 J2 : gb_FJ} {b : Nat} {kl : List Nat} {p : gb_P} {ps : List gb_P}
theorem x_light {k : Nat} (hb : b < 4) (hl : ps.length ≤ 16) (h1 : I (24 + 23 * b) 1 = nI ps.length) (hp : ∀ i p, ps[i]? = some p → gb_pOK p ∧ xP (I (26 + 23 * b + i)) p) (hne : ∀ p ∈ ps, (p.1 = 0 ∨ p.1 = 3) → p.2.2.1 ≠ p.2.1) (hk : gb_sk k) (hA : ∃ kl, xBl I J 224 969 kl) (hB : ∃ kl, xBl I J 231 969 kl) :
    ∃ o2 o2' I2 J2, ∃ kl2 : List Nat, fnX10_lightThrough 0 (24 + 23 * b) (nI k) (gb_mk I J) = some (o2, gb_mk I2 J2) ∧ gb_2b o2 o2' ∧ xBl I2 J2 o2 969 kl2 ∧ (∃ kl2', xBl I2 J2 o2' 969 kl2') ∧ gb_fLi I I2 J J2 ∧ ∀ F, bP kl2 (gq J2 o2) F = (gb_ops ps F k).1 := by
  obtain ⟨kA, hA⟩ := hA
  obtain ⟨kB, hB⟩ := hB
  obtain ⟨I1, J1, kl1, a1, a2, a3, a4⟩ := x_begin (I := I) (J := J) gb_BM224 hA hk (gb_kp_b hk)
  have f1 : gb_fLi I I1 J J1 := fun m m1 m2 => a3 m (by omega)
  obtain ⟨o2, o2', I2, J2, kl2, c1, c2, c3, c4, c5, c6⟩ := x_light19 (I := I) (J := J) hb hl h1 hp hne ps.length 0 gb_FU 224 231 I1 J1 kl1 (by omega) (show ps.length < 1000000 by omega) (Or.inl ⟨rfl, rfl⟩) a2 ⟨kB, hB.k (fun m m1 m2 => a3 m (by omega))⟩ f1
  refine ⟨o2, o2', I2, J2, kl2, ?_, c2, c3, c4, c5, fun F => by rw [c6 F, a4, List.drop_zero]⟩
  unfold fnX10_lightThrough
  rw [gk0, gb_gd_t, gr0_8, gb_rd_s, gb_gd_t, gr0_9, gb_rd_s, gk224, gb_gd_t, a1, gb_bd_s]
  rw [show (0 : Int32) = nI 0 from rfl]
  exact c1
end LIGHT3
