section START2
theorem g1_e : ∀ q ∈ gb_beams, gI1 q.1 6 = 0 := by unfold gI1; rw [gb_H1_eq]; decide +kernel
def gz_c (h : gb_H) (o n : Nat) : Bool := (List.range n).all (fun p => gb_I h (o + 2) p == 0 && gb_L h (o + 3) p == 0 && gb_L h (o + 4) p == 0 && gb_L h (o + 5) p == 0 && gb_L h (o + 6) p == 0)
theorem g1_f : ∀ q ∈ gb_beams, gz_c gb_H1 q.1 q.2 = true := by rw [gb_H1_eq]; decide +kernel
theorem gz_s {o n : Nat} (h : gz_c gb_H1 o n = true) (e : gI1 o 6 = 0) : gb_bW (gI1 o 6) (gI1 (o + 1)) (gI1 (o + 2)) (gJ1 (o + 3)) (gJ1 (o + 4)) (gJ1 (o + 5)) (gJ1 (o + 6)) n := by
  refine ⟨[], e, fun i k hk => (by cases hk), fun i j k k' hk => (by cases hk), fun p hp => Or.inr ?_⟩
  have := List.all_eq_true.mp h p (List.mem_range.mpr hp)
  simp only [Bool.and_eq_true, beq_iff_eq] at this
  obtain ⟨⟨⟨⟨a1, a2⟩, a3⟩, a4⟩, a5⟩ := this
  exact ⟨a1, a2, a3, a4, a5⟩
theorem g1_R : gbR3 gS1 gI1 gJ1 := by
  obtain ⟨a1, a2, a3, a4, a5, a6, a7, b1, b2, b3, b4, b5, b6, b7⟩ := g1_a
  refine ⟨⟨⟨Nat.zero_le _, fun m hm => (by cases hm), a1, fun i hi => g1_d i hi⟩, a2, ⟨Nat.zero_le _, fun m hm => (by cases hm), a4, fun i b hb => (by cases hb)⟩, a3, fun b hb => ⟨Nat.zero_le _, (g1_b b hb).1, fun i p hp => (by cases hp)⟩, ⟨Nat.zero_le _, a5, fun i p hp => (by cases hp)⟩, fun i hi => ⟨show (0 : Nat) < 10 by decide, (g1_c i hi).1⟩, ⟨Nat.zero_le _, a6, fun i p hp => (by cases hp)⟩, a7, fun b hb => Or.inl (g1_b b hb).2.1, fun q hq => gz_s (g1_f q hq) (g1_e q hq)⟩, ⟨⟨b1, fun i m hm => (by cases hm)⟩, b2, ⟨b3, fun i m hm => (by cases hm)⟩, b4, fun b hb => ⟨(g1_b b hb).2.2, fun i p hp => (by cases hp)⟩, ⟨b5, fun i p hp => (by cases hp)⟩, fun i hi => ⟨show (0 : Nat) < 10 by decide, (g1_c i hi).2⟩, ⟨Nat.zero_le _, b6, fun i p hp => (by cases hp)⟩, b7⟩, fun b hb => trivial, fun p hp => (by cases hp)⟩
theorem gb_ctor_41 : (fnX10_init 0 (gb_nw gb_h0 10 0 16)).map (fun q => gb_cn q.2) = some 241 := by decide +kernel
theorem gb_ctor_2 : ∃ h4, fnX10_init 0 (gb_nw gb_h0 10 0 16) = some ((), h4) ∧ gb_cn h4 = 241 ∧ fnX11_init 241 (gb_nw h4 11 0 57) = some ((), gb_mk gI1 gJ1) := by
  have e := gb_ctor_eq
  have c := gb_ctor_41
  unfold gb_ctor at e
  obtain ⟨x, h4, e1, e2⟩ := gb_bdE e
  rw [e1] at c
  refine ⟨h4, e1, ?_, by rw [← gb_H1_mk]; exact e2⟩
  exact Option.some.inj c
end START2
