section LIGHT
variable {I I' I1 I2 : gb_FI} {J J' J1 J2 : gb_FJ} {b : Nat} {kl : List Nat} {p : gb_P} {ps : List gb_P}
/-- what a row of parts makes of a functional -/
def gb_ops : List gb_P → (Nat → gb_q) → Nat → gb_q
  | [], F => F
  | p :: ps, F => if p.1 = 5 then gb_ops ps F else gb_op p (gb_ops ps F)
theorem x_begin {o n k : Nat} (hB : gb_BM o n) (h : xBl I J o n kl) (hk : gb_sk k) (hp : gb_kp k < n) : ∃ I' J', ∃ kl' : List Nat, fnX0_begin o (nI k) (gb_mk I J) = some ((), gb_mk I' J') ∧ xBl I' J' o n kl' ∧ gb_fB o I I' J J' ∧ ∀ F, bP kl' (gq J' o) F = (F k).1 := by
  obtain ⟨I0, J0, w1, w2, w3⟩ := x_wipe (I := I) (J := J) hB h
  obtain ⟨I1, J1, kl1, a1, a2, a3, a4⟩ := x_add hB w2 hk hp (1, 0, 0, 0)
  have k0 : ∀ (I : gb_FI) (J : gb_FJ), gb_k (gb_mk I J) o 0 = true := fun I J => (hB.2 I J).1
  refine ⟨I1, J1, kl1, ?_, a2, w3.t a3, fun F => ?_⟩
  · unfold fnX0_begin
    rw [k0, gb_gd_t, w1, gb_bd_s, x_place hk, gb_bd_s, k0, gb_gd_t, a1, gb_bd_s]
  · rw [a4 F]
    show 0 + q4 (1, 0, 0, 0) (F k) = (F k).1
    unfold q4
    grind
/-- the optic and the two beams alone have moved -/
def gb_fLi (I I' : gb_FI) (J J' : gb_FJ) : Prop := ∀ m, (m < 133 ∨ 138 < m) → (m < 224 ∨ 237 < m) → I' m = I m ∧ J' m = J m
theorem gb_fLi.t (x : gb_fLi I I1 J J1) (y : gb_fLi I1 I2 J1 J2) : gb_fLi I I2 J J2 := fun m h1 h2 => ⟨(y m h1 h2).1.trans (x m h1 h2).1, (y m h1 h2).2.trans (x m h1 h2).2⟩
theorem xBl.k {o n : Nat} (h : xBl I J o n kl) (k : ∀ m, o ≤ m → m ≤ o + 6 → I' m = I m ∧ J' m = J m) : xBl I' J' o n kl := by
  unfold xBl gq at *
  rw [(k o (by omega) (by omega)).1, (k (o + 1) (by omega) (by omega)).1, (k (o + 2) (by omega) (by omega)).1, (k (o + 3) (by omega) (by omega)).2, (k (o + 4) (by omega) (by omega)).2, (k (o + 5) (by omega) (by omega)).2, (k (o + 6) (by omega) (by omega)).2]
  exact h
theorem gb_BM224 : gb_BM 224 969 := gb_BMs (224, 969) (by decide)
theorem gb_BM231 : gb_BM 231 969 := gb_BMs (231, 969) (by decide)
/-- two beams, one after the other -/
def gb_2b (o o' : Nat) : Prop := (o = 224 ∧ o' = 231) ∨ (o = 231 ∧ o' = 224)
theorem gb_2b.bm {o o' : Nat} (h : gb_2b o o') : gb_BM o 969 ∧ gb_BM o' 969 ∧ 138 < o ∧ 138 < o' ∧ (o + 6 < o' ∨ o' + 6 < o) ∧ 224 ≤ o ∧ o ≤ 231 ∧ 224 ≤ o' ∧ o' ≤ 231 := by
  rcases h with ⟨rfl, rfl⟩ | ⟨rfl, rfl⟩
  · exact ⟨gb_BM224, gb_BM231, by decide, by decide, by decide, by decide, by decide, by decide, by decide⟩
  · exact ⟨gb_BM231, gb_BM224, by decide, by decide, by decide, by decide, by decide, by decide, by decide⟩
end LIGHT
