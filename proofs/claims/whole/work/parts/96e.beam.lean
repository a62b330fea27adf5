section BEAM
variable {I I' I1 I2 : gb_FI} {J J' J1 J2 : gb_FJ} {o n : Nat} {kl : List Nat}
/-- a beam with room n stands at o -/
def gb_BM (o n : Nat) : Prop := n ≤ 969 ∧ ∀ (I : gb_FI) (J : gb_FJ), gb_k (gb_mk I J) o 0 = true ∧ gb_R (gb_mk I J) o 0 = some (o + 1) ∧ gb_R (gb_mk I J) o 1 = some (o + 2) ∧ gb_R (gb_mk I J) o 2 = some (o + 3) ∧ gb_R (gb_mk I J) o 3 = some (o + 4) ∧ gb_R (gb_mk I J) o 4 = some (o + 5) ∧ gb_R (gb_mk I J) o 5 = some (o + 6) ∧ gb_kd (gb_mk I J) (o + 1) = (20, n) ∧ gb_kd (gb_mk I J) (o + 2) = (21, n) ∧ gb_kd (gb_mk I J) (o + 3) = (23, n) ∧ gb_kd (gb_mk I J) (o + 4) = (23, n) ∧ gb_kd (gb_mk I J) (o + 5) = (23, n) ∧ gb_kd (gb_mk I J) (o + 6) = (23, n)
theorem gb_BMs : ∀ q ∈ gb_beams, gb_BM q.1 q.2 := by
  intro q hq
  simp only [gb_beams, List.mem_cons, List.not_mem_nil, or_false] at hq
  rcases hq with e | e | e | e | e | e <;> subst e
  · exact ⟨by decide, fun I J => ⟨gk196, gr196_0, gr196_1, gr196_2, gr196_3, gr196_4, gr196_5, kd197, kd198, kd199, kd200, kd201, kd202⟩⟩
  · exact ⟨by decide, fun I J => ⟨gk203, gr203_0, gr203_1, gr203_2, gr203_3, gr203_4, gr203_5, kd204, kd205, kd206, kd207, kd208, kd209⟩⟩
  · exact ⟨by decide, fun I J => ⟨gk210, gr210_0, gr210_1, gr210_2, gr210_3, gr210_4, gr210_5, kd211, kd212, kd213, kd214, kd215, kd216⟩⟩
  · exact ⟨by decide, fun I J => ⟨gk217, gr217_0, gr217_1, gr217_2, gr217_3, gr217_4, gr217_5, kd218, kd219, kd220, kd221, kd222, kd223⟩⟩
  · exact ⟨by decide, fun I J => ⟨gk224, gr224_0, gr224_1, gr224_2, gr224_3, gr224_4, gr224_5, kd225, kd226, kd227, kd228, kd229, kd230⟩⟩
  · exact ⟨by decide, fun I J => ⟨gk231, gr231_0, gr231_1, gr231_2, gr231_3, gr231_4, gr231_5, kd232, kd233, kd234, kd235, kd236, kd237⟩⟩
/-- the numbers of a beam -/
def gq (J : gb_FJ) (o p : Nat) : gb_q := (J (o + 3) p, J (o + 4) p, J (o + 5) p, J (o + 6) p)
/-- a beam's products are those of kl -/
def xBl (I : gb_FI) (J : gb_FJ) (o n : Nat) (kl : List Nat) : Prop := I o 6 = nI kl.length ∧ (∀ (i k : Nat), kl[i]? = some k → I (o + 1) i = nI k ∧ gb_sk k ∧ gb_kp k < n ∧ I (o + 2) (gb_kp k) = 1) ∧ (∀ (i j k k' : Nat), kl[i]? = some k → kl[j]? = some k' → gb_kp k = gb_kp k' → i = j) ∧ ∀ p, p < n → (∃ k ∈ kl, gb_kp k = p) ∨ (I (o + 2) p = 0 ∧ gq J o p = qZ)
theorem gb_bW_l : gb_bW (I o 6) (I (o + 1)) (I (o + 2)) (J (o + 3)) (J (o + 4)) (J (o + 5)) (J (o + 6)) n ↔ ∃ kl, xBl I J o n kl := by
  have e : ∀ p, (J (o + 3) p = 0 ∧ J (o + 4) p = 0 ∧ J (o + 5) p = 0 ∧ J (o + 6) p = 0) ↔ gq J o p = qZ := fun p => by
    unfold gq qZ
    constructor
    · rintro ⟨a, b, c, d⟩; rw [a, b, c, d]
    · intro w
      injection w with a w
      injection w with b w
      injection w with c d
      exact ⟨a, b, c, d⟩
  unfold gb_bW xBl gb_sk
  constructor
  · rintro ⟨kl, a, b, c, d⟩
    exact ⟨kl, a, b, c, fun p hp => (d p hp).imp id (fun w => ⟨w.1, (e p).mp w.2⟩)⟩
  · rintro ⟨kl, a, b, c, d⟩
    exact ⟨kl, a, b, c, fun p hp => (d p hp).imp id (fun w => ⟨w.1, (e p).mpr w.2⟩)⟩
theorem xBl.len (h : xBl I J o n kl) : kl.length ≤ n := by
  obtain ⟨a, b, c, d⟩ := h
  have := gb_pig n (kl.map gb_kp) (fun i j x hi hj => by
    rw [List.getElem?_map] at hi hj
    cases e1 : kl[i]? with
    | none => rw [e1] at hi; exact absurd hi (by simp)
    | some k =>
      cases e2 : kl[j]? with
      | none => rw [e2] at hj; exact absurd hj (by simp)
      | some k' =>
        rw [e1] at hi
        rw [e2] at hj
        have h1 : gb_kp k = x := by simpa using hi
        have h2 : gb_kp k' = x := by simpa using hj
        exact c i j k k' e1 e2 (h1.trans h2.symm)) (fun x hx => by
    obtain ⟨k, hk, e⟩ := List.mem_map.mp hx
    obtain ⟨i, hi⟩ := List.mem_iff_getElem?.mp hk
    rw [← e]
    exact (b i k hi).2.2.1)
  have le := gb_cnt_le (fun p => decide (p ∈ kl.map gb_kp)) n
  rw [this, List.length_map] at le
  exact le
/-- nothing but the beam at o has moved -/
def gb_fB (o : Nat) (I I' : gb_FI) (J J' : gb_FJ) : Prop := ∀ m, m < o ∨ o + 6 < m → I' m = I m ∧ J' m = J m
theorem gb_fB.t (x : gb_fB o I I1 J J1) (y : gb_fB o I1 I2 J1 J2) : gb_fB o I I2 J J2 := fun m h => ⟨(y m h).1.trans (x m h).1, (y m h).2.trans (x m h).2⟩
theorem gb_fB.r : gb_fB o I I J J := fun _ _ => ⟨rfl, rfl⟩
theorem x_wipe (hB : gb_BM o n) (h : xBl I J o n kl) : ∃ I' J', fnX0_wipe o (gb_mk I J) = some ((), gb_mk I' J') ∧ xBl I' J' o n [] ∧ gb_fB o I I' J J' := by
  have hlen := h.len
  obtain ⟨hn, hO⟩ := hB
  have k0 : ∀ (I : gb_FI) (J : gb_FJ), gb_k (gb_mk I J) o 0 = true := fun I J => (hO I J).1
  have r0 : ∀ (I : gb_FI) (J : gb_FJ), gb_R (gb_mk I J) o 0 = some (o + 1) := fun I J => (hO I J).2.1
  have r1 : ∀ (I : gb_FI) (J : gb_FJ), gb_R (gb_mk I J) o 1 = some (o + 2) := fun I J => (hO I J).2.2.1
  have r2 : ∀ (I : gb_FI) (J : gb_FJ), gb_R (gb_mk I J) o 2 = some (o + 3) := fun I J => (hO I J).2.2.2.1
  have r3 : ∀ (I : gb_FI) (J : gb_FJ), gb_R (gb_mk I J) o 3 = some (o + 4) := fun I J => (hO I J).2.2.2.2.1
  have r4 : ∀ (I : gb_FI) (J : gb_FJ), gb_R (gb_mk I J) o 4 = some (o + 5) := fun I J => (hO I J).2.2.2.2.2.1
  have r5 : ∀ (I : gb_FI) (J : gb_FJ), gb_R (gb_mk I J) o 5 = some (o + 6) := fun I J => (hO I J).2.2.2.2.2.2.1
  have d1 : ∀ (I : gb_FI) (J : gb_FJ), gb_kd (gb_mk I J) (o + 1) = (20, n) := fun I J => (hO I J).2.2.2.2.2.2.2.1
  have d2 : ∀ (I : gb_FI) (J : gb_FJ), gb_kd (gb_mk I J) (o + 2) = (21, n) := fun I J => (hO I J).2.2.2.2.2.2.2.2.1
  have d3 : ∀ (I : gb_FI) (J : gb_FJ), gb_kd (gb_mk I J) (o + 3) = (23, n) := fun I J => (hO I J).2.2.2.2.2.2.2.2.2.1
  have d4 : ∀ (I : gb_FI) (J : gb_FJ), gb_kd (gb_mk I J) (o + 4) = (23, n) := fun I J => (hO I J).2.2.2.2.2.2.2.2.2.2.1
  have d5 : ∀ (I : gb_FI) (J : gb_FJ), gb_kd (gb_mk I J) (o + 5) = (23, n) := fun I J => (hO I J).2.2.2.2.2.2.2.2.2.2.2.1
  have d6 : ∀ (I : gb_FI) (J : gb_FJ), gb_kd (gb_mk I J) (o + 6) = (23, n) := fun I J => (hO I J).2.2.2.2.2.2.2.2.2.2.2.2
  have kk1 : ∀ (I : gb_FI) (J : gb_FJ), gb_k (gb_mk I J) (o + 1) 20 = true := fun I J => by simp [gb_k, d1]
  have kk2 : ∀ (I : gb_FI) (J : gb_FJ), gb_k (gb_mk I J) (o + 2) 21 = true := fun I J => by simp [gb_k, d2]
  have kk3 : ∀ (I : gb_FI) (J : gb_FJ), gb_k (gb_mk I J) (o + 3) 23 = true := fun I J => by simp [gb_k, d3]
  have kk4 : ∀ (I : gb_FI) (J : gb_FJ), gb_k (gb_mk I J) (o + 4) 23 = true := fun I J => by simp [gb_k, d4]
  have kk5 : ∀ (I : gb_FI) (J : gb_FJ), gb_k (gb_mk I J) (o + 5) 23 = true := fun I J => by simp [gb_k, d5]
  have kk6 : ∀ (I : gb_FI) (J : gb_FJ), gb_k (gb_mk I J) (o + 6) 23 = true := fun I J => by simp [gb_k, d6]
  obtain ⟨a, b, c, d⟩ := h
  have lp : ∀ k i F (I1 : gb_FI) (J1 : gb_FJ), i + k = kl.length → k < F → (∀ m, m ≠ o + 2 → I1 m = I m) → (∀ m, m < o + 3 ∨ o + 6 < m → J1 m = J m) → (∀ p, p < n → (∃ j q, i ≤ j ∧ kl[j]? = some q ∧ gb_kp q = p) ∨ (I1 (o + 2) p = 0 ∧ gq J1 o p = qZ)) →
      ∃ I' J', lpX0_wipe_2 F o (nI i) (gb_mk I1 J1) = some ((), gb_mk I' J') ∧ xBl I' J' o n [] ∧ gb_fB o I I' J J' := by
    intro k
    induction k with
    | zero =>
      intro i F I1 J1 hi hF h1 h2 h3
      obtain ⟨F, rfl⟩ : ∃ f, F = f + 1 := ⟨F - 1, by omega⟩
      have e6 : I1 o 6 = nI kl.length := by rw [h1 o (by omega)]; exact a
      refine ⟨gb_u I1 o 6 0, J1, ?_, ⟨gb_u_s _ _ _ _, fun i q hq => absurd hq (by simp), fun i j q q' hq => absurd hq (by simp), fun p hp => ?_⟩, fun m hm => ⟨by rw [gb_u_row _ _ (by omega)]; exact h1 m (by omega), h2 m (by omega)⟩⟩
      · rw [show lpX0_wipe_2 (F + 1) o (nI i) (gb_mk I1 J1) = fbX0_wipe_2 (fun v0 v1 h => lpX0_wipe_2 F v0 v1 h) o (nI i) (gb_mk I1 J1) from rfl]
        unfold fbX0_wipe_2
        rw [k0, gb_gd_t, if_pos (show gb_I (gb_mk I1 J1) o 6 ≤ nI i by rw [gb_I_mk, e6]; exact nI_le (by omega) (by omega)), gb_gd_t, gb_lt_d]
        rfl
      · refine Or.inr ?_
        rcases h3 p hp with ⟨j, q, hj, hq, _⟩ | w
        · rw [List.getElem?_eq_none (by omega)] at hq
          exact absurd hq (by simp)
        · rw [gb_u_row _ _ (by omega)]
          exact w
    | succ k ih =>
      intro i F I1 J1 hi hF h1 h2 h3
      obtain ⟨F, rfl⟩ : ∃ f, F = f + 1 := ⟨F - 1, by omega⟩
      have e6 : I1 o 6 = nI kl.length := by rw [h1 o (by omega)]; exact a
      have hlt : i < kl.length := by omega
      have eq : kl[i]? = some (kl[i]) := List.getElem?_eq_getElem hlt
      obtain ⟨b1, b2, b3, b4⟩ := b i _ eq
      generalize kl[i] = q at *
      have e1 : I1 (o + 1) i = nI q := by rw [h1 (o + 1) (by omega)]; exact b1
      have i1 : ∀ (I : gb_FI) (J : gb_FJ), gb_in (gb_mk I J) (o + 1) (nI i) = true := fun I J => gb_in_k (by rw [d1]) (by omega) (by omega)
      have i2 : ∀ (I : gb_FI) (J : gb_FJ), gb_in (gb_mk I J) (o + 2) (nI (gb_kp q)) = true := fun I J => gb_in_k (by rw [d2]) b3 (by omega)
      have i3 : ∀ (I : gb_FI) (J : gb_FJ), gb_in (gb_mk I J) (o + 3) (nI (gb_kp q)) = true := fun I J => gb_in_k (by rw [d3]) b3 (by omega)
      have i4 : ∀ (I : gb_FI) (J : gb_FJ), gb_in (gb_mk I J) (o + 4) (nI (gb_kp q)) = true := fun I J => gb_in_k (by rw [d4]) b3 (by omega)
      have i5 : ∀ (I : gb_FI) (J : gb_FJ), gb_in (gb_mk I J) (o + 5) (nI (gb_kp q)) = true := fun I J => gb_in_k (by rw [d5]) b3 (by omega)
      have i6 : ∀ (I : gb_FI) (J : gb_FJ), gb_in (gb_mk I J) (o + 6) (nI (gb_kp q)) = true := fun I J => gb_in_k (by rw [d6]) b3 (by omega)
      rw [show lpX0_wipe_2 (F + 1) o (nI i) (gb_mk I1 J1) = fbX0_wipe_2 (fun v0 v1 h => lpX0_wipe_2 F v0 v1 h) o (nI i) (gb_mk I1 J1) from rfl]
      unfold fbX0_wipe_2
      rw [k0, gb_gd_t, if_neg (show ¬ gb_I (gb_mk I1 J1) o 6 ≤ nI i by rw [gb_I_mk, e6]; exact nI_ge hlt (by omega))]
      simp (disch := omega) only [gb_lt_d, gb_gd_t, gb_rd_s, gb_bd_s, gb_I_mk, gb_L_mk, gb_sI_mk, gb_sL_mk, k0, r0, r1, r2, r3, r4, r5, kk1, kk2, kk3, kk4, kk5, kk6, i1, i2, i3, i4, i5, i6, nI_clamp, e1, x_place b2, nI_1]
      refine ih (i + 1) F _ _ (by omega) (by omega) (fun m hm => by rw [gb_u_row _ _ hm]; exact h1 m hm) (fun m hm => by rw [gb_u_row _ _ (by omega), gb_u_row _ _ (by omega), gb_u_row _ _ (by omega), gb_u_row _ _ (by omega)]; exact h2 m hm) (fun p hp => ?_)
      by_cases e : p = gb_kp q
      · subst e
        refine Or.inr ⟨gb_u_s _ _ _ _, ?_⟩
        unfold gq qZ
        rw [gb_u_row _ _ (show o + 3 ≠ o + 6 by omega), gb_u_row _ _ (show o + 3 ≠ o + 5 by omega), gb_u_row _ _ (show o + 3 ≠ o + 4 by omega), gb_u_s, gb_u_row _ _ (show o + 4 ≠ o + 6 by omega), gb_u_row _ _ (show o + 4 ≠ o + 5 by omega), gb_u_s, gb_u_row _ _ (show o + 5 ≠ o + 6 by omega), gb_u_s, gb_u_s]
      · rcases h3 p hp with ⟨j, q', hj, hq, hk⟩ | w
        · refine Or.inl ⟨j, q', ?_, hq, hk⟩
          by_cases ej : j = i
          · rw [ej, eq] at hq
            rw [← Option.some.inj hq] at hk
            exact absurd hk.symm e
          · omega
        · refine Or.inr ⟨by rw [gb_u_nk _ _ e]; exact w.1, ?_⟩
          rw [← w.2]
          unfold gq
          rw [gb_u_nk _ _ e, gb_u_nk _ _ e, gb_u_nk _ _ e, gb_u_nk _ _ e, gb_u_nk _ _ e, gb_u_nk _ _ e, gb_u_nk _ _ e, gb_u_nk _ _ e, gb_u_nk _ _ e, gb_u_nk _ _ e, gb_u_nk _ _ e, gb_u_nk _ _ e, gb_u_nk _ _ e, gb_u_nk _ _ e, gb_u_nk _ _ e, gb_u_nk _ _ e]
  refine lp kl.length 0 gb_FU I J (by omega) (show kl.length < 1000000 by omega) (fun _ _ => rfl) (fun _ _ => rfl) (fun p hp => ?_)
  rcases d p hp with ⟨q, hq, e⟩ | w
  · obtain ⟨i, hi⟩ := List.mem_iff_getElem?.mp hq
    exact Or.inl ⟨i, q, by omega, hi, e⟩
  · exact Or.inr w
end BEAM
