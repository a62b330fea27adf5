section WAY
variable {cOK : gb_CP} {S : gb_S} {I I' I1 I2 : gb_FI} {J J' J1 J2 : gb_FJ} {o n k i : Nat} {kl : List Nat}
def qc (X : gb_q) (i : Nat) : Int64 := if i = 0 then X.1 else if i = 1 then X.2.1 else if i = 2 then X.2.2.1 else X.2.2.2
def qe (i : Nat) : gb_q := if i = 0 then (1, 0, 0, 0) else if i = 1 then (0, 1, 0, 0) else if i = 2 then (0, 0, 1, 0) else (0, 0, 0, 1)
theorem q4_e (X : gb_q) (i : Nat) : q4 X (qe i) = qc X i := by
  unfold q4 qe qc
  by_cases a : i = 0
  · rw [if_pos a, if_pos a]; grind
  · rw [if_neg a, if_neg a]
    by_cases b : i = 1
    · rw [if_pos b, if_pos b]; grind
    · rw [if_neg b, if_neg b]
      by_cases c : i = 2
      · rw [if_pos c, if_pos c]; grind
      · rw [if_neg c, if_neg c]; grind
/-- the functional of one component of one product -/
def qpt (k i : Nat) : Nat → gb_q := fun k' => if k' = k then qe i else qZ
theorem bP_pt {X : Nat → gb_q} : ∀ l : List Nat, (∀ (a b c d : Nat), l[a]? = some c → l[b]? = some d → gb_kp c = gb_kp d → a = b) → bP l X (qpt k i) = if k ∈ l then qc (X (gb_kp k)) i else 0
  | [], _ => by rw [if_neg (by simp)]; rfl
  | c :: l, d => by
    have d' : ∀ (a b c d : Nat), l[a]? = some c → l[b]? = some d → gb_kp c = gb_kp d → a = b := fun a b x y h1 h2 e => by
      have := d (a + 1) (b + 1) x y (by simpa using h1) (by simpa using h2) e
      omega
    show q4 (X (gb_kp c)) (qpt k i c) + bP l X (qpt k i) = _
    rw [bP_pt l d']
    unfold qpt
    by_cases e : c = k
    · subst e
      have nl : c ∉ l := fun w => by
        obtain ⟨a, ha⟩ := List.mem_iff_getElem?.mp w
        have := d 0 (a + 1) c c (by simp) (by simpa using ha) rfl
        omega
      rw [if_pos rfl, if_neg nl, if_pos (by simp), q4_e]
      grind
    · rw [if_neg e, q4_Z]
      by_cases m : k ∈ l
      · rw [if_pos m, if_pos (List.mem_cons_of_mem _ m)]; grind
      · rw [if_neg m, if_neg (fun w => by rcases List.mem_cons.mp w with y | y; exact e y.symm; exact m y)]; grind
theorem xBl.pt (h : xBl I J o n kl) (hk : gb_sk k) (hp : gb_kp k < n) : bP kl (gq J o) (qpt k i) = qc (gq J o (gb_kp k)) i := by
  obtain ⟨a, b, c, d⟩ := h
  rw [bP_pt kl c]
  by_cases m : k ∈ kl
  · rw [if_pos m]
  · rw [if_neg m]
    rcases d (gb_kp k) hp with ⟨k', hk', e⟩ | w
    · obtain ⟨j, hj⟩ := List.mem_iff_getElem?.mp hk'
      exact absurd (by rw [← gb_kp_inj (b j k' hj).2.1 hk e]; exact hk') m
    · rw [w.2]
      unfold qc qZ
      split <;> (try rfl)
      split <;> (try rfl)
      split <;> rfl
theorem x_numP (hB : gb_BM o n) (hk : gb_sk k) (hp : gb_kp k < n) (hi : i < 4) : fnX0_numberPart o (nI k) (nI i) (gb_mk I J) = some (qc (gq J o (gb_kp k)) i, gb_mk I J) := by
  obtain ⟨hn, hO⟩ := hB
  have k0 : ∀ (I : gb_FI) (J : gb_FJ), gb_k (gb_mk I J) o 0 = true := fun I J => (hO I J).1
  have r1 : ∀ (I : gb_FI) (J : gb_FJ), gb_R (gb_mk I J) o 1 = some (o + 2) := fun I J => (hO I J).2.2.1
  have r2 : ∀ (I : gb_FI) (J : gb_FJ), gb_R (gb_mk I J) o 2 = some (o + 3) := fun I J => (hO I J).2.2.2.1
  have r3 : ∀ (I : gb_FI) (J : gb_FJ), gb_R (gb_mk I J) o 3 = some (o + 4) := fun I J => (hO I J).2.2.2.2.1
  have r4 : ∀ (I : gb_FI) (J : gb_FJ), gb_R (gb_mk I J) o 4 = some (o + 5) := fun I J => (hO I J).2.2.2.2.2.1
  have r5 : ∀ (I : gb_FI) (J : gb_FJ), gb_R (gb_mk I J) o 5 = some (o + 6) := fun I J => (hO I J).2.2.2.2.2.2.1
  have d2 : ∀ (I : gb_FI) (J : gb_FJ), gb_kd (gb_mk I J) (o + 2) = (21, n) := fun I J => (hO I J).2.2.2.2.2.2.2.2.1
  have d3 : ∀ (I : gb_FI) (J : gb_FJ), gb_kd (gb_mk I J) (o + 3) = (23, n) := fun I J => (hO I J).2.2.2.2.2.2.2.2.2.1
  have d4 : ∀ (I : gb_FI) (J : gb_FJ), gb_kd (gb_mk I J) (o + 4) = (23, n) := fun I J => (hO I J).2.2.2.2.2.2.2.2.2.2.1
  have d5 : ∀ (I : gb_FI) (J : gb_FJ), gb_kd (gb_mk I J) (o + 5) = (23, n) := fun I J => (hO I J).2.2.2.2.2.2.2.2.2.2.2.1
  have d6 : ∀ (I : gb_FI) (J : gb_FJ), gb_kd (gb_mk I J) (o + 6) = (23, n) := fun I J => (hO I J).2.2.2.2.2.2.2.2.2.2.2.2
  have kk2 : ∀ (I : gb_FI) (J : gb_FJ), gb_k (gb_mk I J) (o + 2) 21 = true := fun I J => by simp [gb_k, d2]
  have kk3 : ∀ (I : gb_FI) (J : gb_FJ), gb_k (gb_mk I J) (o + 3) 23 = true := fun I J => by simp [gb_k, d3]
  have kk4 : ∀ (I : gb_FI) (J : gb_FJ), gb_k (gb_mk I J) (o + 4) 23 = true := fun I J => by simp [gb_k, d4]
  have kk5 : ∀ (I : gb_FI) (J : gb_FJ), gb_k (gb_mk I J) (o + 5) 23 = true := fun I J => by simp [gb_k, d5]
  have kk6 : ∀ (I : gb_FI) (J : gb_FJ), gb_k (gb_mk I J) (o + 6) 23 = true := fun I J => by simp [gb_k, d6]
  have i3 : ∀ (I : gb_FI) (J : gb_FJ), gb_in (gb_mk I J) (o + 3) (nI (gb_kp k)) = true := fun I J => gb_in_k (by rw [d3]) hp (by omega)
  have i4 : ∀ (I : gb_FI) (J : gb_FJ), gb_in (gb_mk I J) (o + 4) (nI (gb_kp k)) = true := fun I J => gb_in_k (by rw [d4]) hp (by omega)
  have i5 : ∀ (I : gb_FI) (J : gb_FJ), gb_in (gb_mk I J) (o + 5) (nI (gb_kp k)) = true := fun I J => gb_in_k (by rw [d5]) hp (by omega)
  have i6 : ∀ (I : gb_FI) (J : gb_FJ), gb_in (gb_mk I J) (o + 6) (nI (gb_kp k)) = true := fun I J => gb_in_k (by rw [d6]) hp (by omega)
  have c : (nI (gb_kp k)).toNatClampNeg = gb_kp k := nI_clamp (by omega)
  unfold fnX0_numberPart
  rw [x_place hk, gb_bd_s, k0, gb_gd_t, r1, gb_rd_s, kk2, gb_gd_t, d2, if_pos (show nI (gb_kp k) < Int32.ofNat n from nI_lt hp (by omega)), gb_gd_t, gb_gd_t, gb_gd_t, gb_gd_t, r2, gb_rd_s, kk3, gb_gd_t, i3, gb_gd_t, r3, gb_rd_s, kk4, gb_gd_t, i4, gb_gd_t, r4, gb_rd_s, kk5, gb_gd_t, i5, gb_gd_t, r5, gb_rd_s, kk6, gb_gd_t, i6, gb_gd_t, c, gb_L_mk]
  unfold qc gq
  match i, hi with
  | 0, _ => rfl
  | 1, _ => rfl
  | 2, _ => rfl
  | 3, _ => rfl
/-- the light has gone through a bench -/
theorem RX.li (h : RX cOK S I J) (f : gb_fLi I I' J J') (hA : ∃ kl, xBl I' J' 224 969 kl) (hB : ∃ kl, xBl I' J' 231 969 kl) : RX cOK S I' J' := by
  have k : ∀ m, (m < 133 ∨ 138 < m) → (m < 224 ∨ 237 < m) → I' m = I m := fun m h1 h2 => (f m h1 h2).1
  obtain ⟨h1, h2, h3, h4, h5, h6, h7, h8, h9, h10, h11⟩ := h
  refine ⟨?_, ?_, ?_, ?_, h5.keep (fun n _ _ _ => k n (by omega) (by omega)), h6.keep (fun n _ _ => k n (by omega) (by omega)), ?_, ?_, ?_, h10.keep (fun n _ _ => k n (by omega) (by omega)) (fun n _ _ => (f n (by omega) (by omega)).2), ?_⟩
  · rw [k 0 (by decide) (by decide), k 239 (by decide) (by decide)]; exact h1
  · rw [k 0 (by decide) (by decide)]; exact h2
  · rw [k 1 (by decide) (by decide), k 2 (by decide) (by decide)]; exact h3
  · rw [k 0 (by decide) (by decide)]; exact h4
  · rw [k 240 (by decide) (by decide)]; exact h7
  · rw [k 126 (by decide) (by decide), k 127 (by decide) (by decide), k 128 (by decide) (by decide), k 129 (by decide) (by decide)]; exact h8
  · rw [k 139 (by decide) (by decide), k 145 (by decide) (by decide), (f 146 (by decide) (by decide)).2]; exact h9
  · intro q hq
    simp only [gb_beams, List.mem_cons, List.not_mem_nil, or_false] at hq
    have old : ∀ q ∈ gb_beams, q.1 + 6 < 224 → gb_bW (I' q.1 6) (I' (q.1 + 1)) (I' (q.1 + 2)) (J' (q.1 + 3)) (J' (q.1 + 4)) (J' (q.1 + 5)) (J' (q.1 + 6)) q.2 := fun q hq hl => by
      have hl2 : 196 ≤ q.1 := by
        have : ∀ q ∈ gb_beams, 196 ≤ q.1 := by decide
        exact this q hq
      have := h11 q hq
      rw [k q.1 (by omega) (by omega), k (q.1 + 1) (by omega) (by omega), k (q.1 + 2) (by omega) (by omega), (f (q.1 + 3) (by omega) (by omega)).2, (f (q.1 + 4) (by omega) (by omega)).2, (f (q.1 + 5) (by omega) (by omega)).2, (f (q.1 + 6) (by omega) (by omega)).2]
      exact this
    rcases hq with e | e | e | e | e | e
    · subst e; exact old (196, 286) (by decide) (by decide)
    · subst e; exact old (203, 286) (by decide) (by decide)
    · subst e; exact old (210, 286) (by decide) (by decide)
    · subst e; exact old (217, 286) (by decide) (by decide)
    · subst e; exact gb_bW_l.mpr hA
    · subst e; exact gb_bW_l.mpr hB
end WAY
