section XPLAN2
variable {S : gb_S} {I I' I1 I2 : gb_FI} {J J' J1 J2 : gb_FJ} {gs : List Nat} {sh : List gb_P} {pl n g k m q f : Nat} {r b : List Nat} {cOK : gb_CP}
theorem RX.bm (h : RX cOK S I J) : ∀ l, l < 4 → ∃ kl, xBl I J (196 + 7 * l) 286 kl := fun l hl => by
  have hw := h.2.2.2.2.2.2.2.2.2.2
  match l, hl with
  | 0, _ => exact gb_bW_l.mp (hw (196, 286) (by decide))
  | 1, _ => exact gb_bW_l.mp (hw (203, 286) (by decide))
  | 2, _ => exact gb_bW_l.mp (hw (210, 286) (by decide))
  | 3, _ => exact gb_bW_l.mp (hw (217, 286) (by decide))
theorem RX.pn (h : RX cOK S I J) (f : ∀ x y, ¬ (x = 139 ∧ y = 7) → ¬ (142 ≤ x ∧ x ≤ 145) → ¬ (148 ≤ x ∧ x ≤ 223) → I' x y = I x y) (fJ : ∀ x, x ≠ 146 → x ≠ 147 → ¬ (196 ≤ x ∧ x ≤ 223) → J' x = J x) (hb : ∀ l, l < 4 → ∃ kl, xBl I' J' (196 + 7 * l) 286 kl) {d : Option (List Nat × Int64 × Int64 × Int64)} (hL : xL (I' 139 7) (I' 145) (J' 146) S.2.2.2.2.2.1 d) : RX cOK (sPl S d) I' J' := by
  have k : ∀ m, m < 139 ∨ 223 < m → I' m = I m := fun m h1 => funext (fun y => f m y (by omega) (by omega) (by omega))
  have kJ : ∀ m, m < 139 ∨ 223 < m → J' m = J m := fun m h1 => fJ m (by omega) (by omega) (by omega)
  obtain ⟨h1, h2, h3, h4, h5, h6, h7, h8, h9, h10, h11⟩ := h
  refine ⟨?_, ?_, ?_, ?_, h5.keep (fun n _ _ _ => k n (by omega)), h6.keep (fun n _ _ => k n (by omega)), ?_, ?_, hL, h10.keep (fun n _ _ => k n (by omega)) (fun n _ _ => kJ n (by omega)), ?_⟩
  · rw [k 0 (by decide), k 239 (by decide)]; exact h1
  · rw [k 0 (by decide)]; exact h2
  · rw [k 1 (by decide), k 2 (by decide)]; exact h3
  · rw [k 0 (by decide)]; exact h4
  · rw [k 240 (by decide)]; exact h7
  · rw [k 126 (by decide), k 127 (by decide), k 128 (by decide), k 129 (by decide)]; exact h8
  · intro q hq
    simp only [gb_beams, List.mem_cons, List.not_mem_nil, or_false] at hq
    have o1 := h11 (224, 969) (by decide)
    have o2 := h11 (231, 969) (by decide)
    rcases hq with rfl | rfl | rfl | rfl | rfl | rfl
    · exact gb_bW_l.mpr (hb 0 (by decide))
    · exact gb_bW_l.mpr (hb 1 (by decide))
    · exact gb_bW_l.mpr (hb 2 (by decide))
    · exact gb_bW_l.mpr (hb 3 (by decide))
    · show gb_bW (I' 224 6) (I' 225) (I' 226) (J' 227) (J' 228) (J' 229) (J' 230) 969
      rw [k 224 (by decide), k 225 (by decide), k 226 (by decide), kJ 227 (by decide), kJ 228 (by decide), kJ 229 (by decide), kJ 230 (by decide)]
      exact o1
    · show gb_bW (I' 231 6) (I' 232) (I' 233) (J' 234) (J' 235) (J' 236) (J' 237) 969
      rw [k 231 (by decide), k 232 (by decide), k 233 (by decide), kJ 234 (by decide), kJ 235 (by decide), kJ 236 (by decide), kJ 237 (by decide)]
      exact o2
theorem X_plan (h : RX cOK S I J) (hs : ∀ p ∈ S.2.2.2.2.2.1, gso p) (n p0 p1 p2 p3 p4 : Int32) : xok cOK (fnX10_plan 0 n p0 p1 p2 p3 p4) I J (a_plan n p0 p1 p2 p3 p4 S) := by
  have g3 := h.1.1
  have hgs := h.1.2.1
  have s8 := h.2.2.2.2.2.1.1
  have bad : ∃ I2 J2, fbX10_plan_34 (gb_mk I J) = some ((-1 : Int32), gb_mk I2 J2) ∧ RX cOK S I2 J2 ∧ gb_fx I I2 J J2 := ⟨I, J, rfl, h, gb_fx.r⟩
  unfold a_plan xok fnX10_plan
  by_cases h2 : grg5 p0 p1 p2 p3 p4
  · obtain ⟨x0, x1, x2, x3, x4, y0, y1, y2, y3, y4, e0, e1, e2, e3, e4, pl, plb⟩ := grg5_n h2
    have gpb : gpc x0 x1 x2 x3 x4 < 2 ^ 31 := by unfold gpc; omega
    rw [pl]
    subst e0 e1 e2 e3 e4
    rw [x_pack y0 y1 y2 y3 y4, gb_bd_s, gb_rgM n 3 (by decide) (L := 3) rfl]
    by_cases h1 : gb_rg n 4 = true
    · rw [if_pos (show gb_rg n (3 + 1) = true from h1), if_neg (nI_pos gpb), gk0, gb_gd_t, gb_I_mk, h.1.2.2.1]
      by_cases h3 : S.1 = []
      · rw [if_pos (show nI S.1.length = 0 by rw [h3]; rfl), if_neg (fun z => z.2.2 h3)]
        exact bad
      · have l1 : 1 ≤ S.1.length := Nat.pos_of_ne_zero (fun z => h3 (List.length_eq_zero_iff.mp z))
        rw [if_neg (show ¬ nI S.1.length = 0 from fun z => by have := (nI_eq (b := 0) (by omega) (by omega)).mp z; omega), if_pos ⟨h1, h2, h3⟩]
        obtain ⟨n', hn, _, rfl⟩ := gb_rgT h1
        rw [nI_clamp (by omega), gb_gd_t, gr0_6, gb_rd_s, gb_gd_t, x_startKey h.1, gb_bd_s, gk0, gb_gd_t, x_rowOf y0 y1 y2 y3 y4, gb_I_mk, h.1.2.2.1]
        have rk := grw_k y0 y1 y2 y3 y4
        have fin : ∀ W0 : Int32, (∀ k, nI (gb_rw k) = W0 ↔ gpk k = gpk5 x0 x1 x2 x3 x4) → ∃ I2 J2, (gb_gd (gb_k (gb_mk I J) 139 6) <| gb_bd (fnX6_search 139 (nI n') (nI (gb_k0 S.1)) (nI S.1.length) W0 (gb_mk I J)) fun _ h18 => gb_gd (gb_k h18 0 10) <| gb_rd (gb_R h18 0 6) fun a20 => gb_gd (gb_k h18 a20 6) <| some (gb_I h18 a20 7, h18)) = some (nI (gbR S.1 S.2.2.2.2.2.1 (gpk5 x0 x1 x2 x3 x4) n').length, gb_mk I2 J2) ∧ RX cOK (sPl S (some (gpln S.1 S.2.2.2.2.2.1 (gpk5 x0 x1 x2 x3 x4) n'))) I2 J2 ∧ gb_fx I I2 J J2 := fun W0 hW0 => by
          obtain ⟨I2, J2, a1, a2, a3, a4, a5⟩ := x_search hgs g3 l1 hs s8 (show n' ≤ 3 by omega) hW0 (fun i p hp => (h.2.2.2.2.2.1.2.2 i p hp).2.2.2) h.2.2.2.2.2.1.2.1 h.bm
          obtain ⟨b1, b2, b3, b4, b5, b6, b7, b8⟩ := a5
          refine ⟨I2, J2, ?_, h.pn a2 a3 a4 ?_, fun m hm => ⟨funext (fun y => a2 m y (by omega) (by omega) (by omega)), a3 m (by omega) (by omega) (by omega)⟩⟩
          · rw [gk139, gb_gd_t, a1, gb_bd_s, gk0, gb_gd_t, gr0_6, gb_rd_s, gk139, gb_gd_t, gb_I_mk, b4]
          · exact ⟨b1, b4, fun i j hj => ⟨b2 j (List.mem_of_getElem? hj), b5 i j hj⟩, b6, b7, b8⟩
        cases er : grw x0 x1 x2 x3 x4 with
        | none =>
          rw [er] at rk
          rw [gb_bd_s]
          exact fin (-1) (fun k => ⟨fun z => absurd (show nI (gb_rw k) < 0 by rw [z]; decide) (nI_pos (by have := gb_rw_b k; omega)), fun z => absurd z (rk k)⟩)
        | some t =>
          rw [er] at rk
          rw [gb_bd_s]
          refine fin _ (fun k => ?_)
          rw [nI_eq (by have := gb_rw_b k; omega) (by have := rk.1; omega)]
          exact rk.2 k
    · rw [if_neg (show ¬ gb_rg n (3 + 1) = true from h1), if_neg (fun z => h1 z.1)]
      exact bad
  · have e : ∀ A : Option (Int32 × gb_H), (if n < 0 then fbX10_plan_34 (gb_mk I J) else if (3 : Int32) < n then fbX10_plan_34 (gb_mk I J) else if (-1 : Int32) < 0 then fbX10_plan_34 (gb_mk I J) else A) = fbX10_plan_34 (gb_mk I J) := fun A => by
      rw [if_pos (show (-1 : Int32) < 0 by decide)]
      split
      · rfl
      · split <;> rfl
    rw [x_packN h2, gb_bd_s, e, if_neg (show ¬ (gb_rg n 4 = true ∧ grg5 p0 p1 p2 p3 p4 ∧ S.1 ≠ []) from fun z => h2 z.2.1)]
    exact bad
end XPLAN2
