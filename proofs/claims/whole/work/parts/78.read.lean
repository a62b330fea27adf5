section READ7
variable {I I' I1 I2 : gb_FI} {J J' : gb_FJ} {c : Nat → Nat} {n s q cs : Nat}
theorem x_restart (t : xTp I c n) : ∃ I', fnX7_restart 3 (gb_mk I J) = some ((), gb_mk I' J) ∧ xRd I' c n (gt_s c n 0) ∧ I' 3 5 = nI 0 ∧ I' 3 6 = nI 0 ∧ I' 4 1 = nI 0 ∧ ∀ m, m ≠ 3 → m ≠ 4 → I' m = I m := by
  have t' : xTp (gb_u (gb_u (gb_u (gb_u I 4 1 0) 3 5 0) 3 6 0) 3 3 0) c n := by
    obtain ⟨a, b, d⟩ := t
    have e : ∀ m, m ≠ 3 → m ≠ 4 → gb_u (gb_u (gb_u (gb_u I 4 1 0) 3 5 0) 3 6 0) 3 3 0 m = I m := fun m h1 h2 => by
      rw [gb_u_row _ _ h1, gb_u_row _ _ h1, gb_u_row _ _ h1, gb_u_row _ _ h2]
    exact ⟨a, by rw [e 1 (by decide) (by decide)]; exact b, fun i hi => by rw [e 2 (by decide) (by decide)]; exact d i hi⟩
  have a := x_advance (J := J) t' (e := 0) (Nat.zero_le _) (gb_u_s _ _ _ _)
  refine ⟨_, ?_, ⟨t'.tk, (gt_w_s (Nat.zero_le _)).2.1, gb_tk_2, gb_tk_3, gb_tk_4⟩, ?_, ?_, ?_, ?_⟩
  · simp only [fnX7_restart, gb_lt_d, gb_gd_t, gb_rd_s, gb_bd_s, gb_I_mk, gb_L_mk, gb_sI_mk, gb_sL_mk, gk3, gr3_0, gr3_1, gk4, gr4_0]
    rw [a, gb_bd_s]
  · rw [gb_tk_o (by decide), gb_u_nk _ _ (by decide), gb_u_nk _ _ (by decide), gb_u_s]; rfl
  · rw [gb_tk_o (by decide), gb_u_nk _ _ (by decide), gb_u_s]; rfl
  · rw [gb_tk_r (by decide), gb_u_row _ _ (by decide), gb_u_row _ _ (by decide), gb_u_row _ _ (by decide), gb_u_s]; rfl
  · intro m h1 h2
    rw [gb_tk_r h1, gb_u_row _ _ h1, gb_u_row _ _ h1, gb_u_row _ _ h1, gb_u_row _ _ h2]
/-- the parts of a text, at most k more -/
def g_parts (c : Nat → Nat) (n : Nat) : Nat → Nat → Nat → Nat → List gb_P → Except Nat (List gb_P)
  | 0, _, _, s, _ => .error s
  | k + 1, cs, ls, s, acc => match g_part c n cs ls s with
    | .error e => .error e
    | .ok r => if r.2 < n then (if gt_is c n r.2 13 = true then g_parts c n k r.1.2.1 r.1.2.2 (gt_n c n r.2) (acc ++ [r.1.1]) else .error r.2) else .ok (acc ++ [r.1.1])
def g_text (c : Nat → Nat) (n : Nat) : Except Nat (List gb_P) := if gt_s c n 0 < n then g_parts c n 16 0 0 (gt_s c n 0) [] else .ok []
theorem g_part_b {ls : Nat} (hcs : cs < 32) (hl : ls ≤ 3) {r : (gb_P × Nat × Nat) × Nat} (e : g_part c n cs ls s = .ok r) : r.1.2.1 < 32 ∧ r.1.2.2 ≤ 3 := by
  unfold g_part at e
  split at e
  · split at e
    · exact absurd e (by simp)
    · split at e
      · exact absurd e (by simp)
      · rw [← Except.ok.inj e]; exact ⟨hcs, hl⟩
  · split at e
    · split at e
      · split at e
        · exact absurd e (by simp)
        · split at e
          · exact absurd e (by simp)
          · rw [← Except.ok.inj e]; exact ⟨hcs, by show ls + 1 ≤ 3; omega⟩
      · exact absurd e (by simp)
    · split at e
      · split at e
        · exact absurd e (by simp)
        · rename_i f hf
          obtain ⟨f1, f2, f3⟩ := g_path_lt hf
          rw [← Except.ok.inj e]
          exact ⟨(gb_or5 cs hcs f f1 f3).2, hl⟩
      · split at e
        · exact absurd e (by simp)
        · rw [← Except.ok.inj e]; exact ⟨hcs, hl⟩
theorem x_parts : ∀ (k i F cs ls s : Nat) (acc : List gb_P) (I : gb_FI), i + k = 16 → k < F → xRd I c n s → I 3 5 = nI cs → cs < 32 → I 3 6 = nI ls → ls ≤ 3 → I 4 1 = nI i → acc.length = i → (∀ j p, acc[j]? = some p → xP (I (6 + j)) p) →
    match g_parts c n k cs ls s acc with
    | .error e => ∃ I', lpX7_readParts_15 F 3 (nI i) (gb_mk I J) = some (nI e, gb_mk I' J) ∧ ∀ m, m < 3 ∨ 22 ≤ m → I' m = I m
    | .ok ps => ∃ I', lpX7_readParts_15 F 3 (nI i) (gb_mk I J) = some (-1, gb_mk I' J) ∧ ps.length ≤ 16 ∧ I' 4 1 = nI ps.length ∧ (∀ j p, ps[j]? = some p → xP (I' (6 + j)) p) ∧ ∀ m, m < 3 ∨ 22 ≤ m → I' m = I m := by
  intro k
  induction k with
  | zero =>
    intro i F cs ls s acc I hi hF h hc hcs h6 hl h4 ha hp
    obtain ⟨F, rfl⟩ : ∃ f, F = f + 1 := ⟨F - 1, by omega⟩
    refine ⟨I, ?_, fun _ _ => rfl⟩
    rw [show lpX7_readParts_15 (F + 1) 3 (nI i) (gb_mk I J) = fbX7_readParts_15 (fun v0 v1 h => lpX7_readParts_15 F v0 v1 h) 3 (nI i) (gb_mk I J) from rfl]
    simp only [fbX7_readParts_15]
    rw [if_pos (show (16 : Int32) ≤ nI i from nI_le (a := 16) (by omega) (by omega))]
    simp only [gb_lt_d, gb_gd_t, gb_rd_s, gb_bd_s, gb_I_mk, gb_L_mk, gb_sI_mk, gb_sL_mk, gk3, gr3_0, gr3_1, h.2.2.1]
  | succ k ih =>
    intro i F cs ls s acc I hi hF h hc hcs h6 hl h4 ha hp
    obtain ⟨F, rfl⟩ : ∃ f, F = f + 1 := ⟨F - 1, by omega⟩
    have t := x_part (J := J) h hc hcs h6 hl h4 (show i < 16 by omega)
    have bb := fun r => g_part_b (c := c) (n := n) (s := s) hcs hl (r := r)
    rw [g_parts]
    rw [show lpX7_readParts_15 (F + 1) 3 (nI i) (gb_mk I J) = fbX7_readParts_15 (fun v0 v1 h => lpX7_readParts_15 F v0 v1 h) 3 (nI i) (gb_mk I J) from rfl]
    simp only [fbX7_readParts_15]
    rw [if_neg (show ¬ (16 : Int32) ≤ nI i from nI_ge (a := i) (b := 16) (by omega) (by omega))]
    revert t bb
    cases g_part c n cs ls s with
    | error e =>
      rintro ⟨I1, b1, b2, b3⟩ -
      refine ⟨I1, ?_, fun m hm => b3 m (by omega) (by omega) (by omega)⟩
      simp only [gb_lt_d, gb_gd_t, gb_rd_s, gb_bd_s, gb_I_mk, gb_L_mk, gb_sI_mk, gb_sL_mk, gk3, gr3_0, gr3_1, b1, if_true, b2]
    | ok r =>
      rintro ⟨I1, b1, b2, b3, b4, b5, b6, b7⟩ bb
      obtain ⟨c1, c2⟩ := bb r rfl
      have hp' : ∀ j p, (acc ++ [r.1.1])[j]? = some p → xP (I1 (6 + j)) p := by
        intro j p hj
        by_cases e : j < acc.length
        · rw [List.getElem?_append_left e] at hj
          rw [b7 (6 + j) (by omega) (by omega) (by omega)]
          exact hp j p hj
        · rw [List.getElem?_append_right (by omega)] at hj
          have ej : j = i := by
            by_cases w : j - acc.length = 0
            · omega
            · rw [List.getElem?_eq_none (by simp; omega)] at hj
              exact absurd hj (by simp)
          subst ej
          rw [show j - acc.length = 0 by omega] at hj
          have : r.1.1 = p := by simpa using hj
          rw [← this]
          exact b6
      have fr : ∀ m, m < 3 ∨ 22 ≤ m → I1 m = I m := fun m hm => b7 m (by omega) (by omega) (by omega)
      simp only [gb_lt_d, gb_gd_t, gb_rd_s, gb_bd_s, gb_I_mk, gb_L_mk, gb_sI_mk, gb_sL_mk, gk3, gr3_0, gr3_1, b1, x_atEnd b2]
      rw [if_neg gb_n10]
      by_cases q1 : r.2 < n
      · rw [if_pos q1]
        simp only [if_pos q1, if_true]
        by_cases q2 : gt_is c n r.2 13 = true
        · rw [if_pos q2]
          obtain ⟨I2, d1, d2, d3⟩ := x_take1 (J := J) b2 (by decide) q2
          simp only [gb_lt_d, gb_gd_t, gb_rd_s, gb_bd_s, gb_I_mk, gb_L_mk, gb_sI_mk, gb_sL_mk, gk3, gr3_0, gr3_1, d1]
          rw [if_neg gb_n10, gb_lit 1, nI_add]
          have u := ih (i + 1) F r.1.2.1 r.1.2.2 (gt_n c n r.2) (acc ++ [r.1.1]) I2 (by omega) (by omega) d2 (by rw [d3.2 5 (by decide)]; exact b3) c1 (by rw [d3.2 6 (by decide)]; exact b4) c2 (by rw [d3.1 4 (by decide)]; exact b5) (by simp [ha]) (fun j p hj => by rw [d3.1 (6 + j) (by omega)]; exact hp' j p hj)
          revert u
          cases g_parts c n k r.1.2.1 r.1.2.2 (gt_n c n r.2) (acc ++ [r.1.1]) with
          | error e =>
            rintro ⟨I3, f1, f2⟩
            exact ⟨I3, f1, fun m hm => by rw [f2 m hm, d3.1 m (by omega), fr m hm]⟩
          | ok ps =>
            rintro ⟨I3, f1, f2, f3, f4, f5⟩
            exact ⟨I3, f1, f2, f3, f4, fun m hm => by rw [f5 m hm, d3.1 m (by omega), fr m hm]⟩
        · rw [if_neg q2]
          refine ⟨I1, ?_, fr⟩
          simp only [gb_lt_d, gb_gd_t, gb_rd_s, gb_bd_s, gb_I_mk, gb_L_mk, gb_sI_mk, gb_sL_mk, gk3, gr3_0, gr3_1, x_take0 (J := J) b2 (show 13 < 14 by decide) q2, if_true, b2.2.2.1]
      · rw [if_neg q1]
        simp only [if_neg q1]
        refine ⟨I1, ?_, by simp [ha]; omega, by rw [b5]; simp [ha], hp', fr⟩
        rw [if_neg gb_n10]
theorem x_readParts (t : xTp I c n) : match g_text c n with
    | .error e => ∃ I', fnX7_readParts 3 (gb_mk I J) = some (nI e, gb_mk I' J) ∧ ∀ m, m < 3 ∨ 22 ≤ m → I' m = I m
    | .ok ps => ∃ I', fnX7_readParts 3 (gb_mk I J) = some (-1, gb_mk I' J) ∧ ps.length ≤ 16 ∧ I' 4 1 = nI ps.length ∧ (∀ j p, ps[j]? = some p → xP (I' (6 + j)) p) ∧ ∀ m, m < 3 ∨ 22 ≤ m → I' m = I m := by
  obtain ⟨I1, a1, a2, a3, a4, a5, a6⟩ := x_restart (J := J) t
  simp only [fnX7_readParts, gb_lt_d, gb_gd_t, gb_rd_s, gb_bd_s, gb_I_mk, gb_L_mk, gb_sI_mk, gb_sL_mk, gk3, gr3_0, gr3_1, a1, x_atEnd a2]
  unfold g_text
  by_cases q : gt_s c n 0 < n
  · rw [if_pos q, if_pos q, if_pos (show (0 : Int32) = 0 from rfl)]
    have u := x_parts (J := J) (c := c) (n := n) 16 0 gb_FU 0 0 (gt_s c n 0) [] I1 (by decide) (by decide) a2 a3 (by decide) a4 (by decide) a5 rfl (fun j p h => absurd h (by simp))
    revert u
    cases g_parts c n 16 0 0 (gt_s c n 0) [] with
    | error e =>
      rintro ⟨I3, f1, f2⟩
      exact ⟨I3, f1, fun m hm => by rw [f2 m hm, a6 m (by omega) (by omega)]⟩
    | ok ps =>
      rintro ⟨I3, f1, f2, f3, f4, f5⟩
      exact ⟨I3, f1, f2, f3, f4, fun m hm => by rw [f5 m hm, a6 m (by omega) (by omega)]⟩
  · rw [if_neg q, if_neg q, if_neg gb_n10]
    exact ⟨I1, rfl, by decide, a5, fun j p h => absurd h (by simp), fun m hm => a6 m (by omega) (by omega)⟩
end READ7
