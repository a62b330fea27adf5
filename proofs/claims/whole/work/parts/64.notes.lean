section NOTES2
variable {I I' : gb_FI} {J J' : gb_FJ}
theorem m_notesIn {rs : List gb_Ru} (h : xR (I 241 37) (I 261) (I 262) (I 263) rs) {d m W : Nat} (hd : d < 1000) (hm : m < 16) (hL : ∀ b, b < 4 → 0 < gb_Lo rs d b) (hW : W < 2 ^ 63) {k81 : Nat → Int32 → Int32 → Int64 → Int64 → Int32 → Int32 → gb_H → Option (Int64 × gb_H)} {v2 v7 : Int32} {v5 : Int64} :
    lpX11_notes_97 k81 gb_FU 241 (nI d) v2 (lN W) v5 v7 (nI m) 0 0 0 (gb_mk I J) =
    if gb_bc4 m % 2 = 1 then
      if v7 = 0 then k81 241 (nI d) v2 (lN W) (iL (gb_sg W (gb_Up rs d) (gb_Lo rs d) m 4)) 1 (nI (m + 1)) (gb_mk I J)
      else if v5 < iL (gb_sg W (gb_Up rs d) (gb_Lo rs d) m 4) then k81 241 (nI d) v2 (lN W) (iL (gb_sg W (gb_Up rs d) (gb_Lo rs d) m 4)) 1 (nI (m + 1)) (gb_mk I J)
      else k81 241 (nI d) v2 (lN W) v5 v7 (nI (m + 1)) (gb_mk I J)
    else k81 241 (nI d) v2 (lN W) v5 v7 (nI (m + 1)) (gb_mk I J) := by
  simp only [lpX11_notes_97]
  refine gb_forF (fun i => (241, nI d, v2, lN W, v5, v7, nI m, iL (gb_sg W (gb_Up rs d) (gb_Lo rs d) m i), nI (gb_bcn m i), nI i, gb_mk I J)) 4 (by decide) ?_ ?_
  · intro j hj k
    exact m_notes97 h hd hm hj (hL j hj) hW _
  · intro k
    show fbX11_notes_97 k81 _ 241 (nI d) v2 (lN W) v5 v7 (nI m) (iL (gb_sg W (gb_Up rs d) (gb_Lo rs d) m 4)) (nI (gb_bcn m 4)) (nI 4) (gb_mk I J) = _
    generalize iL (gb_sg W (gb_Up rs d) (gb_Lo rs d) m 4) = sg
    have c4 := gb_bcn_le m 4
    rw [gb_bcn4 m hm] at *
    simp only [fbX11_notes_97]
    rw [if_pos (show (4 : Int32) ≤ nI 4 by decide)]
    simp only [fbX11_notes_218, fbX11_notes_225, gb_lt_d, gb_gd_t, gb_rd_s, gb_bd_s, gb_I_mk, gb_L_mk, gb_sI_mk, gb_sL_mk, show gb_nz (2 : Int32) = true from rfl, gb_lit 1, nI_add]
    by_cases c : gb_bc4 m % 2 = 1
    · rw [if_neg (fun q => (gb_bcp _ (by omega)).mp q c), if_pos c]
    · rw [if_pos ((gb_bcp _ (by omega)).mpr c), if_neg c]
/-- the greatest of the odd ones, as the reference keeps it -/
def gb_mr (f : Nat → Int) : Nat → Option Int
  | 0 => none
  | i + 1 => if gb_bc4 i % 2 = 1 then some (match gb_mr f i with | none => f i | some x => if x < f i then f i else x) else gb_mr f i
theorem gb_mr_mx {f : Nat → Int} {z : Int} (hz : ∀ m, z ≤ f m) : ∀ i, gb_mx f z i = (gb_mr f i).getD z
  | 0 => rfl
  | i + 1 => by
    have ih := gb_mr_mx hz i
    have a := hz i
    show (if gb_bc4 i % 2 = 1 then max (f i) (gb_mx f z i) else gb_mx f z i) = (if gb_bc4 i % 2 = 1 then some (match gb_mr f i with | none => f i | some x => if x < f i then f i else x) else gb_mr f i).getD z
    split
    · rw [ih]
      cases gb_mr f i with
      | none => show max (f i) z = f i; omega
      | some x => show max (f i) x = if x < f i then f i else x; split <;> omega
    · exact ih
theorem gb_mr_le {f : Nat → Int} {B : Nat} (hf : ∀ m, (f m).natAbs ≤ B) : ∀ i x, gb_mr f i = some x → x.natAbs ≤ B
  | 0, x, e => by exact absurd e (by simp [gb_mr])
  | i + 1, x, e => by
    have ih := gb_mr_le hf i
    have a := hf i
    rw [gb_mr] at e
    by_cases c : gb_bc4 i % 2 = 1
    · rw [if_pos c] at e
      have e := Option.some.inj e
      cases q : gb_mr f i with
      | none => rw [q] at e; rw [← e]; exact a
      | some y =>
        rw [q] at e
        rw [← e]
        show (if y < f i then f i else y).natAbs ≤ B
        split
        · exact a
        · exact ih y q
    · rw [if_neg c] at e
      exact ih x e
theorem gb_mr16 (f : Nat → Int) : ∃ x, gb_mr f 16 = some x := by
  rw [gb_mr, if_neg (by decide), gb_mr, if_pos (by decide)]
  exact ⟨_, rfl⟩
end NOTES2
