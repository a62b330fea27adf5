section WF
variable {c : Nat → Nat} {n s cs ls : Nat}
/-- what the reader promises of a part, with the paths counted ahead and the losses ahead -/
def gb_wp (cs ls : Nat) (p : gb_P) : Prop := gb_pOK p ∧ cs / 2 ^ p.2.1 % 2 = 0 ∧ ((p.1 = 0 ∨ p.1 = 3) → p.2.2.1 ≠ p.2.1 ∧ cs / 2 ^ p.2.2.1 % 2 = 0) ∧ (p.2.2.2.2.2.2.1 < 5 → cs / 2 ^ p.2.2.2.2.2.2.1 % 2 = 1) ∧ (p.1 = 4 → p.2.2.2.2.2.2.2.2 = ls ∧ ls < 3) ∧ (p.2.2.2.1 = 0 ↔ (p.1 = 2 ∨ p.1 = 3 ∨ p.1 = 5)) ∧ ((p.1 = 4 ∨ p.1 = 5) → p.2.2.2.2.2.2.1 = 5)
def gb_nc (cs : Nat) (p : gb_P) : Nat := if p.1 = 5 then cs + 2 ^ p.2.1 else cs
def gb_nl (ls : Nat) (p : gb_P) : Nat := if p.1 = 4 then ls + 1 else ls
def gb_wl : Nat → Nat → List gb_P → Prop
  | _, _, [] => True
  | cs, ls, p :: ps => gb_wp cs ls p ∧ gb_wl (gb_nc cs p) (gb_nl ls p) ps
theorem g_kind_b {k : Nat} (e : g_kind c n s = some k) : 1 ≤ k ∧ k ≤ 3 := by
  unfold g_kind at e
  split at e
  · rw [← Option.some.inj e]; decide
  · split at e
    · rw [← Option.some.inj e]; decide
    · split at e
      · rw [← Option.some.inj e]; decide
      · exact absurd e (by simp)
theorem g_shift_b {r : (Nat × Nat) × Nat} (e : g_shift c n s = .ok r) : r.1.1 ≤ 2 ∧ r.1.2 ≤ 3 := by
  unfold g_shift at e
  split at e
  · split at e
    · exact absurd e (by simp)
    · rename_i m hm
      split at e
      · exact absurd e (by simp)
      · rename_i t ht
        have := g_num_le hm
        have := g_num_le ht
        rw [← Except.ok.inj e]
        exact ⟨by show m ≤ 2; omega, this⟩
  · split at e
    · exact absurd e (by simp)
    · rename_i t ht
      have := g_num_le ht
      rw [← Except.ok.inj e]
      exact ⟨Nat.le_refl _, this⟩
theorem g_deed_b {wp wc : Nat} (hw : wp < 5 → cs / 2 ^ wp % 2 = 1) (hw5 : wp ≤ 5) (hc3 : wc ≤ 3) {r : gb_P × Nat} (e : g_deed c n cs wp wc s = .ok r) : gb_wp cs ls r.1 ∧ r.1.1 < 4 ∧ r.1.2.2.2.2.2.2.1 = wp := by
  unfold g_deed at e
  split at e
  · split at e
    · exact absurd e (by simp)
    · rename_i f hf
      split at e
      · exact absurd e (by simp)
      · rename_i t ht
        split at e
        · exact absurd e (by simp)
        · rename_i k hk
          obtain ⟨f1, f2, f3⟩ := g_path_lt hf
          obtain ⟨t1, t2, t3⟩ := g_path_lt ht
          obtain ⟨k1, k2⟩ := g_kind_b hk
          rw [← Except.ok.inj e]
          refine ⟨⟨⟨by show 0 ≤ 5; omega, f1, t1, k2, by show 2 ≤ 2; omega, by show 0 ≤ 3; omega, hw5, hc3, by show 0 < 3; omega⟩, f3, fun _ => ⟨t2, t3⟩, hw, fun w => absurd w (by show ¬ 0 = 4; decide), ?_, ?_⟩, by show 0 < 4; decide, rfl⟩
          · show k = 0 ↔ (0 = 2 ∨ 0 = 3 ∨ 0 = 5)
            omega
          · show (0 = 4 ∨ 0 = 5) → _
            omega
  · split at e
    · split at e
      · exact absurd e (by simp)
      · rename_i f hf
        split at e
        · exact absurd e (by simp)
        · rename_i k hk
          obtain ⟨f1, f2, f3⟩ := g_path_lt hf
          obtain ⟨k1, k2⟩ := g_kind_b hk
          rw [← Except.ok.inj e]
          refine ⟨⟨⟨by show 1 ≤ 5; omega, f1, by show 0 < 5; omega, k2, by show 2 ≤ 2; omega, by show 0 ≤ 3; omega, hw5, hc3, by show 0 < 3; omega⟩, f3, fun w => absurd w (by show ¬ (1 = 0 ∨ 1 = 3); decide), hw, fun w => absurd w (by show ¬ 1 = 4; decide), ?_, ?_⟩, by show 1 < 4; decide, rfl⟩
          · show k = 0 ↔ (1 = 2 ∨ 1 = 3 ∨ 1 = 5)
            omega
          · show (1 = 4 ∨ 1 = 5) → _
            omega
    · split at e
      · split at e
        · exact absurd e (by simp)
        · rename_i f hf
          split at e
          · exact absurd e (by simp)
          · rename_i k hk
            obtain ⟨f1, f2, f3⟩ := g_path_lt hf
            obtain ⟨k1, k2⟩ := g_shift_b hk
            rw [← Except.ok.inj e]
            refine ⟨⟨⟨by show 2 ≤ 5; omega, f1, by show 0 < 5; omega, by show 0 ≤ 3; omega, k1, k2, hw5, hc3, by show 0 < 3; omega⟩, f3, fun w => absurd w (by show ¬ (2 = 0 ∨ 2 = 3); decide), hw, fun w => absurd w (by show ¬ 2 = 4; decide), ?_, ?_⟩, by show 2 < 4; decide, rfl⟩
            · show 0 = 0 ↔ (2 = 2 ∨ 2 = 3 ∨ 2 = 5)
              omega
            · show (2 = 4 ∨ 2 = 5) → _
              omega
      · split at e
        · split at e
          · exact absurd e (by simp)
          · rename_i f hf
            split at e
            · exact absurd e (by simp)
            · rename_i t ht
              obtain ⟨f1, f2, f3⟩ := g_path_lt hf
              obtain ⟨t1, t2, t3⟩ := g_path_lt ht
              rw [← Except.ok.inj e]
              refine ⟨⟨⟨by show 3 ≤ 5; omega, f1, t1, by show 0 ≤ 3; omega, by show 2 ≤ 2; omega, by show 0 ≤ 3; omega, hw5, hc3, by show 0 < 3; omega⟩, f3, fun _ => ⟨t2, t3⟩, hw, fun w => absurd w (by show ¬ 3 = 4; decide), ?_, ?_⟩, by show 3 < 4; decide, rfl⟩
              · show 0 = 0 ↔ (3 = 2 ∨ 3 = 3 ∨ 3 = 5)
                omega
              · show (3 = 4 ∨ 3 = 5) → _
                omega
        · exact absurd e (by simp)
theorem gb_nc_of {p : gb_P} (h : p.1 < 4) : gb_nc cs p = cs ∧ gb_nl ls p = ls := ⟨if_neg (by omega), if_neg (by omega)⟩
theorem g_wait_b {w : (Nat × Nat) × Nat} (e : g_wait c n cs s = .ok w) : w.1.1 < 5 ∧ cs / 2 ^ w.1.1 % 2 = 1 ∧ w.1.2 ≤ 3 := by
  unfold g_wait at e
  split at e
  · exact absurd e (by simp)
  · rename_i wp hp
    split at e
    · split at e
      · exact absurd e (by simp)
      · rename_i wc hc
        split at e
        · obtain ⟨f1, f2, f3⟩ := g_path_lt hp
          have := g_num_le hc
          rw [← Except.ok.inj e]
          exact ⟨f1, f3, this⟩
        · exact absurd e (by simp)
    · exact absurd e (by simp)
theorem g_part_w {r : (gb_P × Nat × Nat) × Nat} (e : g_part c n cs ls s = .ok r) : gb_wp cs ls r.1.1 ∧ r.1.2.1 = gb_nc cs r.1.1 ∧ r.1.2.2 = gb_nl ls r.1.1 := by
  unfold g_part at e
  split at e
  · split at e
    · exact absurd e (by simp)
    · rename_i w hw
      split at e
      · exact absurd e (by simp)
      · rename_i d hd
        obtain ⟨w1, w2, w3⟩ := g_wait_b hw
        obtain ⟨d1, d2, d3⟩ := g_deed_b (ls := ls) (fun _ => w2) (by omega) w3 hd
        obtain ⟨n1, n2⟩ := gb_nc_of (cs := cs) (ls := ls) d2
        rw [← Except.ok.inj e]
        exact ⟨d1, n1.symm, n2.symm⟩
  · split at e
    · split at e
      · rename_i hl
        split at e
        · exact absurd e (by simp)
        · rename_i f hf
          split at e
          · exact absurd e (by simp)
          · rename_i k hk
            obtain ⟨f1, f2, f3⟩ := g_path_lt hf
            obtain ⟨k1, k2⟩ := g_kind_b hk
            rw [← Except.ok.inj e]
            refine ⟨⟨⟨by show 4 ≤ 5; omega, f1, by show 0 < 5; omega, k2, by show 2 ≤ 2; omega, by show 0 ≤ 3; omega, by show 5 ≤ 5; omega, by show 0 ≤ 3; omega, hl⟩, f3, fun w => absurd w (by show ¬ (4 = 0 ∨ 4 = 3); decide), fun w => absurd w (by show ¬ 5 < 5; decide), fun _ => ⟨rfl, hl⟩, ?_, fun _ => rfl⟩, rfl, rfl⟩
            show k = 0 ↔ (4 = 2 ∨ 4 = 3 ∨ 4 = 5)
            omega
      · exact absurd e (by simp)
    · split at e
      · split at e
        · exact absurd e (by simp)
        · rename_i f hf
          obtain ⟨f1, f2, f3⟩ := g_path_lt hf
          rw [← Except.ok.inj e]
          refine ⟨⟨⟨by show 5 ≤ 5; omega, f1, by show 0 < 5; omega, by show 0 ≤ 3; omega, by show 2 ≤ 2; omega, by show 0 ≤ 3; omega, by show 5 ≤ 5; omega, by show 0 ≤ 3; omega, by show 0 < 3; omega⟩, f3, fun w => absurd w (by show ¬ (5 = 0 ∨ 5 = 3); decide), fun w => absurd w (by show ¬ 5 < 5; decide), fun w => absurd w (by show ¬ 5 = 4; decide), ?_, fun _ => rfl⟩, rfl, rfl⟩
          show 0 = 0 ↔ (5 = 2 ∨ 5 = 3 ∨ 5 = 5)
          omega
      · split at e
        · exact absurd e (by simp)
        · rename_i d hd
          obtain ⟨d1, d2, d3⟩ := g_deed_b (ls := ls) (fun w => absurd w (by decide)) (by decide) (by decide) hd
          obtain ⟨n1, n2⟩ := gb_nc_of (cs := cs) (ls := ls) d2
          rw [← Except.ok.inj e]
          exact ⟨d1, n1.symm, n2.symm⟩
theorem g_parts_w : ∀ k cs ls s acc ps, g_parts c n k cs ls s acc = .ok ps → ∃ qs, ps = acc ++ qs ∧ qs.length ≤ k ∧ gb_wl cs ls qs := by
  intro k
  induction k with
  | zero => intro cs ls s acc ps e; exact absurd e (by simp [g_parts])
  | succ k ih =>
    intro cs ls s acc ps e
    rw [g_parts] at e
    split at e
    · exact absurd e (by simp)
    · rename_i r hr
      obtain ⟨w1, w2, w3⟩ := g_part_w hr
      split at e
      · split at e
        · obtain ⟨qs, q1, q2, q3⟩ := ih _ _ _ _ _ e
          refine ⟨r.1.1 :: qs, by rw [q1]; simp, by simp; omega, w1, ?_⟩
          rw [← w2, ← w3]
          exact q3
        · exact absurd e (by simp)
      · rw [← Except.ok.inj e]
        exact ⟨[r.1.1], rfl, by simp, w1, trivial⟩
theorem g_text_w {ps : List gb_P} (e : g_text c n = .ok ps) : ps.length ≤ 16 ∧ gb_wl 0 0 ps := by
  unfold g_text at e
  split at e
  · obtain ⟨qs, q1, q2, q3⟩ := g_parts_w _ _ _ _ _ _ e
    rw [q1]
    exact ⟨q2, q3⟩
  · rw [← Except.ok.inj e]
    exact ⟨by decide, trivial⟩
theorem gb_wl_mem : ∀ {ps : List gb_P} {cs ls : Nat}, gb_wl cs ls ps → ∀ p ∈ ps, gb_pOK p
  | [], _, _, _, p, h => absurd h (by simp)
  | a :: as, _, _, w, p, h => by
    rcases List.mem_cons.mp h with e | e
    · rw [e]; exact w.1.1
    · exact gb_wl_mem w.2 p e
end WF
