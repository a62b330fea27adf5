/-! the law's entry: the machine's start is the pure start -/
def gb_h0 (N : Nat) (xs : Nat → Int32) : gb_H := (0, 0, fun n => if n = gb_SC then (24, N) else (99, 0), fun n j => if n = gb_SC then xs j else 0, fun _ _ => 0, fun _ _ => none)
theorem gb_pure (N : Nat) (xs : Nat → Int32) (hN : N ≤ 4096) : ∃ h' : gb_H, fnL_law (gb_h0 N xs) = some (1, h') ∧ gb_cn h' ≤ 600000 ∧ gb_sl h' ≤ 7302250 := sorry
theorem gb_Wmono {p : Program} {l : Launch} {e : Env} {R : Room} {s : State} {m : MethodId} {args : Array Value} {below : List Frame} {meth : Method} {c : Code} {H : Heap} {locs : List Loc} {cells slots : Nat} {Q Q' : State → Prop} {g : JFrame} (h : ∀ t, Q t → Q' t) (k : W p l e R s m args below meth c H locs cells slots Q g) : W p l e R s m args below meth c H locs cells slots Q' g := by
  intro T hT X
  obtain ⟨t, a, b⟩ := k T hT X
  exact ⟨t, a, h t b⟩
def gb_tm (i : Nat) : Term := .string "GrainBench$Reader" (gb_si i)
