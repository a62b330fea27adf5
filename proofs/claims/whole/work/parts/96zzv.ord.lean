section ORD
variable {v : List Nat → Int} {a b c r q : List Nat}
def lexle : List Nat → List Nat → Prop
  | [], _ => True
  | _ :: _, [] => False
  | x :: xs, y :: ys => x < y ∨ (x = y ∧ lexle xs ys)
theorem lexle_r : ∀ a : List Nat, lexle a a
  | [] => trivial
  | x :: xs => Or.inr ⟨rfl, lexle_r xs⟩
theorem lexle_t : ∀ {a b c : List Nat}, lexle a b → lexle b c → lexle a c
  | [], _, _, _, _ => trivial
  | _ :: _, [], _, h, _ => absurd h (fun z => z)
  | _ :: _, _ :: _, [], _, h => absurd h (fun z => z)
  | x :: xs, y :: ys, z :: zs, h, h' => by
    rcases h with h | ⟨e, h⟩
    · rcases h' with h' | ⟨e', _⟩
      · exact Or.inl (by omega)
      · exact Or.inl (by omega)
    · rcases h' with h' | ⟨e', h'⟩
      · exact Or.inl (by omega)
      · exact Or.inr ⟨e.trans e', lexle_t h h'⟩
theorem lexle_a : ∀ {a b : List Nat}, a.length = b.length → lexle a b → lexle b a → a = b
  | [], [], _, _, _ => rfl
  | [], _ :: _, e, _, _ => by simp at e
  | _ :: _, [], e, _, _ => by simp at e
  | x :: xs, y :: ys, e, h, h' => by
    have e' : xs.length = ys.length := by simpa using e
    rcases h with h | ⟨q, h⟩
    · rcases h' with h' | ⟨q', _⟩
      · omega
      · omega
    · rcases h' with h' | ⟨_, h'⟩
      · omega
      · rw [q, lexle_a e' h h']
theorem lexle_app (p : List Nat) (h : lexle a b) : lexle (p ++ a) (p ++ b) := by
  induction p with
  | nil => exact h
  | cons x p ih => exact Or.inr ⟨rfl, ih⟩
/-- b is at least as good as r, and not behind it where they are alike -/
def gge (v : List Nat → Int) (b r : List Nat) : Prop := v r < v b ∨ (v r = v b ∧ (b.length < r.length ∨ (b.length = r.length ∧ lexle b r)))
theorem gge_r : gge v b b := Or.inr ⟨rfl, Or.inr ⟨rfl, lexle_r b⟩⟩
theorem gge_t (h : gge v a b) (h' : gge v b c) : gge v a c := by
  rcases h with h | ⟨e, h⟩
  · rcases h' with h' | ⟨e', _⟩
    · exact Or.inl (by omega)
    · exact Or.inl (by omega)
  · rcases h' with h' | ⟨e', h'⟩
    · exact Or.inl (by omega)
    · refine Or.inr ⟨by omega, ?_⟩
      rcases h with h | ⟨l, h⟩
      · rcases h' with h' | ⟨l', _⟩
        · exact Or.inl (by omega)
        · exact Or.inl (by omega)
      · rcases h' with h' | ⟨l', h'⟩
        · exact Or.inl (by omega)
        · exact Or.inr ⟨by omega, lexle_t h h'⟩
theorem gge_a (h : gge v a b) (h' : gge v b a) : a = b := by
  rcases h with h | ⟨e, h⟩
  · rcases h' with h' | ⟨e', _⟩ <;> omega
  · rcases h' with h' | ⟨e', h'⟩
    · omega
    · rcases h with h | ⟨l, h⟩
      · rcases h' with h' | ⟨l', _⟩ <;> omega
      · rcases h' with h' | ⟨l', h'⟩
        · omega
        · exact lexle_a l h h'
/-- how the class and the reference keep the best row -/
def stepC (v : List Nat → Int) (b r : List Nat) : List Nat := if v b < v r ∨ (v b = v r ∧ r.length < b.length) then r else b
def stepR (v : List Nat → Int) (b r : List Nat) : List Nat := if v b < v r then r else b
theorem foldC_ok : ∀ (l Q : List (List Nat)) (b : List Nat), b ∈ Q → (∀ q ∈ Q, gge v b q) → (Q ++ l).Pairwise (fun x y => x.length = y.length → lexle x y) → (l.foldl (stepC v) b) ∈ Q ++ l ∧ ∀ q ∈ Q ++ l, gge v (l.foldl (stepC v) b) q
  | [], Q, b, hb, h, _ => by
    rw [List.append_nil]
    exact ⟨hb, h⟩
  | r :: l, Q, b, hb, h, hp => by
    have hbr : b.length = r.length → lexle b r := (List.pairwise_append.mp hp).2.2 b hb r (by simp)
    have key : stepC v b r ∈ Q ++ [r] ∧ ∀ q ∈ Q ++ [r], gge v (stepC v b r) q := by
      unfold stepC
      by_cases c : v b < v r ∨ (v b = v r ∧ r.length < b.length)
      · rw [if_pos c]
        refine ⟨by simp, fun q hq => ?_⟩
        rcases List.mem_append.mp hq with q' | q'
        · rcases h q q' with g | ⟨g1, g2⟩
          · exact Or.inl (by omega)
          · rcases c with c | ⟨c1, c2⟩
            · exact Or.inl (by omega)
            · exact Or.inr ⟨by omega, Or.inl (by omega)⟩
        · rw [List.mem_singleton.mp q']
          exact gge_r
      · rw [if_neg c]
        refine ⟨List.mem_append_left _ hb, fun q hq => ?_⟩
        rcases List.mem_append.mp hq with q' | q'
        · exact h q q'
        · rw [List.mem_singleton.mp q']
          rcases Int.lt_trichotomy (v r) (v b) with d | d | d
          · exact Or.inl d
          · refine Or.inr ⟨d, ?_⟩
            rcases Nat.lt_trichotomy b.length r.length with e | e | e
            · exact Or.inl e
            · exact Or.inr ⟨e, hbr e⟩
            · exact absurd (Or.inr ⟨d.symm, e⟩) c
          · exact absurd (Or.inl d) c
    have := foldC_ok l (Q ++ [r]) (stepC v b r) key.1 key.2 (by rw [List.append_assoc]; exact hp)
    rw [List.append_assoc] at this
    exact this
theorem foldR_ok : ∀ (l Q : List (List Nat)) (b : List Nat), b ∈ Q → (∀ q ∈ Q, gge v b q) → (Q ++ l).Pairwise (fun x y => x.length < y.length ∨ (x.length = y.length ∧ lexle x y)) → (l.foldl (stepR v) b) ∈ Q ++ l ∧ ∀ q ∈ Q ++ l, gge v (l.foldl (stepR v) b) q
  | [], Q, b, hb, h, _ => by
    rw [List.append_nil]
    exact ⟨hb, h⟩
  | r :: l, Q, b, hb, h, hp => by
    have hbr := (List.pairwise_append.mp hp).2.2 b hb r (by simp)
    have key : stepR v b r ∈ Q ++ [r] ∧ ∀ q ∈ Q ++ [r], gge v (stepR v b r) q := by
      unfold stepR
      by_cases c : v b < v r
      · rw [if_pos c]
        refine ⟨by simp, fun q hq => ?_⟩
        rcases List.mem_append.mp hq with q' | q'
        · rcases h q q' with g | ⟨g1, g2⟩
          · exact Or.inl (by omega)
          · exact Or.inl (by omega)
        · rw [List.mem_singleton.mp q']
          exact gge_r
      · rw [if_neg c]
        refine ⟨List.mem_append_left _ hb, fun q hq => ?_⟩
        rcases List.mem_append.mp hq with q' | q'
        · exact h q q'
        · rw [List.mem_singleton.mp q']
          rcases Int.lt_trichotomy (v r) (v b) with d | d | d
          · exact Or.inl d
          · exact Or.inr ⟨d, hbr⟩
          · exact absurd d c
    have := foldR_ok l (Q ++ [r]) (stepR v b r) key.1 key.2 (by rw [List.append_assoc]; exact hp)
    rw [List.append_assoc] at this
    exact this
/-- all rows of m more parts behind a row; the rows that the class looks at behind a row -/
def rowsP (s : Nat) : Nat → List Nat → List (List Nat)
  | 0, pre => [pre]
  | m + 1, pre => (List.range s).flatMap (fun c => rowsP s m (pre ++ [c]))
def dfsP (ok : List Nat → Nat → Bool) (s : Nat) : Nat → List Nat → List (List Nat)
  | 0, _ => []
  | d + 1, pre => (List.range s).flatMap (fun c => if ok pre c = true then (pre ++ [c]) :: dfsP ok s d (pre ++ [c]) else [])
theorem rowsP_mem {s : Nat} : ∀ {m : Nat} {pre t : List Nat}, t ∈ rowsP s m pre ↔ ∃ u, t = pre ++ u ∧ u.length = m ∧ ∀ x ∈ u, x < s
  | 0, pre, t => by
    rw [rowsP, List.mem_singleton]
    constructor
    · intro e
      exact ⟨[], by simpa using e, rfl, by simp⟩
    · rintro ⟨u, e, l, _⟩
      rw [List.length_eq_zero_iff.mp l] at e
      simpa using e
  | m + 1, pre, t => by
    rw [rowsP, List.mem_flatMap]
    constructor
    · rintro ⟨c, hc, ht⟩
      obtain ⟨u, e, l, h⟩ := rowsP_mem.mp ht
      refine ⟨c :: u, by rw [e]; simp, by simp [l], fun x hx => ?_⟩
      rcases List.mem_cons.mp hx with q | q
      · rw [q]; exact List.mem_range.mp hc
      · exact h x q
    · rintro ⟨u, e, l, h⟩
      match u, l with
      | c :: u, l =>
        refine ⟨c, List.mem_range.mpr (h c (by simp)), rowsP_mem.mpr ⟨u, by rw [e]; simp, by simpa using l, fun x hx => h x (List.mem_cons_of_mem _ hx)⟩⟩
theorem dfsP_mem {ok : List Nat → Nat → Bool} {s : Nat} : ∀ {d : Nat} {pre t : List Nat}, t ∈ dfsP ok s d pre → ∃ c u, t = pre ++ c :: u ∧ c < s ∧ ok pre c = true
  | 0, _, _, h => by cases h
  | d + 1, pre, t, h => by
    rw [dfsP, List.mem_flatMap] at h
    obtain ⟨c, hc, ht⟩ := h
    split at ht
    · next o =>
      rcases List.mem_cons.mp ht with q | q
      · exact ⟨c, [], q, List.mem_range.mp hc, o⟩
      · obtain ⟨c', u, e, _⟩ := dfsP_mem q
        exact ⟨c, c' :: u, by rw [e]; simp, List.mem_range.mp hc, o⟩
    · cases ht
theorem pw_flat {R : List Nat → List Nat → Prop} {f : Nat → List (List Nat)} : ∀ s, (∀ c, c < s → (f c).Pairwise R) → (∀ c c', c < c' → c' < s → ∀ x ∈ f c, ∀ y ∈ f c', R x y) → ((List.range s).flatMap f).Pairwise R
  | 0, _, _ => by simp
  | s + 1, h, h' => by
    rw [List.range_succ, List.flatMap_append, List.pairwise_append]
    refine ⟨pw_flat s (fun c hc => h c (by omega)) (fun c c' a b => h' c c' a (by omega)), ?_, fun x hx y hy => ?_⟩
    · simpa using h s (by omega)
    · obtain ⟨c, hc, hx⟩ := List.mem_flatMap.mp hx
      have hy' : y ∈ f s := by simpa using hy
      exact h' c s (List.mem_range.mp hc) (by omega) x hx y hy'
theorem dfsP_pw {ok : List Nat → Nat → Bool} {s : Nat} : ∀ {d : Nat} {pre : List Nat}, (dfsP ok s d pre).Pairwise (fun x y => x.length = y.length → lexle x y)
  | 0, _ => List.Pairwise.nil
  | d + 1, pre => by
    rw [dfsP]
    refine pw_flat s (fun c hc => ?_) (fun c c' a b x hx y hy e => ?_)
    · split
      · refine List.pairwise_cons.mpr ⟨fun y hy e => ?_, dfsP_pw⟩
        obtain ⟨c', u, q, _⟩ := dfsP_mem hy
        rw [q] at e
        simp at e
      · exact List.Pairwise.nil
    · have pf : ∀ {c x}, x ∈ (if ok pre c = true then (pre ++ [c]) :: dfsP ok s d (pre ++ [c]) else []) → ∃ u, x = pre ++ (c :: u) := fun {c x} hx => by
        split at hx
        · rcases List.mem_cons.mp hx with q | q
          · exact ⟨[], q⟩
          · obtain ⟨c', u, q, _⟩ := dfsP_mem q
            exact ⟨c' :: u, by rw [q]; simp⟩
        · cases hx
      obtain ⟨u, q⟩ := pf hx
      obtain ⟨u', q'⟩ := pf hy
      rw [q, q']
      exact lexle_app pre (Or.inl a)
theorem rowsP_pw {s : Nat} : ∀ {m : Nat} {pre : List Nat}, (rowsP s m pre).Pairwise lexle
  | 0, _ => by rw [rowsP]; simp
  | m + 1, pre => by
    rw [rowsP]
    refine pw_flat s (fun c _ => rowsP_pw) (fun c c' a b x hx y hy => ?_)
    obtain ⟨u, q, _⟩ := rowsP_mem.mp hx
    obtain ⟨u', q', _⟩ := rowsP_mem.mp hy
    rw [q, q', List.append_assoc, List.append_assoc]
    exact lexle_app pre (Or.inl a)
/-- all rows of at most n parts, the shorter ones ahead -/
def rowsA (s n : Nat) : List (List Nat) := (List.range (n + 1)).flatMap (fun m => rowsP s m [])
theorem rowsA_pw {s n : Nat} : (rowsA s n).Pairwise (fun x y => x.length < y.length ∨ (x.length = y.length ∧ lexle x y)) := by
  unfold rowsA
  refine pw_flat (n + 1) (fun c _ => ?_) (fun c c' a b x hx y hy => ?_)
  · refine List.Pairwise.imp_of_mem (R := lexle) (fun {x y} hx hy h => ?_) rowsP_pw
    obtain ⟨u, q, l, _⟩ := rowsP_mem.mp hx
    obtain ⟨u', q', l', _⟩ := rowsP_mem.mp hy
    refine Or.inr ⟨?_, h⟩
    rw [q, q']
    simp [l, l']
  · obtain ⟨u, q, l, _⟩ := rowsP_mem.mp hx
    obtain ⟨u', q', l', _⟩ := rowsP_mem.mp hy
    refine Or.inl ?_
    rw [q, q']
    simp [l, l', a]
theorem rowsA_mem {s n : Nat} {t : List Nat} : t ∈ rowsA s n ↔ t.length ≤ n ∧ ∀ x ∈ t, x < s := by
  unfold rowsA
  rw [List.mem_flatMap]
  constructor
  · rintro ⟨m, hm, ht⟩
    obtain ⟨u, q, l, h⟩ := rowsP_mem.mp ht
    have : t = u := by simpa using q
    subst this
    have := List.mem_range.mp hm
    exact ⟨by omega, h⟩
  · rintro ⟨l, h⟩
    exact ⟨t.length, List.mem_range.mpr (by omega), rowsP_mem.mpr ⟨t, by simp, rfl, h⟩⟩
/-- a row that is left out has a part that is left out -/
theorem dfsP_in {ok : List Nat → Nat → Bool} {s : Nat} : ∀ {d : Nat} {pre u : List Nat}, u ≠ [] → u.length ≤ d → (∀ x ∈ u, x < s) → (∀ a c e, u = a ++ c :: e → ok (pre ++ a) c = true) → pre ++ u ∈ dfsP ok s d pre
  | d, pre, [], h, _, _, _ => absurd rfl h
  | 0, pre, c :: u, _, l, _, _ => by simp at l
  | d + 1, pre, c :: u, _, l, h, o => by
    rw [dfsP, List.mem_flatMap]
    have oc : ok pre c = true := by simpa using o [] c u rfl
    refine ⟨c, List.mem_range.mpr (h c (by simp)), ?_⟩
    rw [if_pos oc]
    match u with
    | [] => simp
    | c' :: u' =>
      refine List.mem_cons_of_mem _ ?_
      have := dfsP_in (ok := ok) (s := s) (d := d) (pre := pre ++ [c]) (u := c' :: u') (by simp) (by simpa using l) (fun x hx => h x (List.mem_cons_of_mem _ hx)) (fun a c'' e q => by
        have := o (c :: a) c'' e (by rw [q]; rfl)
        rw [show pre ++ [c] ++ a = pre ++ c :: a by simp]
        exact this)
      rw [show pre ++ c :: c' :: u' = pre ++ [c] ++ c' :: u' by simp]
      exact this
end ORD
