section BEST
variable {gs : List Nat} {sh : List gb_P} {pl n s : Nat}
theorem dfsP_ok {ok : List Nat → Nat → Bool} : ∀ {d : Nat} {pre t : List Nat}, t ∈ dfsP ok s d pre → ∃ a c u, t = a ++ [c] ∧ ok a c = true ∧ t = pre ++ u ∧ u.length ≤ d ∧ u ≠ [] ∧ ∀ x ∈ u, x < s
  | 0, _, _, h => by cases h
  | d + 1, pre, t, h => by
    rw [dfsP, List.mem_flatMap] at h
    obtain ⟨c, hc, ht⟩ := h
    have cs := List.mem_range.mp hc
    split at ht
    · next o =>
      rcases List.mem_cons.mp ht with q | q
      · exact ⟨pre, c, [c], q, o, q, by simp, by simp, by simpa using cs⟩
      · obtain ⟨a, c', u, e1, e2, e3, e4, e5, e6⟩ := dfsP_ok q
        refine ⟨a, c', c :: u, e1, e2, by rw [e3]; simp, by simp; omega, by simp, fun x hx => ?_⟩
        rcases List.mem_cons.mp hx with y | y
        · rw [y]; exact cs
        · exact e6 x y
    · cases ht
def gvr (gs : List Nat) (sh : List gb_P) (pl : Nat) (r : List Nat) : Int := gvl gs pl (gpt sh r)
def gvd (gs : List Nat) (sh : List gb_P) (r : List Nat) : Bool := decide (zD gs.length (gpt sh r) ≤ 300000)
/-- the best row, by the class and by the reference -/
noncomputable def gbC (gs : List Nat) (sh : List gb_P) (pl n : Nat) : List Nat := (dfsP (gokc n gs.length (gb_k0 gs) sh) sh.length n []).foldl (stepC (gvr gs sh pl)) []
def rowsR (gs : List Nat) (sh : List gb_P) (n : Nat) : List (List Nat) := ((List.range n).flatMap (fun m => rowsP sh.length (m + 1) [])).filter (gvd gs sh)
def gbR (gs : List Nat) (sh : List gb_P) (pl n : Nat) : List Nat := (rowsR gs sh n).foldl (stepR (gvr gs sh pl)) []
theorem rowsA_c : rowsA s n = [] :: (List.range n).flatMap (fun m => rowsP s (m + 1) []) := by
  unfold rowsA
  rw [List.range_succ_eq_map, List.flatMap_cons, List.flatMap_map]
  rfl
theorem gvd_nil : gvd gs sh [] = true := by
  unfold gvd
  exact decide_eq_true (by show 1 ≤ 300000; decide)
theorem rowsR_c : (rowsA sh.length n).filter (gvd gs sh) = [] :: rowsR gs sh n := by
  rw [rowsA_c, List.filter_cons, if_pos gvd_nil]
  rfl
theorem gbR_ok : gbR gs sh pl n ∈ [] :: rowsR gs sh n ∧ ∀ q ∈ [] :: rowsR gs sh n, gge (gvr gs sh pl) (gbR gs sh pl n) q := by
  refine foldR_ok (rowsR gs sh n) [[]] [] (by simp) (fun q hq => ?_) ?_
  · rw [List.mem_singleton.mp hq]; exact gge_r
  · show ([] :: rowsR gs sh n).Pairwise _
    rw [← rowsR_c]
    exact List.Pairwise.filter _ rowsA_pw
theorem gbC_ok : gbC gs sh pl n ∈ [] :: dfsP (gokc n gs.length (gb_k0 gs) sh) sh.length n [] ∧ ∀ q ∈ [] :: dfsP (gokc n gs.length (gb_k0 gs) sh) sh.length n [], gge (gvr gs sh pl) (gbC gs sh pl n) q := by
  refine foldC_ok (dfsP (gokc n gs.length (gb_k0 gs) sh) sh.length n []) [[]] [] (by simp) (fun q hq => ?_) ?_
  · rw [List.mem_singleton.mp hq]; exact gge_r
  · show ([] :: dfsP (gokc n gs.length (gb_k0 gs) sh) sh.length n []).Pairwise _
    refine List.pairwise_cons.mpr ⟨fun y hy e => ?_, dfsP_pw⟩
    obtain ⟨c, u, q, _⟩ := dfsP_mem hy
    rw [q] at e
    simp at e
theorem gvis {t : List Nat} (h : t ∈ [] :: dfsP (gokc n gs.length (gb_k0 gs) sh) sh.length n []) : t.length ≤ n ∧ (∀ x ∈ t, x < sh.length) ∧ zD gs.length (gpt sh t) ≤ 300000 := by
  rcases List.mem_cons.mp h with q | q
  · subst q
    exact ⟨by simp, by simp, by show 1 ≤ 300000; decide⟩
  · obtain ⟨a, c, u, e1, e2, e3, e4, e5, e6⟩ := dfsP_ok q
    have e3' : t = u := by simpa using e3
    subst e3'
    refine ⟨e4, e6, ?_⟩
    rw [e1]
    exact (gokc_t.mp e2).1
theorem gcover (hgs : ∀ m ∈ gs, m < 10) (g3 : gs.length ≤ 3) (g1 : 1 ≤ gs.length) (hs : ∀ p ∈ sh, gso p) (n3 : n ≤ 3) : ∀ (m : Nat) {t : List Nat}, t.length ≤ m → t.length ≤ n → (∀ x ∈ t, x < sh.length) → zD gs.length (gpt sh t) ≤ 300000 → ∃ w ∈ [] :: dfsP (gokc n gs.length (gb_k0 gs) sh) sh.length n [], gge (gvr gs sh pl) w t
  | m, t, tm, tl, ti, tv => by
    rcases gdom (pl := pl) hgs g3 g1 hs n3 tl ti tv with h | ⟨t', h1, h2, h3, h4⟩
    · exact ⟨t, h, gge_r⟩
    · match m with
      | 0 => omega
      | m + 1 =>
        obtain ⟨w, w1, w2⟩ := gcover hgs g3 g1 hs n3 m (t := t') (by omega) (by omega) h2 h3
        exact ⟨w, w1, gge_t w2 (Or.inr ⟨h4.symm, Or.inl h1⟩)⟩
theorem gb_CR (hgs : ∀ m ∈ gs, m < 10) (g3 : gs.length ≤ 3) (g1 : 1 ≤ gs.length) (hs : ∀ p ∈ sh, gso p) (n3 : n ≤ 3) : gbC gs sh pl n = gbR gs sh pl n := by
  obtain ⟨r1, r2⟩ := gbR_ok (gs := gs) (sh := sh) (pl := pl) (n := n)
  obtain ⟨c1, c2⟩ := gbC_ok (gs := gs) (sh := sh) (pl := pl) (n := n)
  refine gge_a (v := gvr gs sh pl) ?_ ?_
  · have hm : gbR gs sh pl n ∈ (rowsA sh.length n).filter (gvd gs sh) := by rw [rowsR_c]; exact r1
    obtain ⟨m1, m2⟩ := List.mem_filter.mp hm
    obtain ⟨l1, l2⟩ := rowsA_mem.mp m1
    obtain ⟨w, w1, w2⟩ := gcover (pl := pl) hgs g3 g1 hs n3 (gbR gs sh pl n).length (Nat.le_refl _) l1 l2 (of_decide_eq_true m2)
    exact gge_t (c2 w w1) w2
  · obtain ⟨v1, v2, v3⟩ := gvis c1
    refine r2 _ ?_
    rw [← rowsR_c]
    exact List.mem_filter.mpr ⟨rowsA_mem.mpr ⟨v1, v2⟩, decide_eq_true v3⟩
theorem gbR_b : (gbR gs sh pl n).length ≤ n ∧ (∀ x ∈ gbR gs sh pl n, x < sh.length) ∧ zD gs.length (gpt sh (gbR gs sh pl n)) ≤ 300000 := by
  have hm : gbR gs sh pl n ∈ (rowsA sh.length n).filter (gvd gs sh) := by rw [rowsR_c]; exact gbR_ok.1
  obtain ⟨m1, m2⟩ := List.mem_filter.mp hm
  obtain ⟨l1, l2⟩ := rowsA_mem.mp m1
  exact ⟨l1, l2, of_decide_eq_true m2⟩
end BEST
