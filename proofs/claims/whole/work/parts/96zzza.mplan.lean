section MPLAN
variable {S : gb_S} {I I' I1 I2 : gb_FI} {J J' J1 J2 : gb_FJ} {gs : List Nat} {sh : List gb_P} {pl n g k m q : Nat} {r b pre : List Nat}
theorem gstR_some (b r : List Nat) : gstR gs sh pl (some b) r = some (if gvd gs sh r = true then stepR (gvr gs sh pl) b r else b) := by
  unfold gstR
  split <;> rfl
theorem gfold_s : ∀ (l : List (List Nat)) (b : List Nat), l.foldl (gstR gs sh pl) (some b) = some ((l.filter (gvd gs sh)).foldl (stepR (gvr gs sh pl)) b)
  | [], b => rfl
  | r :: l, b => by
    rw [List.foldl_cons, gstR_some, gfold_s l, List.filter_cons]
    by_cases c : gvd gs sh r = true
    · rw [if_pos c, if_pos c, List.foldl_cons]
    · rw [if_neg c, if_neg c]
theorem gfold_A : (rowsA sh.length n).foldl (gstR gs sh pl) none = some (gbR gs sh pl n) := by
  rw [rowsA_c, List.foldl_cons, show gstR gs sh pl none [] = some [] by unfold gstR; rw [if_pos gvd_nil], gfold_s]
  rfl
/-- the plan that is kept -/
def gpln (gs : List Nat) (sh : List gb_P) (pl n : Nat) : List Nat × Int64 × Int64 × Int64 := (gbR gs sh pl n, iL ((guP gs pl (gpt sh (gbR gs sh pl n))).tdiv (gGP gs pl (gpt sh (gbR gs sh pl n)))), iL ((gvP gs pl (gpt sh (gbR gs sh pl n))).tdiv (gGP gs pl (gpt sh (gbR gs sh pl n)))), lN (gWz gs (gpt sh (gbR gs sh pl n)) / gGP gs pl (gpt sh (gbR gs sh pl n))))
def a_plan (n p0 p1 p2 p3 p4 : Int32) (S : gb_S) : Int32 × gb_S :=
  if gb_rg n 4 = true ∧ grg5 p0 p1 p2 p3 p4 ∧ S.1 ≠ [] then (nI (gbR S.1 S.2.2.2.2.2.1 (gb_pl5 p0 p1 p2 p3 p4) n.toNatClampNeg).length, sPl S (some (gpln S.1 S.2.2.2.2.2.1 (gb_pl5 p0 p1 p2 p3 p4) n.toNatClampNeg))) else (-1, S)
theorem m_pl166 {i j : Nat} (hi : i < 3) (hj : j < 8) (e : I 266 i = nI j) (k140 : Nat → Int32 → gb_H → Option (Int32 × gb_H)) : ∀ k c F (I1 : gb_FI), c + k = 8 → k < F → (∀ x y, ¬ (x = 267 ∧ 8 * i ≤ y ∧ y < 8 * i + 8) → I1 x y = I x y) → (∀ y, y < c → I1 267 (8 * i + y) = I 245 (8 * j + y)) →
    ∃ I2, lpX11_plan_166 k140 F 241 (nI i) (nI c) (gb_mk I1 J) = k140 241 (nI (i + 1)) (gb_mk I2 J) ∧ (∀ x y, ¬ (x = 267 ∧ 8 * i ≤ y ∧ y < 8 * i + 8) → I2 x y = I x y) ∧ ∀ y, y < 8 → I2 267 (8 * i + y) = I 245 (8 * j + y) := by
  intro k
  induction k with
  | zero =>
    intro c F I1 hc hF h1 h2
    obtain ⟨F, rfl⟩ : ∃ f, F = f + 1 := ⟨F - 1, by omega⟩
    refine ⟨I1, ?_, h1, fun y hy => h2 y (by omega)⟩
    rw [show lpX11_plan_166 k140 (F + 1) 241 (nI i) (nI c) (gb_mk I1 J) = fbX11_plan_166 k140 (fun v0 v7 v8 h => lpX11_plan_166 k140 F v0 v7 v8 h) 241 (nI i) (nI c) (gb_mk I1 J) from rfl]
    unfold fbX11_plan_166
    rw [if_pos (show (8 : Int32) ≤ nI c from nI_le (a := 8) (by omega) (by omega)), gb_lt_d, nI_1]
  | succ k ih =>
    intro c F I1 hc hF h1 h2
    obtain ⟨F, rfl⟩ : ∃ f, F = f + 1 := ⟨F - 1, by omega⟩
    rw [show lpX11_plan_166 k140 (F + 1) 241 (nI i) (nI c) (gb_mk I1 J) = fbX11_plan_166 k140 (fun v0 v7 v8 h => lpX11_plan_166 k140 F v0 v7 v8 h) 241 (nI i) (nI c) (gb_mk I1 J) from rfl]
    unfold fbX11_plan_166
    rw [if_neg (show ¬ (8 : Int32) ≤ nI c from nI_ge (b := 8) (by omega) (by omega)), gk241, gb_gd_t, gr241_44, gb_rd_s, gb_gd_t, gr241_5, gb_rd_s, gb_gd_t, gr241_43, gb_rd_s, gk266, gb_gd_t, gi266 (by omega), gb_gd_t, gb_lt_d, gb_I_mk, nI_clamp (by omega), h1 266 i (by omega), e, show (8 : Int32) = nI 8 from rfl, gb_nI_mul, nI_add, gk245, gb_gd_t, gi245 (by omega), gb_gd_t, gb_lt_d, gb_nI_mul, nI_add, gk267, gb_gd_t, gi267 (by omega), gb_gd_t, gb_lt_d, gb_sI_mk, gb_lt_d, nI_1, nI_clamp (by omega), nI_clamp (by omega), h1 245 _ (by omega)]
    refine ih (c + 1) F _ (by omega) (by omega) (fun x y hx => by rw [gb_u1, if_neg (fun z => hx ⟨z.1, by omega, by omega⟩)]; exact h1 x y hx) (fun y hy => ?_)
    by_cases z : y = c
    · rw [z, gb_u_s]
    · rw [gb_u_nk _ _ (by omega)]; exact h2 y (by omega)
theorem m_pl140 {b : List Nat} (bl : b.length ≤ 3) (b8 : ∀ x ∈ b, x < 8) (e47 : I 241 47 = nI b.length) (hb : ∀ i j, b[i]? = some j → I 266 i = nI j) : ∀ k i F (I1 : gb_FI), i + k = b.length → k < F → (∀ x y, x ≠ 267 → x ≠ 268 → I1 x y = I x y) → (∀ a j, a < i → b[a]? = some j → I1 268 a = nI j ∧ ∀ y, y < 8 → I1 267 (8 * a + y) = I 245 (8 * j + y)) →
    ∃ I2, lpX11_plan_140 F 241 (nI i) (gb_mk I1 J) = some (I 241 46, gb_mk I2 J) ∧ (∀ x y, x ≠ 267 → x ≠ 268 → I2 x y = I x y) ∧ ∀ a j, b[a]? = some j → I2 268 a = nI j ∧ ∀ y, y < 8 → I2 267 (8 * a + y) = I 245 (8 * j + y) := by
  intro k
  induction k with
  | zero =>
    intro i F I1 hi hF h1 h2
    obtain ⟨F, rfl⟩ : ∃ f, F = f + 1 := ⟨F - 1, by omega⟩
    refine ⟨I1, ?_, h1, fun a j hj => h2 a j (by have := (List.getElem?_eq_some_iff.mp hj).1; omega) hj⟩
    rw [show lpX11_plan_140 (F + 1) 241 (nI i) (gb_mk I1 J) = fbX11_plan_140 (fun v0 v7 h => lpX11_plan_140 F v0 v7 h) 241 (nI i) (gb_mk I1 J) from rfl]
    unfold fbX11_plan_140
    rw [gk241, gb_gd_t, gb_I_mk, h1 241 47 (by decide) (by decide), e47, if_pos (nI_le (by omega) (by omega)), gb_gd_t, h1 241 46 (by decide) (by decide)]
  | succ k ih =>
    intro i F I1 hi hF h1 h2
    obtain ⟨F, rfl⟩ : ∃ f, F = f + 1 := ⟨F - 1, by omega⟩
    have il : i < b.length := by omega
    have ej : b[i]? = some b[i] := List.getElem?_eq_getElem il
    have j8 : b[i] < 8 := b8 _ (List.getElem_mem _)
    have e66 : I1 266 i = nI b[i] := by rw [h1 266 i (by decide) (by decide)]; exact hb i _ ej
    obtain ⟨I2, w1, w2, w3⟩ := m_pl166 (I := gb_u I1 268 i (nI b[i])) (J := J) (i := i) (j := b[i]) (by omega) j8 (by rw [gb_u_ne _ _ (by decide)]; exact e66) (fun v0 v7 h => lpX11_plan_140 F v0 v7 h) 8 0 gb_FU (gb_u I1 268 i (nI b[i])) (by decide) (by decide) (fun _ _ _ => rfl) (fun y hy => absurd hy (by omega))
    obtain ⟨I3, x1, x2, x3⟩ := ih (i + 1) F I2 (by omega) (by omega) (fun x y hx hx' => by rw [w2 x y (fun z => hx z.1), gb_u_ne _ _ hx']; exact h1 x y hx hx') (fun a j ha hj => by
      by_cases e : a = i
      · subst e
        rw [ej] at hj
        have := Option.some.inj hj
        subst this
        refine ⟨by rw [w2 268 _ (fun z => by omega), gb_u_s], fun y hy => ?_⟩
        rw [w3 y hy, gb_u_ne _ _ (by decide), h1 245 _ (by decide) (by decide)]
      · obtain ⟨p1, p2⟩ := h2 a j (by omega) hj
        refine ⟨by rw [w2 268 _ (fun z => by omega), gb_u_nk _ _ e]; exact p1, fun y hy => ?_⟩
        rw [w2 267 _ (fun z => by omega), gb_u_ne _ _ (by decide)]
        exact p2 y hy)
    refine ⟨I3, ?_, x2, x3⟩
    rw [show lpX11_plan_140 (F + 1) 241 (nI i) (gb_mk I1 J) = fbX11_plan_140 (fun v0 v7 h => lpX11_plan_140 F v0 v7 h) 241 (nI i) (gb_mk I1 J) from rfl]
    unfold fbX11_plan_140
    rw [gk241, gb_gd_t, gb_I_mk, h1 241 47 (by decide) (by decide), e47, if_neg (nI_ge il (by omega)), gb_gd_t, gr241_45, gb_rd_s, gb_gd_t, gr241_43, gb_rd_s, gk266, gb_gd_t, gi266 (by omega), gb_gd_t, gk268, gb_gd_t, gi268 (by omega), gb_gd_t, gb_lt_d, gb_sI_mk, nI_clamp (by omega), e66, show (0 : Int32) = nI 0 from rfl, w1]
    exact x1
theorem RM.pln (h : RM S I J) {q : List Nat × Int64 × Int64 × Int64} (hq : mL (I' 241 46) (I' 268) (I' 267) (J' 241) S.2.2.2.2.2.1 (some q)) (f : ∀ x y, ¬ (x = 241 ∧ (y = 23 ∨ y = 24 ∨ y = 25 ∨ y = 46 ∨ y = 47)) → x ≠ 259 → x ≠ 264 → x ≠ 265 → x ≠ 266 → x ≠ 267 → x ≠ 268 → I' x y = I x y) : RM (sPl S (some q)) I' J' := by
  have k : ∀ x, x ≠ 241 → x ≠ 259 → x ≠ 264 → x ≠ 265 → x ≠ 266 → x ≠ 267 → x ≠ 268 → I' x = I x := fun x h1 h2 h3 h4 h5 h6 h7 => funext (fun k => f x k (fun z => h1 z.1) h2 h3 h4 h5 h6 h7)
  have k1 : ∀ j, j ≠ 23 → j ≠ 24 → j ≠ 25 → j ≠ 46 → j ≠ 47 → I' 241 j = I 241 j := fun j a b c d e => f 241 j (fun z => by omega) (by decide) (by decide) (by decide) (by decide) (by decide) (by decide)
  obtain ⟨h1, h2, h3, h4, h5, h6, h7, h8, h9⟩ := h
  refine ⟨?_, ?_, ?_, ?_, ?_, ?_, ?_, ?_, hq⟩
  · rw [k1 1 (by decide) (by decide) (by decide) (by decide) (by decide), k 242 (by decide) (by decide) (by decide) (by decide) (by decide) (by decide) (by decide)]; exact h1
  · rw [k1 0 (by decide) (by decide) (by decide) (by decide) (by decide)]; exact h2
  · rw [k1 14 (by decide) (by decide) (by decide) (by decide) (by decide), k 248 (by decide) (by decide) (by decide) (by decide) (by decide) (by decide) (by decide)]; exact h3
  · rw [k1 18 (by decide) (by decide) (by decide) (by decide) (by decide)]; exact h4
  · rw [k 244 (by decide) (by decide) (by decide) (by decide) (by decide) (by decide) (by decide), k 243 (by decide) (by decide) (by decide) (by decide) (by decide) (by decide) (by decide)]; exact h5
  · rw [k1 6 (by decide) (by decide) (by decide) (by decide) (by decide), k 245 (by decide) (by decide) (by decide) (by decide) (by decide) (by decide) (by decide)]; exact h6
  · rw [k 260 (by decide) (by decide) (by decide) (by decide) (by decide) (by decide) (by decide)]; exact h7
  · rw [k1 37 (by decide) (by decide) (by decide) (by decide) (by decide), k 261 (by decide) (by decide) (by decide) (by decide) (by decide) (by decide) (by decide), k 262 (by decide) (by decide) (by decide) (by decide) (by decide) (by decide) (by decide), k 263 (by decide) (by decide) (by decide) (by decide) (by decide) (by decide) (by decide)]; exact h8
theorem m_pl75 (h : RM S I J) (hgs : ∀ m ∈ S.1, m < 10) (g3 : S.1.length ≤ 3) (g1 : 1 ≤ S.1.length) (hs : ∀ p ∈ S.2.2.2.2.2.1, gso p) (s8 : S.2.2.2.2.2.1.length ≤ 8) {a b c d e : Nat} (hpl : gpk5 a b c d e < 1024) (n3 : n ≤ 3) : ∀ k i F (I1 : gb_FI) (J1 : gb_FJ) (o : Option (List Nat)), i + k = n + 1 → k < F → gm_fP I I1 J J1 → J1 241 54 = lN (gCm S.1.length) → gBst S.1 S.2.2.2.2.2.1 (gpk5 a b c d e) o I1 J1 → o = ((List.range i).flatMap (fun m => rowsP S.2.2.2.2.2.1.length m [])).foldl (gstR S.1 S.2.2.2.2.2.1 (gpk5 a b c d e)) none →
    ∃ I2 J2, lpX11_plan_75 F 241 (nI n) (nI a) (nI b) (nI c) (nI d) (nI e) (nI i) (gb_mk I1 J1) = some (nI (gbR S.1 S.2.2.2.2.2.1 (gpk5 a b c d e) n).length, gb_mk I2 J2) ∧ RM (sPl S (some (gpln S.1 S.2.2.2.2.2.1 (gpk5 a b c d e) n))) I2 J2 ∧ gb_fm I I2 J J2 := by
  intro k
  induction k with
  | zero =>
    intro i F I1 J1 o hi hF f1 eC hb ho
    obtain ⟨F, rfl⟩ : ∃ f, F = f + 1 := ⟨F - 1, by omega⟩
    have oA : o = some (gbR S.1 S.2.2.2.2.2.1 (gpk5 a b c d e) n) := by
      rw [ho, show i = n + 1 by omega]
      exact gfold_A
    rw [oA] at hb
    obtain ⟨b1, b2, b3, b4, b5, b6, b7, b8⟩ := hb
    have x8 : ∀ x ∈ gbR S.1 S.2.2.2.2.2.1 (gpk5 a b c d e) n, x < 8 := fun x hx => Nat.lt_of_lt_of_le (b2 x hx) s8
    obtain ⟨I2, w1, w2, w3⟩ := m_pl140 (I := gb_u I1 241 46 (I1 241 47)) (J := gb_u (gb_u (gb_u J1 241 51 (J1 241 48)) 241 52 (J1 241 49)) 241 53 (J1 241 50)) (b := gbR S.1 S.2.2.2.2.2.1 (gpk5 a b c d e) n) b1 x8 (by rw [gb_u_nk _ _ (by decide)]; exact b4) (fun i j hj => by rw [gb_u_ne _ _ (by decide)]; exact b5 i j hj) (gbR S.1 S.2.2.2.2.2.1 (gpk5 a b c d e) n).length 0 gb_FU (gb_u I1 241 46 (I1 241 47)) (by omega) (show (gbR S.1 S.2.2.2.2.2.1 (gpk5 a b c d e) n).length < 1000000 by omega) (fun _ _ _ _ => rfl) (fun a' j ha => absurd ha (by omega))
    have fI : ∀ x y, ¬ (x = 241 ∧ (y = 23 ∨ y = 24 ∨ y = 25 ∨ y = 46 ∨ y = 47)) → x ≠ 259 → x ≠ 264 → x ≠ 265 → x ≠ 266 → x ≠ 267 → x ≠ 268 → I2 x y = I x y := fun x y h1 h2 h3 h4 h5 h6 h7 => by
      rw [w2 x y h6 h7, gb_u1, if_neg (fun z => h1 ⟨z.1, by omega⟩)]
      exact f1.1 x y (fun z => h1 ⟨z.1, by omega⟩) h2 h3 h4 h5
    refine ⟨I2, gb_u (gb_u (gb_u J1 241 51 (J1 241 48)) 241 52 (J1 241 49)) 241 53 (J1 241 50), ?_, ?_, fun m hm => ⟨?_, ?_⟩⟩
    · rw [show ∀ h, lpX11_plan_75 (F + 1) 241 (nI n) (nI a) (nI b) (nI c) (nI d) (nI e) (nI i) h = fbX11_plan_75 (fun v0 v1 v2 v3 v4 v5 v6 v7 h => lpX11_plan_75 F v0 v1 v2 v3 v4 v5 v6 v7 h) 241 (nI n) (nI a) (nI b) (nI c) (nI d) (nI e) (nI i) h from fun _ => rfl]
      unfold fbX11_plan_75
      rw [if_pos (nI_lt (show n < i by omega) (by omega)), gk241, gb_gd_t, gb_gd_t, gb_lt_d, gb_sI_mk, gb_I_mk, gk241, gb_gd_t, gb_gd_t, gb_lt_d, gb_sL_mk, gb_L_mk, gk241, gb_gd_t, gb_gd_t, gb_lt_d, gb_sL_mk, gb_L_mk, gb_u_nk _ _ (show 49 ≠ 51 by decide), gk241, gb_gd_t, gb_gd_t, gb_lt_d, gb_sL_mk, gb_L_mk, gb_u_nk _ _ (show 50 ≠ 52 by decide), gb_u_nk _ _ (show 50 ≠ 51 by decide), show (0 : Int32) = nI 0 from rfl, w1, gb_u_s, b4]
    · refine h.pln ?_ fI
      refine ⟨?_, fun i' j hj => ?_, ?_, ?_, ?_⟩
      · rw [w2 241 46 (by decide) (by decide), gb_u_s]; exact b4
      · obtain ⟨p1, p2⟩ := w3 i' j hj
        refine ⟨p1, fun p hp => mP_copy (h.2.2.2.2.2.1.2 j p hp) (fun k hk => ?_)⟩
        rw [p2 k hk, gb_u_ne _ _ (by decide)]
        exact f1.1 245 _ (fun z => by omega) (by decide) (by decide) (by decide) (by decide)
      · rw [gb_u_nk _ _ (by decide), gb_u_nk _ _ (by decide), gb_u_s]; exact b6
      · rw [gb_u_nk _ _ (by decide), gb_u_s]; exact b7
      · rw [gb_u_s]; exact b8
    · exact funext (fun y => fI m y (fun z => by omega) (by omega) (by omega) (by omega) (by omega) (by omega) (by omega))
    · funext y
      rw [gb_u_ne _ _ (by omega), gb_u_ne _ _ (by omega), gb_u_ne _ _ (by omega)]
      exact f1.2 m y (by omega) (fun z => by omega)
  | succ k ih =>
    intro i F I1 J1 o hi hF f1 eC hb ho
    obtain ⟨F, rfl⟩ : ∃ f, F = f + 1 := ⟨F - 1, by omega⟩
    have hr := h.fP f1
    obtain ⟨I2, J2, s1, s2, s3, s4⟩ := m_tries hgs g3 g1 hs s8 hpl i gb_RD [] I1 J1 o (show i < 8 by omega) (by simp; omega) (by simp) hr.1 hr.2.2.2.2.2.1 ⟨fun j p hj => by simp [gpt] at hj, fun j c hj => by simp at hj⟩ eC hb
    obtain ⟨I3, J3, t1, t2, t3⟩ := ih (i + 1) F I2 J2 _ (by omega) (by omega) (f1.t s2) (by rw [s2.2 241 54 (by decide) (by decide)]; exact eC) s4 (by rw [ho, List.range_succ, List.flatMap_append, List.foldl_append]; simp)
    refine ⟨I3, J3, ?_, t2, t3⟩
    rw [show ∀ h, lpX11_plan_75 (F + 1) 241 (nI n) (nI a) (nI b) (nI c) (nI d) (nI e) (nI i) h = fbX11_plan_75 (fun v0 v1 v2 v3 v4 v5 v6 v7 h => lpX11_plan_75 F v0 v1 v2 v3 v4 v5 v6 v7 h) 241 (nI n) (nI a) (nI b) (nI c) (nI d) (nI e) (nI i) h from fun _ => rfl]
    unfold fbX11_plan_75
    have s1' : fnX11_tries gb_RD 241 0 (nI i) (nI (gpk5 a b c d e)) (gb_mk I1 J1) = some ((), gb_mk I2 J2) := by
      have := s1
      rw [show ([] : List Nat).length = 0 from rfl, Nat.zero_add] at this
      exact this
    rw [if_neg (nI_nlt (show i ≤ n by omega) (by omega)), m_placeOf, gb_bd_s, gk241, gb_gd_t, s1', gb_bd_s, gb_lt_d, nI_1]
    exact t1
theorem M_plan (h : RM S I J) (hgs : ∀ m ∈ S.1, m < 10) (g3 : S.1.length ≤ 3) (hs : ∀ p ∈ S.2.2.2.2.2.1, gso p) (s8 : S.2.2.2.2.2.1.length ≤ 8) (n p0 p1 p2 p3 p4 : Int32) : mok (fnX11_plan 241 n p0 p1 p2 p3 p4) I J (a_plan n p0 p1 p2 p3 p4 S) := by
  have bad : ∃ I2 J2, fbX11_plan_30 (gb_mk I J) = some ((-1 : Int32), gb_mk I2 J2) ∧ RM S I2 J2 ∧ gb_fm I I2 J J2 := ⟨I, J, rfl, h, gb_fm.r⟩
  unfold a_plan mok fnX11_plan
  rw [m_inR n 3 (by decide) _ (show (3 : Int32) = nI 3 from rfl), gb_bd_s]
  by_cases h1 : gb_rg n 4 = true
  · rw [if_pos (show gb_rg n (3 + 1) = true from h1), if_neg gb_n10]
    obtain ⟨v, a1, a2, a3⟩ := m_areCounts p0 p1 p2 p3 p4 (gb_mk I J)
    rw [a1, gb_bd_s]
    by_cases h2 : grg5 p0 p1 p2 p3 p4
    · rw [a2 h2, if_neg gb_n10, gk241, gb_gd_t, gb_I_mk, h.1.1]
      by_cases h3 : S.1 = []
      · rw [if_pos (show nI S.1.length = 0 by rw [h3]; rfl), if_neg (fun z => z.2.2 h3)]
        exact bad
      · have l1 : 1 ≤ S.1.length := Nat.pos_of_ne_zero (fun z => h3 (List.length_eq_zero_iff.mp z))
        rw [if_neg (show ¬ nI S.1.length = 0 from fun z => by have := (nI_eq (b := 0) (by omega) (by omega)).mp z; omega), if_pos (show gb_rg n 4 = true ∧ grg5 p0 p1 p2 p3 p4 ∧ S.1 ≠ [] from ⟨h1, h2, h3⟩), gb_gd_t]
        obtain ⟨n', hn, _, rfl⟩ := gb_rgT h1
        obtain ⟨x0, x1, x2, x3, x4, y0, y1, y2, y3, y4, e0, e1, e2, e3, e4, pl, plb⟩ := grg5_n h2
        rw [pl, nI_clamp (by omega)]
        subst e0 e1 e2 e3 e4
        have go : ∃ I2 J2, fbX11_plan_64 241 (nI n') (nI x0) (nI x1) (nI x2) (nI x3) (nI x4) 241 (lN (gCm S.1.length)) (gb_mk I J) = some (nI (gbR S.1 S.2.2.2.2.2.1 (gpk5 x0 x1 x2 x3 x4) n').length, gb_mk I2 J2) ∧ RM (sPl S (some (gpln S.1 S.2.2.2.2.2.1 (gpk5 x0 x1 x2 x3 x4) n'))) I2 J2 ∧ gb_fm I I2 J J2 := by
          have h' : RM S (gb_u I 241 47 (-1)) (gb_u J 241 54 (lN (gCm S.1.length))) := by
            refine (h.fP (I' := gb_u I 241 47 (-1)) (J' := J) ⟨fun x k h1 _ _ _ _ => by rw [gb_u1, if_neg (fun z => h1 ⟨z.1, by omega⟩)], fun _ _ _ _ => rfl⟩).jk (fun j j1 j2 => by rw [gb_u_nk _ _ (by omega)])
          obtain ⟨I2, J2, s1, s2, s3⟩ := m_pl75 h' hgs g3 l1 hs s8 plb (show n' ≤ 3 by omega) (n' + 1) 0 gb_FU (gb_u I 241 47 (-1)) (gb_u J 241 54 (lN (gCm S.1.length))) none (by omega) (show n' + 1 < 1000000 by omega) gm_fP.rf (gb_u_s _ _ _ _) (gb_u_s _ _ _ _) rfl
          refine ⟨I2, J2, ?_, s2, fun m hm => ⟨((s3 m hm).1).trans (gb_u_row _ _ (by omega)), ((s3 m hm).2).trans (gb_u_row _ _ (by omega))⟩⟩
          unfold fbX11_plan_64
          rw [gk241, gb_gd_t, gb_lt_d, gb_sL_mk, gk241, gb_gd_t, gb_lt_d, gb_sI_mk, show (0 : Int32) = nI 0 from rfl]
          exact s1
        unfold gCm at go
        by_cases c1 : S.1.length = 1
        · rw [if_pos c1] at go
          rw [if_pos (show nI S.1.length = 1 by rw [c1]; rfl)]
          exact go
        · rw [if_neg c1] at go
          rw [if_neg (show ¬ nI S.1.length = 1 from fun z => c1 ((nI_eq (b := 1) (by omega) (by omega)).mp z)), gb_gd_t]
          by_cases c2 : S.1.length = 2
          · rw [if_pos c2] at go
            rw [if_pos (show nI S.1.length = 2 by rw [c2]; rfl)]
            exact go
          · rw [if_neg c2] at go
            rw [if_neg (show ¬ nI S.1.length = 2 from fun z => c2 ((nI_eq (b := 2) (by omega) (by omega)).mp z))]
            exact go
    · rw [a3 h2, if_pos (show (0 : Int32) = 0 from rfl), if_neg (fun z => h2 z.2.1)]
      exact bad
  · rw [if_neg (show ¬ gb_rg n (3 + 1) = true from h1), if_pos (show (0 : Int32) = 0 from rfl), if_neg (fun z => h1 z.1)]
    exact bad
end MPLAN
