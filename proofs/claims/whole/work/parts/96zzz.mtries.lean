section MTRIES
variable {S : gb_S} {I I' I1 I2 : gb_FI} {J J' J1 J2 : gb_FJ} {gs : List Nat} {sh : List gb_P} {ps qs : List gb_P} {pl n g k m q : Nat} {r b pre : List Nat}
theorem mP_copy {r r' : Nat → Int32} {a a' : Nat} {p : gb_P} (h : mP r a p) (e : ∀ k, k < 8 → r' (a' + k) = r (a + k)) : mP r' a' p := by
  obtain ⟨h0, h1, h2, h3, h4, h6, h7⟩ := h
  refine ⟨?_, ?_, ?_, ?_, fun z => ⟨?_, ?_⟩, ?_, fun z => ?_⟩
  · have := e 0 (by decide); simp only [Nat.add_zero] at this; rw [this]; exact h0
  · rw [e 1 (by decide)]; exact h1
  · rw [e 2 (by decide)]; exact h2
  · rw [e 3 (by decide)]; exact h3
  · rw [e 4 (by decide)]; exact (h4 z).1
  · rw [e 5 (by decide)]; exact (h4 z).2
  · rw [e 6 (by decide)]; exact h6
  · rw [e 7 (by decide)]; exact h7 z
theorem m_tr35 {i : Nat} (hi : i < 3) (hq : q < 8) (self : Nat → Int32 → Int32 → Int32 → gb_H → Option (Unit × gb_H)) (k15 : Nat → Int32 → Int32 → Int32 → Int32 → gb_H → Option (Unit × gb_H)) (v2 v3 : Int32) : ∀ k c F (I1 : gb_FI), c + k = 8 → k < F → (∀ x j, ¬ (x = 264 ∧ 8 * i ≤ j ∧ j < 8 * i + 8) → I1 x j = I x j) → (∀ j, j < c → I1 264 (8 * i + j) = I 245 (8 * q + j)) →
    ∃ I2, lpX11_tries_35 self k15 F 241 (nI i) v2 v3 (nI q) (nI c) (gb_mk I1 J) = gb_bd (self 241 (nI (i + 1)) v2 v3 (gb_mk I2 J)) (fun _ h4 => k15 241 (nI i) v2 v3 (nI (q + 1)) h4) ∧ (∀ x j, ¬ (x = 264 ∧ 8 * i ≤ j ∧ j < 8 * i + 8) → I2 x j = I x j) ∧ ∀ j, j < 8 → I2 264 (8 * i + j) = I 245 (8 * q + j) := by
  intro k
  induction k with
  | zero =>
    intro c F I1 hc hF h1 h2
    obtain ⟨F, rfl⟩ : ∃ f, F = f + 1 := ⟨F - 1, by omega⟩
    refine ⟨I1, ?_, h1, fun j hj => h2 j (by omega)⟩
    rw [show lpX11_tries_35 self k15 (F + 1) 241 (nI i) v2 v3 (nI q) (nI c) (gb_mk I1 J) = fbX11_tries_35 self k15 (fun v0 v1 v2 v3 v4 v5 h => lpX11_tries_35 self k15 F v0 v1 v2 v3 v4 v5 h) 241 (nI i) v2 v3 (nI q) (nI c) (gb_mk I1 J) from rfl]
    unfold fbX11_tries_35
    rw [if_pos (show (8 : Int32) ≤ nI c from nI_le (a := 8) (by omega) (by omega)), gk241, gb_gd_t, nI_1, nI_1]
    rfl
  | succ k ih =>
    intro c F I1 hc hF h1 h2
    obtain ⟨F, rfl⟩ : ∃ f, F = f + 1 := ⟨F - 1, by omega⟩
    rw [show lpX11_tries_35 self k15 (F + 1) 241 (nI i) v2 v3 (nI q) (nI c) (gb_mk I1 J) = fbX11_tries_35 self k15 (fun v0 v1 v2 v3 v4 v5 h => lpX11_tries_35 self k15 F v0 v1 v2 v3 v4 v5 h) 241 (nI i) v2 v3 (nI q) (nI c) (gb_mk I1 J) from rfl]
    unfold fbX11_tries_35
    rw [if_neg (show ¬ (8 : Int32) ≤ nI c from nI_ge (b := 8) (by omega) (by omega)), gk241, gb_gd_t, gr241_41, gb_rd_s, gb_gd_t, gr241_5, gb_rd_s, gb_lt_d, show (8 : Int32) = nI 8 from rfl, gb_nI_mul, nI_add, gk245, gb_gd_t, gi245 (by omega), gb_gd_t, gb_lt_d, gb_nI_mul, nI_add, gk264, gb_gd_t, gi264 (by omega), gb_gd_t, gb_lt_d, gb_sI_mk, gb_lt_d, nI_1, nI_clamp (by omega), nI_clamp (by omega), gb_I_mk, h1 245 _ (by omega)]
    refine ih (c + 1) F _ (by omega) (by omega) (fun x j hx => by rw [gb_u1, if_neg (fun z => hx ⟨z.1, by omega, by omega⟩)]; exact h1 x j hx) (fun j hj => ?_)
    by_cases e : j = c
    · rw [e, gb_u_s]
    · rw [gb_u_nk _ _ (by omega)]; exact h2 j (by omega)
/-- a row of parts stands in the reference's trial -/
def gTr (sh : List gb_P) (r : List Nat) (I : gb_FI) : Prop := (∀ i p, (gpt sh r)[i]? = some p → mP (I 264) (8 * i) p) ∧ ∀ i j, r[i]? = some j → I 265 i = nI j
theorem gTr_ap {i : Nat} (hr : r.length = i) (ht : gTr sh r I) (h1 : ∀ x j, ¬ (x = 264 ∧ 8 * i ≤ j ∧ j < 8 * i + 8) → x ≠ 265 → I2 x j = I x j) (h5 : ∀ j, j < i → I2 265 j = I 265 j) (hq : q < sh.length) (hm : mP (I2 264) (8 * i) (sh.getD q (0, 0, 0, 0, 0, 0, 0, 0, 0))) (hc : I2 265 i = nI q) : gTr sh (r ++ [q]) I2 := by
  have pL : (gpt sh r).length = i := by unfold gpt; rw [List.length_map, hr]
  refine ⟨fun j p hj => ?_, fun j c hj => ?_⟩
  · rw [gpt_app] at hj
    rcases Nat.lt_or_ge j i with z | z
    · rw [List.getElem?_append_left (by omega)] at hj
      refine mP_copy (ht.1 j p hj) (fun k hk => h1 264 _ (fun y => by omega) (by decide))
    · rw [List.getElem?_append_right (by omega), pL] at hj
      have e0 : j - i = 0 := by
        have := (List.getElem?_eq_some_iff.mp hj).1
        unfold gpt at this
        simp at this
        omega
      rw [e0] at hj
      have : p = sh.getD q (0, 0, 0, 0, 0, 0, 0, 0, 0) := by
        unfold gpt at hj
        simp at hj
        rw [← hj, List.getD_eq_getElem?_getD]
      rw [show j = i by omega, this]
      exact hm
  · rcases Nat.lt_or_ge j i with z | z
    · rw [List.getElem?_append_left (by omega)] at hj
      rw [h5 j z]
      exact ht.2 j c hj
    · rw [List.getElem?_append_right (by omega), hr] at hj
      have e0 : j - i = 0 := by
        have := (List.getElem?_eq_some_iff.mp hj).1
        simp at this
        omega
      rw [e0] at hj
      have : q = c := by simpa using hj
      rw [show j = i by omega, ← this]
      exact hc
theorem m_tries (hgs : ∀ m ∈ gs, m < 10) (g3 : gs.length ≤ 3) (g1 : 1 ≤ gs.length) (hs : ∀ p ∈ sh, gso p) (s8 : sh.length ≤ 8) (hpl : pl < 1024) : ∀ (m : Nat) (D : Nat) (pre : List Nat) (I : gb_FI) (J : gb_FJ) (o : Option (List Nat)), m < D → pre.length + m ≤ 3 → (∀ x ∈ pre, x < sh.length) → mG (I 241 1) (I 242) gs → mS (I 241 6) (I 245) sh → gTr sh pre I → J 241 54 = lN (gCm gs.length) → gBst gs sh pl o I J →
    ∃ I2 J2, fnX11_tries D 241 (nI pre.length) (nI (pre.length + m)) (nI pl) (gb_mk I J) = some ((), gb_mk I2 J2) ∧ gm_fP I I2 J J2 ∧ gTr sh pre I2 ∧ gBst gs sh pl ((rowsP sh.length m pre).foldl (gstR gs sh pl) o) I2 J2 := by
  intro m
  induction m with
  | zero =>
    intro D pre I J o hD hl hi hG hS hT hC hb
    obtain ⟨D, rfl⟩ : ∃ d, D = d + 1 := ⟨D - 1, by omega⟩
    obtain ⟨I2, J2, s1, s2, s3, s4, s5⟩ := m_looks (I := I) (J := J) (r := pre) hgs g3 g1 hs hG hT.1 hT.2 (by omega) hi hpl hC hb
    refine ⟨I2, J2, ?_, s2, ⟨fun i p h => by rw [s3]; exact hT.1 i p h, fun i j h => by rw [s4]; exact hT.2 i j h⟩, s5⟩
    show fsX11_tries (fnX11_tries D) 241 (nI pre.length) (nI (pre.length + 0)) (nI pl) (gb_mk I J) = _
    unfold fsX11_tries
    rw [Nat.add_zero, if_pos rfl, gk241, gb_gd_t, s1, gb_bd_s]
  | succ m ih =>
    intro D pre I J o hD hl hi hG hS hT hC hb
    obtain ⟨D, rfl⟩ : ∃ d, D = d + 1 := ⟨D - 1, by omega⟩
    have lp : ∀ k q F (I1 : gb_FI) (J1 : gb_FJ) (o1 : Option (List Nat)), q + k = sh.length → k < F → gm_fP I I1 J J1 → gTr sh pre I1 → gBst gs sh pl o1 I1 J1 → ∃ I2 J2, lpX11_tries_15 (fnX11_tries D) F 241 (nI pre.length) (nI (pre.length + (m + 1))) (nI pl) (nI q) (gb_mk I1 J1) = some ((), gb_mk I2 J2) ∧ gm_fP I I2 J J2 ∧ gTr sh pre I2 ∧ gBst gs sh pl ((((List.range sh.length).drop q).flatMap (fun c => rowsP sh.length m (pre ++ [c]))).foldl (gstR gs sh pl) o1) I2 J2 := by
      intro k
      induction k with
      | zero =>
        intro q F I1 J1 o1 hq hF f1 t1 b1
        obtain ⟨F, rfl⟩ : ∃ f, F = f + 1 := ⟨F - 1, by omega⟩
        refine ⟨I1, J1, ?_, f1, t1, ?_⟩
        · rw [show ∀ h, lpX11_tries_15 (fnX11_tries D) (F + 1) 241 (nI pre.length) (nI (pre.length + (m + 1))) (nI pl) (nI q) h = fbX11_tries_15 (fnX11_tries D) (fun v0 v1 v2 v3 v4 h => lpX11_tries_15 (fnX11_tries D) F v0 v1 v2 v3 v4 h) 241 (nI pre.length) (nI (pre.length + (m + 1))) (nI pl) (nI q) h from fun _ => rfl]
          unfold fbX11_tries_15
          rw [gk241, gb_gd_t, gb_I_mk, f1.1 241 6 (by decide) (by decide) (by decide) (by decide) (by decide), hS.1, if_pos (nI_le (by omega) (by omega))]
        · rw [List.drop_eq_nil_of_le (by rw [List.length_range]; omega)]
          exact b1
      | succ k ih2 =>
        intro q F I1 J1 o1 hq hF f1 t1 b1
        obtain ⟨F, rfl⟩ : ∃ f, F = f + 1 := ⟨F - 1, by omega⟩
        have qs : q < sh.length := by omega
        have e245 : ∀ j, I1 245 j = I 245 j := fun j => f1.1 245 j (fun z => by omega) (by decide) (by decide) (by decide) (by decide)
        obtain ⟨I2, w1, w2, w3⟩ := m_tr35 (I := gb_u I1 265 pre.length (nI q)) (J := J1) (i := pre.length) (q := q) (by omega) (by omega) (fnX11_tries D) (fun v0 v1 v2 v3 v4 h => lpX11_tries_15 (fnX11_tries D) F v0 v1 v2 v3 v4 h) (nI (pre.length + (m + 1))) (nI pl) 8 0 gb_FU (gb_u I1 265 pre.length (nI q)) (by decide) (by decide) (fun _ _ _ => rfl) (fun j hj => absurd hj (by omega))
        have fI2 : gm_fP I I2 J J1 := ⟨fun x k h1 h2 h3 h4 h5 => by rw [w2 x k (fun z => h3 z.1), gb_u_ne _ _ h4]; exact f1.1 x k h1 h2 h3 h4 h5, f1.2⟩
        have sq : sh[q]? = some (sh.getD q (0, 0, 0, 0, 0, 0, 0, 0, 0)) := by rw [List.getD_eq_getElem?_getD, List.getElem?_eq_getElem qs]; rfl
        have tI2 : gTr sh (pre ++ [q]) I2 := by
          refine gTr_ap (I := I1) rfl t1 (fun x j h1 h2 => by rw [w2 x j h1, gb_u_ne _ _ h2]) (fun j hj => by rw [w2 265 j (fun z => by omega), gb_u_nk _ _ (by omega)]) qs ?_ (by rw [w2 265 _ (fun z => by omega), gb_u_s])
          refine mP_copy (hS.2 q _ sq) (fun k hk => ?_)
          rw [w3 k hk, gb_u_ne _ _ (by decide), e245]
        have b2 : gBst gs sh pl o1 I2 J1 := by
          have k47 : I2 241 47 = I1 241 47 := by rw [w2 241 47 (fun z => by omega), gb_u_ne _ _ (by decide)]
          have k266 : ∀ j, I2 266 j = I1 266 j := fun j => by rw [w2 266 j (fun z => by omega), gb_u_ne _ _ (by decide)]
          cases o1 with
          | none =>
            show I2 241 47 = -1
            rw [k47]
            exact b1
          | some b =>
            exact ⟨b1.1, b1.2.1, b1.2.2.1, k47.trans b1.2.2.2.1, fun i j h => by rw [k266]; exact b1.2.2.2.2.1 i j h, b1.2.2.2.2.2⟩
        obtain ⟨I3, J3, u1, u2, u3, u4⟩ := ih D (pre ++ [q]) I2 J1 o1 (by omega) (by simp; omega) (fun x hx => by rcases List.mem_append.mp hx with z | z; exact hi x z; rw [List.mem_singleton.mp z]; exact qs) (by rw [fI2.1 241 1 (by decide) (by decide) (by decide) (by decide) (by decide), show I2 242 = I 242 from funext (fun k => fI2.1 242 k (fun z => by omega) (by decide) (by decide) (by decide) (by decide))]; exact hG) (by rw [fI2.1 241 6 (by decide) (by decide) (by decide) (by decide) (by decide), show I2 245 = I 245 from funext (fun k => fI2.1 245 k (fun z => by omega) (by decide) (by decide) (by decide) (by decide))]; exact hS) tI2 (by rw [f1.2 241 54 (by decide) (by decide)]; exact hC) b2
        have u3' : gTr sh pre I3 := by
          refine ⟨fun i p h => u3.1 i p ?_, fun i j h => u3.2 i j ?_⟩
          · rw [gpt_app, List.getElem?_append_left (List.getElem?_eq_some_iff.mp h).1]; exact h
          · rw [List.getElem?_append_left (List.getElem?_eq_some_iff.mp h).1]; exact h
        obtain ⟨I4, J4, x1, x2, x3, x4⟩ := ih2 (q + 1) F I3 J3 _ (by omega) (by omega) (fI2.t u2) u3' u4
        refine ⟨I4, J4, ?_, x2, x3, ?_⟩
        · rw [show ∀ h, lpX11_tries_15 (fnX11_tries D) (F + 1) 241 (nI pre.length) (nI (pre.length + (m + 1))) (nI pl) (nI q) h = fbX11_tries_15 (fnX11_tries D) (fun v0 v1 v2 v3 v4 h => lpX11_tries_15 (fnX11_tries D) F v0 v1 v2 v3 v4 h) 241 (nI pre.length) (nI (pre.length + (m + 1))) (nI pl) (nI q) h from fun _ => rfl]
          unfold fbX11_tries_15
          rw [gk241, gb_gd_t, gb_I_mk, f1.1 241 6 (by decide) (by decide) (by decide) (by decide) (by decide), hS.1, if_neg (nI_ge qs (by omega)), gb_gd_t, gr241_42, gb_rd_s, gk265, gb_gd_t, gi265 (by omega), gb_gd_t, gb_lt_d, gb_sI_mk, nI_clamp (by omega), show (0 : Int32) = nI 0 from rfl, w1]
          have u1' : fnX11_tries D 241 (nI (pre.length + 1)) (nI (pre.length + (m + 1))) (nI pl) (gb_mk I2 J1) = some ((), gb_mk I3 J3) := by
            have := u1
            rw [List.length_append, List.length_singleton, show pre.length + 1 + m = pre.length + (m + 1) by omega] at this
            exact this
          rw [u1', gb_bd_s]
          exact x1
        · have dr : (List.range sh.length).drop q = q :: (List.range sh.length).drop (q + 1) := by
            rw [List.drop_eq_getElem_cons (by rw [List.length_range]; exact qs), List.getElem_range]
          rw [dr, List.flatMap_cons, List.foldl_append]
          exact x4
    obtain ⟨I2, J2, s1, s2, s3, s4⟩ := lp sh.length 0 gb_FU I J o (by omega) (show sh.length < 1000000 by omega) gm_fP.rf hT hb
    refine ⟨I2, J2, ?_, s2, s3, ?_⟩
    · show fsX11_tries (fnX11_tries D) 241 (nI pre.length) (nI (pre.length + (m + 1))) (nI pl) (gb_mk I J) = _
      unfold fsX11_tries
      rw [if_neg (show ¬ nI pre.length = nI (pre.length + (m + 1)) from fun z => by have := (nI_eq (by omega) (by omega)).mp z; omega)]
      exact s1
    · rw [List.drop_zero] at s4
      exact s4
end MTRIES
