section READ5
variable {I I' I1 I2 : gb_FI} {J J' : gb_FJ} {c : Nat → Nat} {n s q cs : Nat}
/-- a part, the paths counted so far, the losses so far -/
def g_part (c : Nat → Nat) (n cs ls s : Nat) : Except Nat ((gb_P × Nat × Nat) × Nat) :=
  if gt_is c n s 0 = true then
    match g_wait c n cs (gt_n c n s) with
    | .error e => .error e
    | .ok w => match g_deed c n cs w.1.1 w.1.2 w.2 with
      | .error e => .error e
      | .ok r => .ok ((r.1, cs, ls), r.2)
  else if gt_is c n s 11 = true then
    if ls < 3 then
      match g_path c n cs 0 5 (gt_n c n s) with
      | none => .error (gt_n c n s)
      | some f => match g_kind c n (gt_n c n (gt_n c n s)) with
        | none => .error (gt_n c n (gt_n c n s))
        | some k => .ok (((4, f, 0, k, 2, 0, 5, 0, ls), cs, ls + 1), gt_n c n (gt_n c n (gt_n c n s)))
    else .error s
  else if gt_is c n s 12 = true then
    match g_path c n cs 0 5 (gt_n c n s) with
    | none => .error (gt_n c n s)
    | some f => .ok (((5, f, 0, 0, 2, 0, 5, 0, 0), cs + 2 ^ f, ls), gt_n c n (gt_n c n s))
  else match g_deed c n cs 5 0 s with
    | .error e => .error e
    | .ok r => .ok ((r.1, cs, ls), r.2)
/-- only the reader and the part q have moved -/
def gb_fq (q : Nat) (I I' : gb_FI) : Prop := ∀ m, m ≠ 3 → m ≠ q → I' m = I m
theorem gb_or5 : ∀ cs, cs < 32 → ∀ f, f < 5 → cs / 2 ^ f % 2 = 0 → (nI cs ||| ((1 : Int32) <<< (nI f &&& 31))) = nI (cs + 2 ^ f) ∧ cs + 2 ^ f < 32 := by decide
theorem x_counter (h : xRd I c n s) (hc : I 3 5 = nI cs) (hcs : cs < 32) (hq : 6 ≤ q) (hk : ∀ I J, gb_k (gb_mk I J) q 5 = true) (r : gb_rq q 5 0 I) : match g_path c n cs 0 5 s with
    | none => ∃ I', fnX7_readCounter 3 q (gb_mk I J) = some (0, gb_mk I' J) ∧ I' 3 2 = nI s ∧ gb_fq q I I'
    | some f => ∃ I', fnX7_readCounter 3 q (gb_mk I J) = some (1, gb_mk I' J) ∧ xRd I' c n (gt_n c n s) ∧ gb_fq q I I' ∧ I' 3 5 = nI (cs + 2 ^ f) ∧ I' 3 6 = I 3 6 ∧ xP (I' q) (5, f, 0, 0, 2, 0, 5, 0, 0) := by
  obtain ⟨r1, r2, r3, r4, r5, r6, r7, r8⟩ := r
  have hq3 : (3 : Nat) ≠ q := by omega
  simp only [fnX7_readCounter, gb_lt_d, gb_gd_t, gb_rd_s, gb_bd_s, gb_I_mk, gb_L_mk, gb_sI_mk, gb_sL_mk, gk3, gr3_0, gr3_1, hk]
  have k0 : gb_fr q I (gb_u I q 0 5) := gb_fr.u hq
  have t := x_first (J := J) (h.u hq (k := 0) (x := 5)) (k0.c5 hc) hcs hq hk
  revert t
  cases g : g_path c n cs 0 5 s with
  | none =>
    rintro ⟨I1, b1, b2, b3⟩
    refine ⟨I1, ?_, b2, fun m m1 m2 => by rw [b3.1 m m1 m2, k0.1 m m1 m2]⟩
    simp only [b1, gb_lt_d, gb_gd_t, gb_rd_s, gb_bd_s, gb_I_mk, gb_L_mk, gb_sI_mk, gb_sL_mk, if_true]
  | some f =>
    rintro ⟨I1, b1, b2, b3⟩
    obtain ⟨f1, f2, f3⟩ := g_path_lt g
    obtain ⟨o1, o2⟩ := gb_or5 cs hcs f f1 f3
    refine ⟨gb_u I1 3 5 (nI (cs + 2 ^ f)), ?_, ?_, ?_, gb_u_s _ _ _ _, ?_, ?_⟩
    · simp only [b1, gb_lt_d, gb_gd_t, gb_rd_s, gb_bd_s, gb_I_mk, gb_L_mk, gb_sI_mk, gb_sL_mk, gk3, gr3_0, gr3_1, hk, b3.1.c5 (k0.c5 hc), b3.2.1, o1]
      rw [if_neg gb_n10]
    · obtain ⟨⟨t1, t2, t3⟩, hs, h2, h3, h4⟩ := b2
      exact ⟨⟨t1, by rw [gb_u_row _ _ (by decide)]; exact t2, fun i hi => by rw [gb_u_row _ _ (by decide)]; exact t3 i hi⟩, hs, by rw [gb_u_nk _ _ (by decide)]; exact h2, by rw [gb_u_nk _ _ (by decide)]; exact h3, by rw [gb_u_nk _ _ (by decide)]; exact h4⟩
    · intro m m1 m2
      rw [gb_u_row _ _ m1, b3.1.1 m m1 m2, k0.1 m m1 m2]
    · rw [gb_u_nk _ _ (by decide), b3.1.2 6 (by decide), k0.2 6 (by decide)]
    · rw [gb_u_row _ _ (by omega)]
      refine ⟨?_, b3.2.1, ?_, ?_, ?_, ?_, ?_, ?_, ?_⟩
      · rw [b3.2.2 0 (by decide), gb_u_s]; rfl
      · rw [b3.2.2 2 (by decide), gb_u_nk _ _ (by decide), r2]; rfl
      · rw [b3.2.2 3 (by decide), gb_u_nk _ _ (by decide), r3]; rfl
      · rw [b3.2.2 4 (by decide), gb_u_nk _ _ (by decide), r4]; rfl
      · rw [b3.2.2 5 (by decide), gb_u_nk _ _ (by decide), r5]; rfl
      · rw [b3.2.2 6 (by decide), gb_u_nk _ _ (by decide), r6]
      · rw [b3.2.2 7 (by decide), gb_u_nk _ _ (by decide), r7]
      · rw [b3.2.2 8 (by decide), gb_u_nk _ _ (by decide), r8]; rfl
theorem x_loss0 (h6 : ¬ I 3 6 < 3) : fnX7_readLoss 3 q (gb_mk I J) = some (0, gb_mk I J) := by
  simp only [fnX7_readLoss, gb_lt_d, gb_gd_t, gb_rd_s, gb_bd_s, gb_I_mk, gb_L_mk, gb_sI_mk, gb_sL_mk, gk3, gr3_0, gr3_1]
  rw [if_neg h6]
theorem x_loss (h : xRd I c n s) (hc : I 3 5 = nI cs) (hcs : cs < 32) {ls : Nat} (h6 : I 3 6 = nI ls) (hl : ls < 3) (hq : 6 ≤ q) (hk : ∀ I J, gb_k (gb_mk I J) q 5 = true) (r : gb_rq q 5 0 I) : match (match g_path c n cs 0 5 (gt_n c n s) with
      | none => .error (gt_n c n s)
      | some f => match g_kind c n (gt_n c n (gt_n c n s)) with
        | none => .error (gt_n c n (gt_n c n s))
        | some k => .ok (((4, f, 0, k, 2, 0, 5, 0, ls), cs, ls + 1), gt_n c n (gt_n c n (gt_n c n s))) : Except Nat ((gb_P × Nat × Nat) × Nat)) with
    | .error e => ∃ I', fnX7_readLoss 3 q (gb_mk I J) = some (0, gb_mk I' J) ∧ I' 3 2 = nI e ∧ gb_fq q I I'
    | .ok r => ∃ I', fnX7_readLoss 3 q (gb_mk I J) = some (1, gb_mk I' J) ∧ xRd I' c n r.2 ∧ gb_fq q I I' ∧ I' 3 5 = nI r.1.2.1 ∧ I' 3 6 = nI r.1.2.2 ∧ xP (I' q) r.1.1 := by
  obtain ⟨r1, r2, r3, r4, r5, r6, r7, r8⟩ := r
  have hq3 : (3 : Nat) ≠ q := by omega
  obtain ⟨I1, e1, e2, e3, e4⟩ := x_adv (J := J) h
  have c6 : ∀ v, gb_u I1 q 0 v 3 6 = nI ls := fun v => by rw [gb_u_row _ _ (by omega), e4 6 (by decide), h6]
  have c6' : ∀ v w, gb_u (gb_u I1 q 0 v) q 8 w 3 6 = nI ls := fun v w => by rw [gb_u_row _ _ (by omega), gb_u_row _ _ (by omega), e4 6 (by decide), h6]
  simp only [fnX7_readLoss, gb_lt_d, gb_gd_t, gb_rd_s, gb_bd_s, gb_I_mk, gb_L_mk, gb_sI_mk, gb_sL_mk, gk3, gr3_0, gr3_1, hk, e1, h6, c6, c6', gb_lit 1, nI_add]
  rw [if_pos (show nI ls < 3 from nI_lt (a := ls) (b := 3) hl (by omega))]
  have k2 : xRd (gb_u (gb_u (gb_u I1 q 0 4) q 8 (nI ls)) 3 6 (nI (ls + 1))) c n (gt_n c n s) := by
    obtain ⟨⟨t1, t2, t3⟩, hs, h2, h3, h4⟩ := (e2.u hq (k := 0) (x := 4)).u hq (k := 8) (x := nI ls)
    exact ⟨⟨t1, by rw [gb_u_row _ _ (by decide)]; exact t2, fun i hi => by rw [gb_u_row _ _ (by decide)]; exact t3 i hi⟩, hs, by rw [gb_u_nk _ _ (by decide)]; exact h2, by rw [gb_u_nk _ _ (by decide)]; exact h3, by rw [gb_u_nk _ _ (by decide)]; exact h4⟩
  have c5 : gb_u (gb_u (gb_u I1 q 0 4) q 8 (nI ls)) 3 6 (nI (ls + 1)) 3 5 = nI cs := by
    rw [gb_u_nk _ _ (by decide), gb_u_row _ _ (by omega), gb_u_row _ _ (by omega), e4 5 (by decide), hc]
  have fq0 : gb_fq q I (gb_u (gb_u (gb_u I1 q 0 4) q 8 (nI ls)) 3 6 (nI (ls + 1))) := fun m m1 m2 => by
    rw [gb_u_row _ _ m1, gb_u_row _ _ m2, gb_u_row _ _ m2, e3 m m1]
  have s6 : gb_u (gb_u (gb_u I1 q 0 4) q 8 (nI ls)) 3 6 (nI (ls + 1)) 3 6 = nI (ls + 1) := gb_u_s _ _ _ _
  have rq : ∀ j, gb_u (gb_u (gb_u I1 q 0 4) q 8 (nI ls)) 3 6 (nI (ls + 1)) q j = if j = 8 then nI ls else if j = 0 then 4 else I q j := fun j => by
    rw [gb_u_row _ _ (by omega), gb_u1]
    by_cases a : j = 8
    · rw [if_pos ⟨rfl, a⟩, if_pos a]
    · rw [if_neg (fun w => a w.2), if_neg a, gb_u1]
      by_cases b : j = 0
      · rw [if_pos ⟨rfl, b⟩, if_pos b]
      · rw [if_neg (fun w => b w.2), if_neg b, e3 q (by omega)]
  generalize gb_u (gb_u (gb_u I1 q 0 4) q 8 (nI ls)) 3 6 (nI (ls + 1)) = K at *
  have t := x_first (J := J) k2 c5 hcs hq hk
  revert t
  cases g : g_path c n cs 0 5 (gt_n c n s) with
  | none =>
    rintro ⟨I2, b1, b2, b3⟩
    refine ⟨I2, ?_, b2, fun m m1 m2 => by rw [b3.1 m m1 m2, fq0 m m1 m2]⟩
    simp only [b1, gb_lt_d, gb_gd_t, gb_rd_s, gb_bd_s, gb_I_mk, gb_L_mk, gb_sI_mk, gb_sL_mk, if_true]
    rfl
  | some f =>
    rintro ⟨I2, b1, b2, b3⟩
    simp only [b1, gb_lt_d, gb_gd_t, gb_rd_s, gb_bd_s, gb_I_mk, gb_L_mk, gb_sI_mk, gb_sL_mk, gk3, gr3_0, gr3_1, hk]
    rw [if_neg gb_n10]
    have t := x_kind (J := J) b2 hq hk (by rw [b3.2.2 3 (by decide), rq]; exact r3)
    revert t
    cases g3 : g_kind c n (gt_n c n (gt_n c n s)) with
    | none =>
      rintro ⟨I4, f1, f2, f3⟩
      refine ⟨I4, ?_, f2, fun m m1 m2 => by rw [f3.1 m m1 m2, b3.1.1 m m1 m2, fq0 m m1 m2]⟩
      simp only [f1, gb_lt_d, gb_gd_t, gb_rd_s, gb_bd_s, gb_I_mk, gb_L_mk, gb_sI_mk, gb_sL_mk, if_true]
      rfl
    | some k =>
      rintro ⟨I4, f1, f2, f3⟩
      refine ⟨I4, ?_, f2, fun m m1 m2 => by rw [f3.1.1 m m1 m2, b3.1.1 m m1 m2, fq0 m m1 m2], ?_, ?_, ?_⟩
      · simp only [f1, gb_lt_d, gb_gd_t, gb_rd_s, gb_bd_s, gb_I_mk, gb_L_mk, gb_sI_mk, gb_sL_mk]
        rw [if_neg gb_n10]
        rfl
      · rw [f3.1.2 5 (by decide), b3.1.2 5 (by decide), c5]
      · rw [f3.1.2 6 (by decide), b3.1.2 6 (by decide), s6]
      · refine ⟨?_, ?_, ?_, f3.2.1, ?_, ?_, ?_, ?_, ?_⟩
        · rw [f3.2.2 0 (by decide), b3.2.2 0 (by decide), rq]; rfl
        · rw [f3.2.2 1 (by decide), b3.2.1]
        · rw [f3.2.2 2 (by decide), b3.2.2 2 (by decide), rq]; exact r2
        · rw [f3.2.2 4 (by decide), b3.2.2 4 (by decide), rq]; exact r4
        · rw [f3.2.2 5 (by decide), b3.2.2 5 (by decide), rq]; exact r5
        · rw [f3.2.2 6 (by decide), b3.2.2 6 (by decide), rq]; exact r6
        · rw [f3.2.2 7 (by decide), b3.2.2 7 (by decide), rq]; exact r7
        · rw [f3.2.2 8 (by decide), b3.2.2 8 (by decide), rq]; rfl
end READ5
