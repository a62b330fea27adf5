section READ3
variable {I I' I1 I2 : gb_FI} {J J' : gb_FJ} {c : Nat → Nat} {n s q cs : Nat}
/-- a deed that waits for wc grains in the path wp (5: it waits for nothing) -/
def g_deed (c : Nat → Nat) (n cs wp wc s : Nat) : Except Nat (gb_P × Nat) :=
  if gt_is c n s 3 = true then
    match g_path c n cs 0 5 (gt_n c n s) with
    | none => .error (gt_n c n s)
    | some f => match g_path c n cs 0 f (gt_n c n (gt_n c n s)) with
      | none => .error (gt_n c n (gt_n c n s))
      | some t => match g_kind c n (gt_n c n (gt_n c n (gt_n c n s))) with
        | none => .error (gt_n c n (gt_n c n (gt_n c n s)))
        | some k => .ok ((0, f, t, k, 2, 0, wp, wc, 0), gt_n c n (gt_n c n (gt_n c n (gt_n c n s))))
  else if gt_is c n s 7 = true then
    match g_path c n cs 0 5 (gt_n c n s) with
    | none => .error (gt_n c n s)
    | some f => match g_kind c n (gt_n c n (gt_n c n s)) with
      | none => .error (gt_n c n (gt_n c n s))
      | some k => .ok ((1, f, 0, k, 2, 0, wp, wc, 0), gt_n c n (gt_n c n (gt_n c n s)))
  else if gt_is c n s 8 = true then
    match g_path c n cs 0 5 (gt_n c n s) with
    | none => .error (gt_n c n s)
    | some f => match g_shift c n (gt_n c n (gt_n c n s)) with
      | .error e => .error e
      | .ok r => .ok ((2, f, 0, 0, r.1.1, r.1.2, wp, wc, 0), r.2)
  else if gt_is c n s 10 = true then
    match g_path c n cs 0 5 (gt_n c n s) with
    | none => .error (gt_n c n s)
    | some f => match g_path c n cs 0 f (gt_n c n (gt_n c n s)) with
      | none => .error (gt_n c n (gt_n c n s))
      | some t => .ok ((3, f, t, 0, 2, 0, wp, wc, 0), gt_n c n (gt_n c n (gt_n c n s)))
  else .error s
def gb_rq (q wp wc : Nat) (I : gb_FI) : Prop := I q 1 = 0 ∧ I q 2 = 0 ∧ I q 3 = 0 ∧ I q 4 = -1 ∧ I q 5 = 0 ∧ I q 6 = gb_m1 5 wp ∧ I q 7 = nI wc ∧ I q 8 = 0
/-- a word has been taken and the act written -/
theorem x_takeA (h : xRd I c n s) (hq : 6 ≤ q) {i : Nat} (hi : i < 14) (e : gt_is c n s i = true) (v : Int32) : ∃ I', fnX7_take 3 i (gb_mk I J) = some (1, gb_mk I' J) ∧ xRd (gb_u I' q 0 v) c n (gt_n c n s) ∧ gb_sf q 0 v I (gb_u I' q 0 v) := by
  obtain ⟨I1, e1, e2, e3⟩ := x_take1 (J := J) h hi e
  exact ⟨I1, e1, e2.u hq, e3.sf hq⟩
theorem gb_fr.c5 (a : gb_fr q I I') (h : I 3 5 = nI cs) : I' 3 5 = nI cs := by rw [a.2 5 (by decide)]; exact h
theorem x_deed (h : xRd I c n s) (hc : I 3 5 = nI cs) (hcs : cs < 32) (hq : 6 ≤ q) (hk : ∀ I J, gb_k (gb_mk I J) q 5 = true) {wp wc : Nat} (r : gb_rq q wp wc I) : match g_deed c n cs wp wc s with
    | .error e => ∃ I', fnX7_readDeed 3 q (gb_mk I J) = some (0, gb_mk I' J) ∧ I' 3 2 = nI e ∧ gb_fr q I I'
    | .ok r => ∃ I', fnX7_readDeed 3 q (gb_mk I J) = some (1, gb_mk I' J) ∧ xRd I' c n r.2 ∧ gb_fr q I I' ∧ xP (I' q) r.1 := by
  obtain ⟨r1, r2, r3, r4, r5, r6, r7, r8⟩ := r
  simp only [fnX7_readDeed, gb_lt_d, gb_gd_t, gb_rd_s, gb_bd_s, gb_I_mk, gb_L_mk, gb_sI_mk, gb_sL_mk, gk3, gr3_0, gr3_1, hk]
  unfold g_deed
  by_cases a3 : gt_is c n s 3 = true
  · rw [if_pos a3]
    obtain ⟨I1, e1, e2, e3⟩ := x_takeA (J := J) h hq (by decide) a3 0
    simp only [e1, gb_lt_d, gb_gd_t, gb_rd_s, gb_bd_s, gb_I_mk, gb_L_mk, gb_sI_mk, gb_sL_mk, gk3, gr3_0, gr3_1, hk]
    rw [if_neg gb_n10]
    have t := x_first (J := J) e2 (e3.1.c5 hc) hcs hq hk
    revert t
    cases g1 : g_path c n cs 0 5 (gt_n c n s) with
    | none =>
      rintro ⟨I2, b1, b2, b3⟩
      refine ⟨I2, ?_, b2, e3.1.t b3⟩
      simp only [b1, gb_lt_d, gb_gd_t, gb_rd_s, gb_bd_s, gb_I_mk, gb_L_mk, gb_sI_mk, gb_sL_mk, if_true]
      rfl
    | some f =>
      rintro ⟨I2, b1, b2, b3⟩
      have hf := (g_path_lt g1).1
      simp only [b1, gb_lt_d, gb_gd_t, gb_rd_s, gb_bd_s, gb_I_mk, gb_L_mk, gb_sI_mk, gb_sL_mk, gk3, gr3_0, gr3_1, hk]
      rw [if_neg gb_n10]
      have t := x_second (J := J) b2 (b3.1.c5 (e3.1.c5 hc)) hcs hq hk hf b3.2.1
      revert t
      cases g2 : g_path c n cs 0 f (gt_n c n (gt_n c n s)) with
      | none =>
        rintro ⟨I3, d1, d2, d3⟩
        refine ⟨I3, ?_, d2, (e3.1.t b3.1).t d3⟩
        simp only [d1, gb_lt_d, gb_gd_t, gb_rd_s, gb_bd_s, gb_I_mk, gb_L_mk, gb_sI_mk, gb_sL_mk, if_true]
        rfl
      | some t =>
        rintro ⟨I3, d1, d2, d3⟩
        simp only [d1, gb_lt_d, gb_gd_t, gb_rd_s, gb_bd_s, gb_I_mk, gb_L_mk, gb_sI_mk, gb_sL_mk, gk3, gr3_0, gr3_1, hk]
        rw [if_neg gb_n10]
        have t := x_kind (J := J) d2 hq hk (by rw [d3.2.2 3 (by decide), b3.2.2 3 (by decide), e3.2.2 3 (by decide)]; exact r3)
        revert t
        cases g3 : g_kind c n (gt_n c n (gt_n c n (gt_n c n s))) with
        | none =>
          rintro ⟨I4, f1, f2, f3⟩
          refine ⟨I4, ?_, f2, ((e3.1.t b3.1).t d3.1).t f3⟩
          simp only [f1, gb_lt_d, gb_gd_t, gb_rd_s, gb_bd_s, gb_I_mk, gb_L_mk, gb_sI_mk, gb_sL_mk, if_true]
          rfl
        | some k =>
          rintro ⟨I4, f1, f2, f3⟩
          refine ⟨I4, ?_, f2, ((e3.1.t b3.1).t d3.1).t f3.1, ?_⟩
          · simp only [f1, gb_lt_d, gb_gd_t, gb_rd_s, gb_bd_s, gb_I_mk, gb_L_mk, gb_sI_mk, gb_sL_mk]
            rw [if_neg gb_n10]
            rfl
          · refine ⟨?_, ?_, ?_, f3.2.1, ?_, ?_, ?_, ?_, ?_⟩
            · rw [f3.2.2 0 (by decide), d3.2.2 0 (by decide), b3.2.2 0 (by decide), e3.2.1]; rfl
            · rw [f3.2.2 1 (by decide), d3.2.2 1 (by decide), b3.2.1]
            · rw [f3.2.2 2 (by decide), d3.2.1]
            · rw [f3.2.2 4 (by decide), d3.2.2 4 (by decide), b3.2.2 4 (by decide), e3.2.2 4 (by decide), r4]; rfl
            · rw [f3.2.2 5 (by decide), d3.2.2 5 (by decide), b3.2.2 5 (by decide), e3.2.2 5 (by decide), r5]; rfl
            · rw [f3.2.2 6 (by decide), d3.2.2 6 (by decide), b3.2.2 6 (by decide), e3.2.2 6 (by decide), r6]
            · rw [f3.2.2 7 (by decide), d3.2.2 7 (by decide), b3.2.2 7 (by decide), e3.2.2 7 (by decide), r7]
            · rw [f3.2.2 8 (by decide), d3.2.2 8 (by decide), b3.2.2 8 (by decide), e3.2.2 8 (by decide), r8]; rfl
  · rw [if_neg a3]
    simp only [x_take0 (J := J) h (show 3 < 14 by decide) a3, gb_lt_d, gb_gd_t, gb_rd_s, gb_bd_s, gb_I_mk, gb_L_mk, gb_sI_mk, gb_sL_mk, gk3, gr3_0, gr3_1, hk, if_true]
    by_cases a7 : gt_is c n s 7 = true
    · rw [if_pos a7]
      obtain ⟨I1, e1, e2, e3⟩ := x_takeA (J := J) h hq (by decide) a7 1
      simp only [e1, gb_lt_d, gb_gd_t, gb_rd_s, gb_bd_s, gb_I_mk, gb_L_mk, gb_sI_mk, gb_sL_mk, gk3, gr3_0, gr3_1, hk]
      rw [if_neg gb_n10]
      have t := x_first (J := J) e2 (e3.1.c5 hc) hcs hq hk
      revert t
      cases g1 : g_path c n cs 0 5 (gt_n c n s) with
      | none =>
        rintro ⟨I2, b1, b2, b3⟩
        refine ⟨I2, ?_, b2, e3.1.t b3⟩
        simp only [b1, gb_lt_d, gb_gd_t, gb_rd_s, gb_bd_s, gb_I_mk, gb_L_mk, gb_sI_mk, gb_sL_mk, if_true]
        rfl
      | some f =>
        rintro ⟨I2, b1, b2, b3⟩
        simp only [b1, gb_lt_d, gb_gd_t, gb_rd_s, gb_bd_s, gb_I_mk, gb_L_mk, gb_sI_mk, gb_sL_mk, gk3, gr3_0, gr3_1, hk]
        rw [if_neg gb_n10]
        have t := x_kind (J := J) b2 hq hk (by rw [b3.2.2 3 (by decide), e3.2.2 3 (by decide)]; exact r3)
        revert t
        cases g3 : g_kind c n (gt_n c n (gt_n c n s)) with
        | none =>
          rintro ⟨I4, f1, f2, f3⟩
          refine ⟨I4, ?_, f2, (e3.1.t b3.1).t f3⟩
          simp only [f1, gb_lt_d, gb_gd_t, gb_rd_s, gb_bd_s, gb_I_mk, gb_L_mk, gb_sI_mk, gb_sL_mk, if_true]
          rfl
        | some k =>
          rintro ⟨I4, f1, f2, f3⟩
          refine ⟨I4, ?_, f2, (e3.1.t b3.1).t f3.1, ?_⟩
          · simp only [f1, gb_lt_d, gb_gd_t, gb_rd_s, gb_bd_s, gb_I_mk, gb_L_mk, gb_sI_mk, gb_sL_mk]
            rw [if_neg gb_n10]
            rfl
          · refine ⟨?_, ?_, ?_, f3.2.1, ?_, ?_, ?_, ?_, ?_⟩
            · rw [f3.2.2 0 (by decide), b3.2.2 0 (by decide), e3.2.1]; rfl
            · rw [f3.2.2 1 (by decide), b3.2.1]
            · rw [f3.2.2 2 (by decide), b3.2.2 2 (by decide), e3.2.2 2 (by decide), r2]; rfl
            · rw [f3.2.2 4 (by decide), b3.2.2 4 (by decide), e3.2.2 4 (by decide), r4]; rfl
            · rw [f3.2.2 5 (by decide), b3.2.2 5 (by decide), e3.2.2 5 (by decide), r5]; rfl
            · rw [f3.2.2 6 (by decide), b3.2.2 6 (by decide), e3.2.2 6 (by decide), r6]
            · rw [f3.2.2 7 (by decide), b3.2.2 7 (by decide), e3.2.2 7 (by decide), r7]
            · rw [f3.2.2 8 (by decide), b3.2.2 8 (by decide), e3.2.2 8 (by decide), r8]; rfl
    · rw [if_neg a7]
      simp only [x_take0 (J := J) h (show 7 < 14 by decide) a7, gb_lt_d, gb_gd_t, gb_rd_s, gb_bd_s, gb_I_mk, gb_L_mk, gb_sI_mk, gb_sL_mk, gk3, gr3_0, gr3_1, hk, if_true]
      by_cases a8 : gt_is c n s 8 = true
      · rw [if_pos a8]
        obtain ⟨I1, e1, e2, e3⟩ := x_takeA (J := J) h hq (by decide) a8 2
        simp only [e1, gb_lt_d, gb_gd_t, gb_rd_s, gb_bd_s, gb_I_mk, gb_L_mk, gb_sI_mk, gb_sL_mk, gk3, gr3_0, gr3_1, hk]
        rw [if_neg gb_n10]
        have t := x_first (J := J) e2 (e3.1.c5 hc) hcs hq hk
        revert t
        cases g1 : g_path c n cs 0 5 (gt_n c n s) with
        | none =>
          rintro ⟨I2, b1, b2, b3⟩
          refine ⟨I2, ?_, b2, e3.1.t b3⟩
          simp only [b1, gb_lt_d, gb_gd_t, gb_rd_s, gb_bd_s, gb_I_mk, gb_L_mk, gb_sI_mk, gb_sL_mk, if_true]
          rfl
        | some f =>
          rintro ⟨I2, b1, b2, b3⟩
          simp only [b1, gb_lt_d, gb_gd_t, gb_rd_s, gb_bd_s, gb_I_mk, gb_L_mk, gb_sI_mk, gb_sL_mk, gk3, gr3_0, gr3_1, hk]
          rw [if_neg gb_n10]
          have t := x_shift (J := J) b2 hq hk (by rw [b3.2.2 4 (by decide), e3.2.2 4 (by decide)]; exact r4)
          revert t
          cases g3 : g_shift c n (gt_n c n (gt_n c n s)) with
          | error e =>
            rintro ⟨I4, f1, f2, f3⟩
            refine ⟨I4, ?_, f2, (e3.1.t b3.1).t f3⟩
            simp only [f1, gb_lt_d, gb_gd_t, gb_rd_s, gb_bd_s, gb_I_mk, gb_L_mk, gb_sI_mk, gb_sL_mk, if_true]
            rfl
          | ok k =>
            rintro ⟨I4, f1, f2, f3, f4, f5, _, _, f6⟩
            refine ⟨I4, ?_, f2, (e3.1.t b3.1).t f3, ?_⟩
            · simp only [f1, gb_lt_d, gb_gd_t, gb_rd_s, gb_bd_s, gb_I_mk, gb_L_mk, gb_sI_mk, gb_sL_mk]
              rw [if_neg gb_n10]
              rfl
            · refine ⟨?_, ?_, ?_, ?_, f4, f5, ?_, ?_, ?_⟩
              · rw [f6 0 (by decide) (by decide), b3.2.2 0 (by decide), e3.2.1]; rfl
              · rw [f6 1 (by decide) (by decide), b3.2.1]
              · rw [f6 2 (by decide) (by decide), b3.2.2 2 (by decide), e3.2.2 2 (by decide), r2]; rfl
              · rw [f6 3 (by decide) (by decide), b3.2.2 3 (by decide), e3.2.2 3 (by decide), r3]; rfl
              · rw [f6 6 (by decide) (by decide), b3.2.2 6 (by decide), e3.2.2 6 (by decide), r6]
              · rw [f6 7 (by decide) (by decide), b3.2.2 7 (by decide), e3.2.2 7 (by decide), r7]
              · rw [f6 8 (by decide) (by decide), b3.2.2 8 (by decide), e3.2.2 8 (by decide), r8]; rfl
      · rw [if_neg a8]
        simp only [x_take0 (J := J) h (show 8 < 14 by decide) a8, gb_lt_d, gb_gd_t, gb_rd_s, gb_bd_s, gb_I_mk, gb_L_mk, gb_sI_mk, gb_sL_mk, gk3, gr3_0, gr3_1, hk, if_true]
        by_cases a10 : gt_is c n s 10 = true
        · rw [if_pos a10]
          obtain ⟨I1, e1, e2, e3⟩ := x_takeA (J := J) h hq (by decide) a10 3
          simp only [e1, gb_lt_d, gb_gd_t, gb_rd_s, gb_bd_s, gb_I_mk, gb_L_mk, gb_sI_mk, gb_sL_mk, gk3, gr3_0, gr3_1, hk]
          rw [if_neg gb_n10]
          have t := x_first (J := J) e2 (e3.1.c5 hc) hcs hq hk
          revert t
          cases g1 : g_path c n cs 0 5 (gt_n c n s) with
          | none =>
            rintro ⟨I2, b1, b2, b3⟩
            refine ⟨I2, ?_, b2, e3.1.t b3⟩
            simp only [b1, gb_lt_d, gb_gd_t, gb_rd_s, gb_bd_s, gb_I_mk, gb_L_mk, gb_sI_mk, gb_sL_mk, if_true]
            rfl
          | some f =>
            rintro ⟨I2, b1, b2, b3⟩
            have hf := (g_path_lt g1).1
            simp only [b1, gb_lt_d, gb_gd_t, gb_rd_s, gb_bd_s, gb_I_mk, gb_L_mk, gb_sI_mk, gb_sL_mk, gk3, gr3_0, gr3_1, hk]
            rw [if_neg gb_n10]
            have t := x_second (J := J) b2 (b3.1.c5 (e3.1.c5 hc)) hcs hq hk hf b3.2.1
            revert t
            cases g2 : g_path c n cs 0 f (gt_n c n (gt_n c n s)) with
            | none =>
              rintro ⟨I3, d1, d2, d3⟩
              refine ⟨I3, ?_, d2, (e3.1.t b3.1).t d3⟩
              simp only [d1, gb_lt_d, gb_gd_t, gb_rd_s, gb_bd_s, gb_I_mk, gb_L_mk, gb_sI_mk, gb_sL_mk, if_true]
              rfl
            | some t =>
              rintro ⟨I3, d1, d2, d3⟩
              refine ⟨I3, ?_, d2, (e3.1.t b3.1).t d3.1, ?_⟩
              · simp only [d1, gb_lt_d, gb_gd_t, gb_rd_s, gb_bd_s, gb_I_mk, gb_L_mk, gb_sI_mk, gb_sL_mk]
                rw [if_neg gb_n10]
                rfl
              · refine ⟨?_, ?_, d3.2.1, ?_, ?_, ?_, ?_, ?_, ?_⟩
                · rw [d3.2.2 0 (by decide), b3.2.2 0 (by decide), e3.2.1]; rfl
                · rw [d3.2.2 1 (by decide), b3.2.1]
                · rw [d3.2.2 3 (by decide), b3.2.2 3 (by decide), e3.2.2 3 (by decide), r3]; rfl
                · rw [d3.2.2 4 (by decide), b3.2.2 4 (by decide), e3.2.2 4 (by decide), r4]; rfl
                · rw [d3.2.2 5 (by decide), b3.2.2 5 (by decide), e3.2.2 5 (by decide), r5]; rfl
                · rw [d3.2.2 6 (by decide), b3.2.2 6 (by decide), e3.2.2 6 (by decide), r6]
                · rw [d3.2.2 7 (by decide), b3.2.2 7 (by decide), e3.2.2 7 (by decide), r7]
                · rw [d3.2.2 8 (by decide), b3.2.2 8 (by decide), e3.2.2 8 (by decide), r8]; rfl
        · rw [if_neg a10]
          refine ⟨I, ?_, h.2.2.1, gb_fr.r⟩
          simp only [x_take0 (J := J) h (show 10 < 14 by decide) a10, gb_lt_d, gb_gd_t, gb_rd_s, gb_bd_s, gb_I_mk, gb_L_mk, gb_sI_mk, gb_sL_mk, if_true]
end READ3
