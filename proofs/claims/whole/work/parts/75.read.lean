section READ4
variable {I I' I1 I2 : gb_FI} {J J' : gb_FJ} {c : Nat → Nat} {n s q cs : Nat}
theorem gx_dr {j : Nat} (h : j < 16) : gb_R (gb_mk I J) 5 j = some (6 + j) := by
  match j, h with
  | 0, _ => exact gr5_0
  | 1, _ => exact gr5_1
  | 2, _ => exact gr5_2
  | 3, _ => exact gr5_3
  | 4, _ => exact gr5_4
  | 5, _ => exact gr5_5
  | 6, _ => exact gr5_6
  | 7, _ => exact gr5_7
  | 8, _ => exact gr5_8
  | 9, _ => exact gr5_9
  | 10, _ => exact gr5_10
  | 11, _ => exact gr5_11
  | 12, _ => exact gr5_12
  | 13, _ => exact gr5_13
  | 14, _ => exact gr5_14
  | 15, _ => exact gr5_15
  | i + 16, hi => exact absurd hi (by omega)
theorem gx_drk {j : Nat} (h : j < 16) : ∀ (I : gb_FI) (J : gb_FJ), gb_k (gb_mk I J) (6 + j) 5 = true := by
  intro I J
  match j, h with
  | 0, _ => exact gk6
  | 1, _ => exact gk7
  | 2, _ => exact gk8
  | 3, _ => exact gk9
  | 4, _ => exact gk10
  | 5, _ => exact gk11
  | 6, _ => exact gk12
  | 7, _ => exact gk13
  | 8, _ => exact gk14
  | 9, _ => exact gk15
  | 10, _ => exact gk16
  | 11, _ => exact gk17
  | 12, _ => exact gk18
  | 13, _ => exact gk19
  | 14, _ => exact gk20
  | 15, _ => exact gk21
  | i + 16, hi => exact absurd hi (by omega)
def gb_rs (I : gb_FI) (q : Nat) : gb_FI := gb_u (gb_u (gb_u (gb_u (gb_u (gb_u (gb_u (gb_u (gb_u I q 0 5) q 1 0) q 2 0) q 3 0) q 4 (-1)) q 5 0) q 6 (-1)) q 7 0) q 8 0
theorem x_reset (hk : ∀ I J, gb_k (gb_mk I J) q 5 = true) : fnX5_reset q (gb_mk I J) = some ((), gb_mk (gb_rs I q) J) := by
  simp only [fnX5_reset, gb_lt_d, gb_gd_t, gb_rd_s, gb_bd_s, gb_I_mk, gb_L_mk, gb_sI_mk, gb_sL_mk, hk]
  rfl
theorem gb_rs_rq : gb_rq q 5 0 (gb_rs I q) ∧ gb_rs I q q 0 = 5 := by
  unfold gb_rq gb_rs
  refine ⟨⟨?_, ?_, ?_, ?_, ?_, ?_, ?_, ?_⟩, ?_⟩ <;> simp (disch := decide) only [gb_u_nk, gb_u_s] <;> rfl
theorem gb_rs_ne {m : Nat} (h : m ≠ q) : gb_rs I q m = I m := by
  unfold gb_rs
  simp only [gb_u_row _ _ h]
theorem gb_fr.rs (hq : 6 ≤ q) : gb_fr q I (gb_rs I q) := ⟨fun m _ h2 => gb_rs_ne h2, fun k _ => by rw [gb_rs_ne (by omega)]⟩
theorem xRd.k (h : xRd I c n s) (k : ∀ m, m < 4 → I' m = I m) : xRd I' c n s := by
  obtain ⟨⟨t1, t2, t3⟩, hs, h2, h3, h4⟩ := h
  exact ⟨⟨t1, by rw [k 1 (by decide)]; exact t2, fun i hi => by rw [k 2 (by decide)]; exact t3 i hi⟩, hs, by rw [k 3 (by decide)]; exact h2, by rw [k 3 (by decide)]; exact h3, by rw [k 3 (by decide)]; exact h4⟩
/-- a wait: path and count -/
def g_wait (c : Nat → Nat) (n cs s : Nat) : Except Nat ((Nat × Nat) × Nat) :=
  match g_path c n cs 1 5 s with
  | none => .error s
  | some wp => if gt_is c n (gt_n c n s) 1 = true then
      match g_num c n 3 (gt_n c n (gt_n c n s)) with
      | none => .error (gt_n c n (gt_n c n s))
      | some wc => if gt_is c n (gt_n c n (gt_n c n (gt_n c n s))) 2 = true then .ok ((wp, wc), gt_n c n (gt_n c n (gt_n c n (gt_n c n s)))) else .error (gt_n c n (gt_n c n (gt_n c n s)))
    else .error (gt_n c n s)
theorem x_wait (h : xRd I c n s) (hc : I 3 5 = nI cs) (hcs : cs < 32) (hq : 6 ≤ q) (hk : ∀ I J, gb_k (gb_mk I J) q 5 = true) (r : gb_rq q 5 0 I) : match g_wait c n cs s with
    | .error e => ∃ I', fnX7_readWait 3 q (gb_mk I J) = some (0, gb_mk I' J) ∧ I' 3 2 = nI e ∧ gb_fr q I I'
    | .ok w => ∃ I', fnX7_readWait 3 q (gb_mk I J) = some (1, gb_mk I' J) ∧ xRd I' c n w.2 ∧ gb_fr q I I' ∧ gb_rq q w.1.1 w.1.2 I' := by
  obtain ⟨r1, r2, r3, r4, r5, r6, r7, r8⟩ := r
  simp only [fnX7_readWait, fbX7_readWait_27, fbX7_readWait_59, fbX7_readWait_60, gb_lt_d, gb_gd_t, gb_rd_s, gb_bd_s, gb_I_mk, gb_L_mk, gb_sI_mk, gb_sL_mk, gk3, gr3_0, gr3_1, hk]
  unfold g_wait
  cases g : g_path c n cs 1 5 s with
  | none =>
    have e := x_path0 (J := J) h hc hcs (by decide) (by decide) g
    rw [show nI 1 = 1 from rfl, show gb_m1 5 5 = -1 from rfl] at e
    refine ⟨gb_u I q 6 (-1), ?_, by rw [gb_u_row _ _ (by omega)]; exact h.2.2.1, gb_fr.u hq⟩
    simp only [e, gb_lt_d, gb_gd_t, gb_rd_s, gb_bd_s, gb_I_mk, gb_L_mk, gb_sI_mk, gb_sL_mk, gk3, gr3_0, gr3_1, hk, gb_u_s, if_true]
  | some v =>
    obtain ⟨I1, e, e2, e3⟩ := x_path1 (J := J) h hc hcs (by decide) (by decide) g
    rw [show nI 1 = 1 from rfl, show gb_m1 5 5 = -1 from rfl] at e
    have hv := (g_path_lt g).1
    have s1 : gb_sf q 6 (nI v) I (gb_u I1 q 6 (nI v)) := e3.sf hq
    have k1 := e2.u hq (k := 6) (x := nI v)
    simp only [e, gb_lt_d, gb_gd_t, gb_rd_s, gb_bd_s, gb_I_mk, gb_L_mk, gb_sI_mk, gb_sL_mk, gk3, gr3_0, gr3_1, hk, gb_u_s]
    rw [if_neg (gb_nmi v (by omega))]
    show match (if gt_is c n (gt_n c n s) 1 = true then _ else _ : Except Nat ((Nat × Nat) × Nat)) with
      | .error e => _
      | .ok w => _
    by_cases a1 : gt_is c n (gt_n c n s) 1 = true
    · rw [if_pos a1]
      obtain ⟨I2, b1, b2, b3⟩ := x_take1 (J := J) k1 (by decide) a1
      simp only [b1, gb_lt_d, gb_gd_t, gb_rd_s, gb_bd_s, gb_I_mk, gb_L_mk, gb_sI_mk, gb_sL_mk, gk3, gr3_0, gr3_1, hk]
      rw [if_neg gb_n10]
      cases g2 : g_num c n 3 (gt_n c n (gt_n c n s)) with
      | none =>
        have d := x_num0 (J := J) b2 (by decide) g2
        rw [show nI 3 = 3 from rfl] at d
        refine ⟨gb_u I2 q 7 (-1), ?_, by rw [gb_u_row _ _ (by omega)]; exact b2.2.2.1, (s1.1.t b3.fr).t (gb_fr.u hq)⟩
        simp only [d, gb_lt_d, gb_gd_t, gb_rd_s, gb_bd_s, gb_I_mk, gb_L_mk, gb_sI_mk, gb_sL_mk, gk3, gr3_0, gr3_1, hk, gb_u_s, if_true]
        rfl
      | some w =>
        obtain ⟨I3, d1, d2, d3⟩ := x_num1 (J := J) b2 (by decide) g2
        rw [show nI 3 = 3 from rfl] at d1
        have hw := g_num_le g2
        have s2 : gb_sf q 7 (nI w) I2 (gb_u I3 q 7 (nI w)) := d3.sf hq
        have k2 := d2.u hq (k := 7) (x := nI w)
        simp only [d1, gb_lt_d, gb_gd_t, gb_rd_s, gb_bd_s, gb_I_mk, gb_L_mk, gb_sI_mk, gb_sL_mk, gk3, gr3_0, gr3_1, hk, gb_u_s]
        rw [if_neg (gb_nmi w (by omega))]
        show match (if gt_is c n (gt_n c n (gt_n c n (gt_n c n s))) 2 = true then _ else _ : Except Nat ((Nat × Nat) × Nat)) with
          | .error e => _
          | .ok w => _
        by_cases a2 : gt_is c n (gt_n c n (gt_n c n (gt_n c n s))) 2 = true
        · rw [if_pos a2]
          obtain ⟨I4, f1, f2, f3⟩ := x_take1 (J := J) k2 (by decide) a2
          have fq : ∀ j, I4 q j = gb_u I3 q 7 (nI w) q j := fun j => by rw [f3.1 q (by omega)]
          have bq : ∀ j, I2 q j = gb_u I1 q 6 (nI v) q j := fun j => by rw [b3.1 q (by omega)]
          refine ⟨I4, ?_, f2, ((s1.1.t b3.fr).t s2.1).t f3.fr, ?_, ?_, ?_, ?_, ?_, ?_, ?_, ?_⟩
          · simp only [f1, gb_lt_d, gb_gd_t, gb_rd_s, gb_bd_s, gb_I_mk, gb_L_mk, gb_sI_mk, gb_sL_mk]
            rw [if_neg gb_n10]
            rfl
          · rw [fq, s2.2.2 1 (by decide), bq, s1.2.2 1 (by decide)]; exact r1
          · rw [fq, s2.2.2 2 (by decide), bq, s1.2.2 2 (by decide)]; exact r2
          · rw [fq, s2.2.2 3 (by decide), bq, s1.2.2 3 (by decide)]; exact r3
          · rw [fq, s2.2.2 4 (by decide), bq, s1.2.2 4 (by decide)]; exact r4
          · rw [fq, s2.2.2 5 (by decide), bq, s1.2.2 5 (by decide)]; exact r5
          · rw [fq, s2.2.2 6 (by decide), bq, s1.2.1]
            exact (if_neg (by show ¬ v = 5; omega)).symm
          · rw [fq, s2.2.1]
          · rw [fq, s2.2.2 8 (by decide), bq, s1.2.2 8 (by decide)]; exact r8
        · rw [if_neg a2]
          refine ⟨gb_u I3 q 7 (nI w), ?_, k2.2.2.1, (s1.1.t b3.fr).t s2.1⟩
          simp only [x_take0 (J := J) k2 (show 2 < 14 by decide) a2, gb_lt_d, gb_gd_t, gb_rd_s, gb_bd_s, gb_I_mk, gb_L_mk, gb_sI_mk, gb_sL_mk, if_true]
          rfl
    · rw [if_neg a1]
      refine ⟨gb_u I1 q 6 (nI v), ?_, k1.2.2.1, s1.1⟩
      simp only [x_take0 (J := J) k1 (show 1 < 14 by decide) a1, gb_lt_d, gb_gd_t, gb_rd_s, gb_bd_s, gb_I_mk, gb_L_mk, gb_sI_mk, gb_sL_mk, if_true]
end READ4
