section BENCH2
variable {cOK : gb_CP} {S : gb_S} {I I' I1 I2 : gb_FI} {J J' : gb_FJ} {q d o : Nat} {c : Nat → Nat} {n s cs ls : Nat}
theorem g_shift_e (hs : s ≤ n) : (∀ e, g_shift c n s = .error e → e ≤ n) ∧ ∀ r, g_shift c n s = .ok r → r.2 ≤ n := by
  have n1 := gt_n_s (c := c) hs
  have n2 := gt_n_s (c := c) n1
  have n3 := gt_n_s (c := c) n2
  refine ⟨fun e h => ?_, fun r h => ?_⟩ <;> unfold g_shift at h <;> (repeat' split at h) <;> first | (cases h; done) | (cases h; assumption)
theorem g_wait_e (hs : s ≤ n) : (∀ e, g_wait c n cs s = .error e → e ≤ n) ∧ ∀ r, g_wait c n cs s = .ok r → r.2 ≤ n := by
  have n1 := gt_n_s (c := c) hs
  have n2 := gt_n_s (c := c) n1
  have n3 := gt_n_s (c := c) n2
  have n4 := gt_n_s (c := c) n3
  refine ⟨fun e h => ?_, fun r h => ?_⟩ <;> unfold g_wait at h <;> (repeat' split at h) <;> first | (cases h; done) | (cases h; assumption)
theorem g_deed_e {wp wc : Nat} (hs : s ≤ n) : (∀ e, g_deed c n cs wp wc s = .error e → e ≤ n) ∧ ∀ r, g_deed c n cs wp wc s = .ok r → r.2 ≤ n := by
  have n1 := gt_n_s (c := c) hs
  have n2 := gt_n_s (c := c) n1
  have n3 := gt_n_s (c := c) n2
  have n4 := gt_n_s (c := c) n3
  obtain ⟨f1, f2⟩ := g_shift_e (c := c) n2
  refine ⟨fun e h => ?_, fun r h => ?_⟩ <;> unfold g_deed at h <;> (repeat' split at h) <;> first | (cases h; done) | (cases h; assumption) | (cases h; apply f1; assumption) | (cases h; apply f2; assumption)
theorem g_part_e (hs : s ≤ n) : (∀ e, g_part c n cs ls s = .error e → e ≤ n) ∧ ∀ r, g_part c n cs ls s = .ok r → r.2 ≤ n := by
  have n1 := gt_n_s (c := c) hs
  have n2 := gt_n_s (c := c) n1
  have n3 := gt_n_s (c := c) n2
  obtain ⟨f1, f2⟩ := g_wait_e (c := c) (cs := cs) n1
  obtain ⟨d1, d2⟩ := g_deed_e (c := c) (cs := cs) (wp := 5) (wc := 0) hs
  have d3 : ∀ w, g_wait c n cs (gt_n c n s) = .ok w → (∀ e, g_deed c n cs w.1.1 w.1.2 w.2 = .error e → e ≤ n) ∧ ∀ r, g_deed c n cs w.1.1 w.1.2 w.2 = .ok r → r.2 ≤ n := fun w hw => g_deed_e (f2 w hw)
  refine ⟨fun e h => ?_, fun r h => ?_⟩ <;> unfold g_part at h <;> (repeat' split at h) <;> first | (cases h; done) | (cases h; assumption) | (cases h; apply f1; assumption) | (cases h; apply d1; assumption) | (cases h; apply d2; assumption) | (cases h; apply (d3 _ (by assumption)).1; assumption) | (cases h; apply (d3 _ (by assumption)).2; assumption)
theorem g_parts_e : ∀ k cs ls s acc, s ≤ n → ∀ e, g_parts c n k cs ls s acc = .error e → e ≤ n := by
  intro k
  induction k with
  | zero => intro cs ls s acc hs e h; rw [g_parts] at h; rw [← Except.error.inj h]; exact hs
  | succ k ih =>
    intro cs ls s acc hs e h
    obtain ⟨p1, p2⟩ := g_part_e (c := c) (cs := cs) (ls := ls) hs
    rw [g_parts] at h
    split at h
    · rename_i w; rw [← Except.error.inj h]; exact p1 _ w
    · rename_i r w
      have r2 := p2 _ w
      split at h
      · split at h
        · exact ih _ _ _ _ (gt_n_s r2) e h
        · rw [← Except.error.inj h]; exact r2
      · exact absurd h (by simp)
theorem g_text_e {e : Nat} (h : g_text c n = .error e) : e ≤ n := by
  unfold g_text at h
  split at h
  · exact g_parts_e _ _ _ _ _ (by omega) e h
  · exact absurd h (by simp)
def gb_cc (bs : List Nat) : Nat → Nat := fun i => bs.getD i 0
theorem xT.tp {bs : List Nat} (h : xT (I 1 1) (I 2) bs) : xTp I (gb_cc bs) bs.length := by
  obtain ⟨a, b, d, e⟩ := h
  refine ⟨a, d, fun i hi => ?_⟩
  have g : bs[i]? = some (bs[i]) := List.getElem?_eq_getElem hi
  have g2 : gb_cc bs i = bs[i] := by
    unfold gb_cc
    rw [List.getD_eq_getElem?_getD, g]; rfl
  rw [g2]
  exact ⟨b _ (List.getElem_mem hi), e i _ g⟩
theorem xT0 : xT (gb_u I 1 1 0 1 1) (gb_u I 1 1 0 2) [] := ⟨by decide, fun b h => absurd h (by simp), gb_u_s _ _ _ _, fun i b h => absurd h (by simp)⟩
theorem RX.t0 (h : RX cOK S I J) : RX cOK (sT S []) (gb_u I 1 1 0) J := h.tp xT0 (fun n h1 _ => gb_u_row _ _ h1)
def a_bench (b : Int32) (S : gb_S) : Int32 × gb_S :=
  if gb_rg b 4 = true then
    match g_text (gb_cc S.2.2.1) S.2.2.1.length with
    | .error e => (-6, sSt (sT (sF S (nI e)) []) (-6))
    | .ok ps => (nI ps.length, sSt (sB (sT (sF S (-1)) []) (gb_ub S.2.2.2.2.1 b.toNatClampNeg ps)) 0)
  else (-2, sSt (sT S []) (-2))
theorem gb_fx.k (k : ∀ m, 241 ≤ m → I' m = I m) : gb_fx I I' J J := fun n hn => ⟨k n hn, rfl⟩
theorem X_bench (h : RX cOK S I J) (b : Int32) : xok cOK (fnX10_bench 0 b) I J (a_bench b S) := by
  have hT := h.2.2.1.tp
  unfold a_bench xok
  simp only [fnX10_bench, x_isBench, gb_lt_d, gb_gd_t, gb_rd_s, gb_bd_s, gb_I_mk, gb_L_mk, gb_sI_mk, gb_sL_mk, gk0, gr0_0, gr0_1, gr0_2, gr0_3, gr0_4, gr0_5, gr0_6, gr0_7, gr0_8, gr0_9, gr0_10, gr0_11, gr0_12]
  by_cases h1 : gb_rg b 4 = true
  · rw [if_pos h1, if_pos h1, if_neg gb_n10]
    obtain ⟨b', hb, _, rfl⟩ := gb_rgT h1
    rw [nI_clamp (by omega)]
    have t := x_readParts (J := J) hT
    have we := fun e => g_text_e (c := gb_cc S.2.2.1) (n := S.2.2.1.length) (e := e)
    have wo := fun ps => g_text_w (c := gb_cc S.2.2.1) (n := S.2.2.1.length) (ps := ps)
    have hn := hT.1
    revert t we wo
    cases g_text (gb_cc S.2.2.1) S.2.2.1.length with
    | error e =>
      rintro ⟨I1, a1, a2⟩ we -
      have he := we e rfl
      have r1 : RX cOK S I1 J := h.sc a2
      refine ⟨_, J, ?_, (((r1.fl (nI e)).t0).st (-6)), gb_fx.k (fun m hm => ?_)⟩
      · simp (disch := omega) only [gb_lt_d, gb_gd_t, gb_rd_s, gb_bd_s, gb_I_mk, gb_L_mk, gb_sI_mk, gb_sL_mk, gk0, gr0_0, gr0_1, gr0_2, gr0_3, gr0_4, gr0_5, gr0_6, gr0_7, gr0_8, gr0_9, gr0_10, gr0_11, gr0_12, gk3, gr3_0, gr3_1, gk1, gr1_0, a1, gb_u_ne _ _ (show (0 : Nat) ≠ 1 by decide), gb_u_s]
        rw [if_neg (gb_nmi e (by omega))]
        simp only [x_refuse, gb_lt_d, gb_gd_t, gb_rd_s, gb_bd_s, gb_I_mk, gb_L_mk, gb_sI_mk, gb_sL_mk]
      · rw [gb_u_row _ _ (by omega), gb_u_row _ _ (by omega), gb_u_row _ _ (by omega), a2 m (by omega)]
    | ok ps =>
      rintro ⟨I1, a1, a2, a3, a4, a5⟩ - wo
      obtain ⟨w1, w2⟩ := wo ps rfl
      have r1 : RX cOK S I1 J := h.sc a5
      have r2 := (r1.fl (-1)).t0
      have k4 : gb_u (gb_u I1 0 14 (-1)) 1 1 0 4 1 = nI ps.length := by rw [gb_u_row _ _ (by decide), gb_u_row _ _ (by decide)]; exact a3
      have kp : ∀ j p, ps[j]? = some p → xP (gb_u (gb_u I1 0 14 (-1)) 1 1 0 (6 + j)) p := fun j p hj => by rw [gb_u_row _ _ (by omega), gb_u_row _ _ (by omega)]; exact a4 j p hj
      have cA := x_copyAll (I := gb_u (gb_u I1 0 14 (-1)) 1 1 0) (J := J) hb a2 k4
      have k1 : gb_ca (gb_u (gb_u I1 0 14 (-1)) 1 1 0) (24 + 23 * b') ps.length (24 + 23 * b') 1 = nI ps.length := gb_ca_1 _
      have r3 := r2.bn (I' := gb_u (gb_ca (gb_u (gb_u I1 0 14 (-1)) 1 1 0) (24 + 23 * b') ps.length) (42 + 23 * b') 6 0) hb w1 (by rw [gb_u_row _ _ (by omega)]; exact k1) (fun i p hi => by
        have hi' : i < ps.length := (List.getElem?_eq_some_iff.mp hi).1
        refine ⟨gb_wl_mem w2 p (List.mem_of_getElem? hi), ?_⟩
        rw [gb_u_row _ _ (by omega), show 26 + 23 * b' + i = 24 + 23 * b' + 2 + i by omega]
        exact gb_ca_P (by omega) (by omega) (kp i p hi) _ hi') (gb_u_s _ _ _ _) (fun m hm => by rw [gb_u_row _ _ (by omega), gb_ca_ne (by omega) _ (by omega)])
      refine ⟨_, J, ?_, r3.st 0, gb_fx.k (fun m hm => ?_)⟩
      · simp (disch := omega) only [gb_lt_d, gb_gd_t, gb_rd_s, gb_bd_s, gb_I_mk, gb_L_mk, gb_sI_mk, gb_sL_mk, gk0, gr0_0, gr0_1, gr0_2, gr0_3, gr0_4, gr0_5, gr0_6, gr0_7, gr0_8, gr0_9, gr0_10, gr0_11, gr0_12, gk3, gr3_0, gr3_1, gk1, gr1_0, a1, gb_u_ne _ _ (show (0 : Nat) ≠ 1 by decide), gb_u_s, if_true, gi22, gi23, nI_clamp, gx_ly, gx_lyk, gx_ch, gx_chk, cA, x_allow, gb_u_ne _ _ (show 24 + 23 * b' ≠ 42 + 23 * b' by omega), k1, gk22, gk23]
      · rw [gb_u_row _ _ (by omega), gb_u_row _ _ (by omega), gb_ca_ne (by omega) _ (by omega), gb_u_row _ _ (by omega), gb_u_row _ _ (by omega), a5 m (by omega)]
  · rw [if_neg h1, if_neg h1, if_pos (show (0 : Int32) = 0 from rfl)]
    refine ⟨_, J, ?_, (h.t0.st (-2)), gb_fx.k (fun m hm => ?_)⟩
    · simp only [gb_lt_d, gb_gd_t, gb_rd_s, gb_bd_s, gb_I_mk, gb_L_mk, gb_sI_mk, gb_sL_mk, gk0, gr0_0, gr0_1, gr0_2, gr0_3, gr0_4, gr0_5, gr0_6, gr0_7, gr0_8, gr0_9, gr0_10, gr0_11, gr0_12, gk1, gr1_0, x_refuse]
    · rw [gb_u_row _ _ (by omega), gb_u_row _ _ (by omega)]
end BENCH2
