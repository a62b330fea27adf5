section SHELF
variable {cOK : gb_CP} {S : gb_S} {I I' I1 I2 : gb_FI} {J J' : gb_FJ} {q d o : Nat} {c : Nat → Nat} {n s cs ls : Nat}
/-- a text that is one deed -/
def g_alone (c : Nat → Nat) (n : Nat) : Except Nat gb_P := match g_deed c n 0 5 0 (gt_s c n 0) with
  | .error e => .error e
  | .ok r => if r.2 < n then .error r.2 else .ok r.1
theorem g_alone_e : (∀ e, g_alone c n = .error e → e ≤ n) ∧ ∀ p, g_alone c n = .ok p → gb_wp 0 0 p ∧ p.1 < 4 ∧ p.2.2.2.2.2.2.1 = 5 := by
  have hs : gt_s c n 0 ≤ n := (gt_w_s (Nat.zero_le _)).2.1
  obtain ⟨d1, d2⟩ := g_deed_e (c := c) (cs := 0) (wp := 5) (wc := 0) hs
  refine ⟨fun e h => ?_, fun p h => ?_⟩
  · unfold g_alone at h
    split at h
    · cases h; apply d1; assumption
    · split at h
      · cases h; apply d2; assumption
      · cases h
  · unfold g_alone at h
    split at h
    · cases h
    · rename_i r hr
      split at h
      · cases h
      · cases h
        exact g_deed_b (ls := 0) (fun w => absurd w (by decide)) (by decide) (by decide) hr
theorem x_alone (t : xTp I c n) : match g_alone c n with
    | .error e => ∃ I', fnX7_readDeedAlone 3 (gb_mk I J) = some (nI e, gb_mk I' J) ∧ ∀ m, m < 3 ∨ 22 ≤ m → I' m = I m
    | .ok p => ∃ I', fnX7_readDeedAlone 3 (gb_mk I J) = some (-1, gb_mk I' J) ∧ xP (I' 6) p ∧ ∀ m, m < 3 ∨ 22 ≤ m → I' m = I m := by
  obtain ⟨I1, a1, a2, a3, a4, a5, a6⟩ := x_restart (J := J) t
  have kr : ∀ x, x ≠ 6 → gb_rs I1 6 x = I1 x := fun x hx => gb_rs_ne hx
  have hk : ∀ (I : gb_FI) (J : gb_FJ), gb_k (gb_mk I J) 6 5 = true := fun I J => gk6
  have hK : xRd (gb_rs I1 6) c n (gt_s c n 0) := a2.k (fun x hx => kr x (by omega))
  have hc' : gb_rs I1 6 3 5 = nI 0 := by rw [kr 3 (by decide)]; exact a3
  have rq := (gb_rs_rq (I := I1) (q := 6)).1
  have t := x_deed (J := J) hK hc' (by decide) (by decide) hk rq
  simp only [fnX7_readDeedAlone, fbX7_readDeedAlone_37, fbX7_readDeedAlone_41, gb_lt_d, gb_gd_t, gb_rd_s, gb_bd_s, gb_I_mk, gb_L_mk, gb_sI_mk, gb_sL_mk, gk3, gr3_0, gr3_1, gk4, gr4_0, gk5, gr5_0, gr5_1, gr5_2, gr5_3, gr5_4, gr5_5, gr5_6, gr5_7, gr5_8, gr5_9, gr5_10, gr5_11, gr5_12, gr5_13, gr5_14, gr5_15, gk6, a1, x_reset hk, show gb_in (gb_mk I1 J) 5 0 = true from gi5 (j := 0) (by decide), show (0 : Int32).toNatClampNeg = 0 from rfl]
  unfold g_alone
  revert t
  cases g_deed c n 0 5 0 (gt_s c n 0) with
  | error e =>
    rintro ⟨I2, b1, b2, b3⟩
    refine ⟨I2, ?_, fun m hm => by rw [b3.1 m (by omega) (by omega), kr m (by omega), a6 m (by omega) (by omega)]⟩
    simp only [b1, gb_lt_d, gb_gd_t, gb_rd_s, gb_bd_s, gb_I_mk, gb_L_mk, gb_sI_mk, gb_sL_mk, gk3, gr3_0, gr3_1, if_true, b2]
  | ok r =>
    rintro ⟨I2, b1, b2, b3, b4⟩
    have fr : ∀ m, m < 3 ∨ 22 ≤ m → I2 m = I m := fun m hm => by rw [b3.1 m (by omega) (by omega), kr m (by omega), a6 m (by omega) (by omega)]
    simp only [b1, gb_lt_d, gb_gd_t, gb_rd_s, gb_bd_s, gb_I_mk, gb_L_mk, gb_sI_mk, gb_sL_mk, gk3, gr3_0, gr3_1, x_atEnd b2]
    rw [if_neg gb_n10]
    by_cases e : r.2 < n
    · simp only [if_pos e, if_true]
      exact ⟨I2, by rw [b2.2.2.1], fr⟩
    · simp only [if_neg e]
      refine ⟨I2, ?_, b4, fr⟩
      rw [if_neg gb_n10]
def sS (S : gb_S) (sh : List gb_P) : gb_S := (S.1, S.2.1, S.2.2.1, S.2.2.2.1, S.2.2.2.2.1, sh, S.2.2.2.2.2.2)
def a_shelf (S : gb_S) : Int32 × gb_S :=
  if S.2.2.2.2.2.1.length < 8 then
    match g_alone (gb_cc S.2.2.1) S.2.2.1.length with
    | .error e => (-6, sSt (sT (sF S (nI e)) []) (-6))
    | .ok p => (nI S.2.2.2.2.2.1.length, sSt (sS (sT (sF S (-1)) []) (S.2.2.2.2.2.1 ++ [p])) 0)
  else (-5, sSt (sT S []) (-5))
theorem RX.sh (h : RX cOK S I J) {p : gb_P} (hl : S.2.2.2.2.2.1.length < 8) (w : gb_pOK p ∧ p.1 < 4 ∧ p.2.2.2.2.2.2.1 = 5) (hs : I' 116 1 = nI (S.2.2.2.2.2.1.length + 1)) (hp : xP (I' (118 + S.2.2.2.2.2.1.length)) p) (k : ∀ m, m ≠ 116 → m ≠ 118 + S.2.2.2.2.2.1.length → I' m = I m) : RX cOK (sS S (S.2.2.2.2.2.1 ++ [p])) I' J := by
  obtain ⟨h1, h2, h3, h4, h5, h6, h7, h8, h9, h10, h11⟩ := h
  refine ⟨?_, ?_, ?_, ?_, h5.keep (fun n _ _ _ => k n (by omega) (by omega)), ?_, ?_, ?_, ?_, h10.keep (fun n _ _ => k n (by omega) (by omega)) (fun _ _ _ => rfl), h11.keep (fun n _ _ => ⟨k n (by omega) (by omega), rfl⟩)⟩
  · rw [k 0 (by omega) (by omega), k 239 (by omega) (by omega)]; exact h1
  · rw [k 0 (by omega) (by omega)]; exact h2
  · rw [k 1 (by omega) (by omega), k 2 (by omega) (by omega)]; exact h3
  · rw [k 0 (by omega) (by omega)]; exact h4
  · obtain ⟨q1, q2, q3⟩ := h6
    show (S.2.2.2.2.2.1 ++ [p]).length ≤ 8 ∧ I' 116 1 = nI (S.2.2.2.2.2.1 ++ [p]).length ∧ ∀ i x, (S.2.2.2.2.2.1 ++ [p])[i]? = some x → gb_pOK x ∧ x.1 < 4 ∧ x.2.2.2.2.2.2.1 = 5 ∧ xP (I' (118 + i)) x
    generalize S.2.2.2.2.2.1 = sh at *
    refine ⟨by simp; omega, by rw [hs]; simp, fun i x hi => ?_⟩
    by_cases e : i < sh.length
    · rw [List.getElem?_append_left e] at hi
      rw [k (118 + i) (by omega) (by omega)]
      exact q3 i x hi
    · rw [List.getElem?_append_right (by omega)] at hi
      have ei : i = sh.length := by
        by_cases w : i - sh.length = 0
        · omega
        · rw [List.getElem?_eq_none (by simp; omega)] at hi
          exact absurd hi (by simp)
      subst ei
      rw [Nat.sub_self] at hi
      have : p = x := by simpa using hi
      rw [← this]
      exact ⟨w.1, w.2.1, w.2.2, hp⟩
  · rw [k 240 (by omega) (by omega)]; exact h7
  · rw [k 126 (by omega) (by omega), k 127 (by omega) (by omega), k 128 (by omega) (by omega), k 129 (by omega) (by omega)]; exact h8
  · rw [k 139 (by omega) (by omega), k 145 (by omega) (by omega)]
    show xL (I 139 7) (I 145) (J 146) (S.2.2.2.2.2.1 ++ [p]) S.2.2.2.2.2.2.2.2
    revert h9
    generalize S.2.2.2.2.2.2.2.2 = pl
    cases pl with
    | none => exact fun h => h
    | some q =>
      rintro ⟨a, b, d, e⟩
      exact ⟨a, b, fun i j hi => ⟨by have := (d i j hi).1; simp; omega, (d i j hi).2⟩, e⟩
theorem X_shelf (h : RX cOK S I J) : xok cOK (fnX10_shelf 0) I J (a_shelf S) := by
  have hT := h.2.2.1.tp
  have hS := h.2.2.2.2.2.1
  have hs1 := hS.2.1
  have hl8 := hS.1
  unfold a_shelf xok
  simp only [fnX10_shelf, gb_lt_d, gb_gd_t, gb_rd_s, gb_bd_s, gb_I_mk, gb_L_mk, gb_sI_mk, gb_sL_mk, gk0, gr0_0, gr0_1, gr0_2, gr0_3, gr0_4, gr0_5, gr0_6, gr0_7, gr0_8, gr0_9, gr0_10, gr0_11, gr0_12, gk116, gr116_0, hs1]
  by_cases h1 : S.2.2.2.2.2.1.length < 8
  · rw [if_pos h1, if_pos (show nI S.2.2.2.2.2.1.length < 8 from nI_lt (b := 8) h1 (by omega))]
    have t := x_alone (J := J) hT
    obtain ⟨we, wo⟩ := g_alone_e (c := gb_cc S.2.2.1) (n := S.2.2.1.length)
    have hn := hT.1
    revert t we wo
    cases g_alone (gb_cc S.2.2.1) S.2.2.1.length with
    | error e =>
      rintro ⟨I1, a1, a2⟩ we -
      have he := we e rfl
      have r1 : RX cOK S I1 J := h.sc a2
      refine ⟨_, J, ?_, (((r1.fl (nI e)).t0).st (-6)), gb_fx.k (fun m hm => ?_)⟩
      · simp (disch := omega) only [gb_lt_d, gb_gd_t, gb_rd_s, gb_bd_s, gb_I_mk, gb_L_mk, gb_sI_mk, gb_sL_mk, gk0, gr0_0, gr0_1, gr0_2, gr0_3, gr0_4, gr0_5, gr0_6, gr0_7, gr0_8, gr0_9, gr0_10, gr0_11, gr0_12, gk3, gr3_0, gr3_1, gk1, gr1_0, a1, gb_u_ne _ _ (show (0 : Nat) ≠ 1 by decide), gb_u_s]
        rw [if_neg (gb_nmi e (by omega))]
        simp only [x_refuse, gb_lt_d, gb_gd_t, gb_rd_s, gb_bd_s, gb_I_mk, gb_L_mk, gb_sI_mk, gb_sL_mk]
      · rw [gb_u_row _ _ (by omega), gb_u_row _ _ (by omega), gb_u_row _ _ (by omega), a2 m (by omega)]
    | ok p =>
      rintro ⟨I1, a1, a2, a3⟩ - wo
      obtain ⟨w1, w2, w3⟩ := wo p rfl
      have r1 : RX cOK S I1 J := h.sc a3
      have r2 := (r1.fl (-1)).t0
      have k6 : xP (gb_u (gb_u I1 0 14 (-1)) 1 1 0 6) p := by rw [gb_u_row _ _ (by decide), gb_u_row _ _ (by decide)]; exact a2
      have k116 : gb_u (gb_u I1 0 14 (-1)) 1 1 0 116 1 = nI S.2.2.2.2.2.1.length := by rw [gb_u_row _ _ (by decide), gb_u_row _ _ (by decide), a3 116 (by decide)]; exact hs1
      have hk6 : ∀ (I : gb_FI) (J : gb_FJ), gb_k (gb_mk I J) 6 5 = true := fun I J => gk6
      have a := x_append (I := gb_u (gb_u I1 0 14 (-1)) 1 1 0) (J := J) (o := 116) (m := S.2.2.2.2.2.1.length) (room := 8) (q := 6) (fun I J => gk116) (fun I J => gr116_0) (fun I J => kd117) k116 h1 (by decide) (fun I J => gx_sr h1) (gx_sk h1) hk6 (by omega)
      have r3 := r2.sh (I' := gb_u (gb_cp (gb_u (gb_u I1 0 14 (-1)) 1 1 0) (116 + 2 + S.2.2.2.2.2.1.length) 6) 116 1 (nI (S.2.2.2.2.2.1.length + 1))) (p := p) h1 ⟨w1.1, w2, w3⟩ (gb_u_s _ _ _ _) (by rw [gb_u_row _ _ (by omega)]; exact gb_cp_P k6) (fun m m1 m2 => by rw [gb_u_row _ _ m1]; exact gb_cp_ne m2)
      refine ⟨_, J, ?_, r3.st 0, gb_fx.k (fun m hm => ?_)⟩
      · simp (disch := omega) only [gb_lt_d, gb_gd_t, gb_rd_s, gb_bd_s, gb_I_mk, gb_L_mk, gb_sI_mk, gb_sL_mk, gk0, gr0_0, gr0_1, gr0_2, gr0_3, gr0_4, gr0_5, gr0_6, gr0_7, gr0_8, gr0_9, gr0_10, gr0_11, gr0_12, gk3, gr3_0, gr3_1, gk1, gr1_0, gk4, gr4_0, gk5, gr5_0, gr5_1, gr5_2, gr5_3, gr5_4, gr5_5, gr5_6, gr5_7, gr5_8, gr5_9, gr5_10, gr5_11, gr5_12, gr5_13, gr5_14, gr5_15, gk6, gk116, gr116_0, a1, gb_u_ne _ _ (show (0 : Nat) ≠ 1 by decide), gb_u_s, if_true, show gb_in (gb_mk (gb_u (gb_u I1 0 14 (-1)) 1 1 0) J) 5 0 = true from gi5 (j := 0) (by decide), show (0 : Int32).toNatClampNeg = 0 from rfl, a, x_allow]
        rw [show nI (S.2.2.2.2.2.1.length + 1) - 1 = nI S.2.2.2.2.2.1.length from nI_pred _]
      · rw [gb_u_row _ _ (by omega), gb_u_row _ _ (by omega), gb_cp_ne (by omega), gb_u_row _ _ (by omega), gb_u_row _ _ (by omega), a3 m (by omega)]
  · rw [if_neg h1, if_neg (show ¬ nI S.2.2.2.2.2.1.length < 8 from nI_nlt (b := 8) (by omega) (by omega))]
    refine ⟨_, J, ?_, (h.t0.st (-5)), gb_fx.k (fun m hm => ?_)⟩
    · simp only [gb_lt_d, gb_gd_t, gb_rd_s, gb_bd_s, gb_I_mk, gb_L_mk, gb_sI_mk, gb_sL_mk, gk0, gr0_0, gr0_1, gr0_2, gr0_3, gr0_4, gr0_5, gr0_6, gr0_7, gr0_8, gr0_9, gr0_10, gr0_11, gr0_12, gk1, gr1_0, x_refuse]
    · rw [gb_u_row _ _ (by omega), gb_u_row _ _ (by omega)]
end SHELF
