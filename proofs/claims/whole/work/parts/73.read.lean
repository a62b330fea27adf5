section READ2
variable {I I' I1 I2 : gb_FI} {J J' : gb_FJ} {c : Nat → Nat} {n s q cs : Nat}
theorem gb_nmi : ∀ v, v < 1000 → ¬ nI v = -1 := by
  intro v hv e
  have := congrArg Int32.toInt e
  rw [nI_toInt (by omega)] at this
  rw [show (-1 : Int32).toInt = -1 from by decide] at this
  omega
theorem x_first (h : xRd I c n s) (hc : I 3 5 = nI cs) (hcs : cs < 32) (hq : 6 ≤ q) (hk : ∀ I J, gb_k (gb_mk I J) q 5 = true) : match g_path c n cs 0 5 s with
    | none => ∃ I', fnX7_readFirst 3 q (gb_mk I J) = some (0, gb_mk I' J) ∧ I' 3 2 = nI s ∧ gb_fr q I I'
    | some v => ∃ I', fnX7_readFirst 3 q (gb_mk I J) = some (1, gb_mk I' J) ∧ xRd I' c n (gt_n c n s) ∧ gb_sf q 1 (nI v) I I' := by
  simp only [fnX7_readFirst, fbX7_readFirst_23, gb_lt_d, gb_gd_t, gb_rd_s, gb_bd_s, gb_I_mk, gb_L_mk, gb_sI_mk, gb_sL_mk, gk3, gr3_0, gr3_1, hk]
  cases g : g_path c n cs 0 5 s with
  | none =>
    have e := x_path0 (J := J) h hc hcs (by decide) (by decide) g
    rw [show nI 0 = 0 from rfl, show gb_m1 5 5 = -1 from rfl] at e
    refine ⟨gb_u I q 1 (-1), ?_, by rw [gb_u_row _ _ (by omega)]; exact h.2.2.1, gb_fr.u hq⟩
    simp only [e, gb_lt_d, gb_gd_t, gb_rd_s, gb_bd_s, gb_I_mk, gb_L_mk, gb_sI_mk, gb_sL_mk, gk3, gr3_0, gr3_1, hk, gb_u_s, if_true]
    rfl
  | some v =>
    obtain ⟨I1, e, e2, e3⟩ := x_path1 (J := J) h hc hcs (by decide) (by decide) g
    rw [show nI 0 = 0 from rfl, show gb_m1 5 5 = -1 from rfl] at e
    have := (g_path_lt g).1
    refine ⟨gb_u I1 q 1 (nI v), ?_, e2.u hq, e3.sf hq⟩
    simp only [e, gb_lt_d, gb_gd_t, gb_rd_s, gb_bd_s, gb_I_mk, gb_L_mk, gb_sI_mk, gb_sL_mk, gk3, gr3_0, gr3_1, hk, gb_u_s]
    rw [if_neg (gb_nmi v (by omega))]
    rfl
theorem x_second (h : xRd I c n s) (hc : I 3 5 = nI cs) (hcs : cs < 32) (hq : 6 ≤ q) (hk : ∀ I J, gb_k (gb_mk I J) q 5 = true) {u : Nat} (hu : u < 5) (h1 : I q 1 = nI u) : match g_path c n cs 0 u s with
    | none => ∃ I', fnX7_readSecond 3 q (gb_mk I J) = some (0, gb_mk I' J) ∧ I' 3 2 = nI s ∧ gb_fr q I I'
    | some v => ∃ I', fnX7_readSecond 3 q (gb_mk I J) = some (1, gb_mk I' J) ∧ xRd I' c n (gt_n c n s) ∧ gb_sf q 2 (nI v) I I' := by
  have hm : gb_m1 5 u = nI u := if_neg (by omega)
  simp only [fnX7_readSecond, fbX7_readSecond_26, gb_lt_d, gb_gd_t, gb_rd_s, gb_bd_s, gb_I_mk, gb_L_mk, gb_sI_mk, gb_sL_mk, gk3, gr3_0, gr3_1, hk, h1]
  cases g : g_path c n cs 0 u s with
  | none =>
    have e := x_path0 (J := J) h hc hcs (by decide) (by omega) g
    rw [show nI 0 = 0 from rfl, hm] at e
    refine ⟨gb_u I q 2 (-1), ?_, by rw [gb_u_row _ _ (by omega)]; exact h.2.2.1, gb_fr.u hq⟩
    simp only [e, gb_lt_d, gb_gd_t, gb_rd_s, gb_bd_s, gb_I_mk, gb_L_mk, gb_sI_mk, gb_sL_mk, gk3, gr3_0, gr3_1, hk, gb_u_s, if_true]
    rfl
  | some v =>
    obtain ⟨I1, e, e2, e3⟩ := x_path1 (J := J) h hc hcs (by decide) (by omega) g
    rw [show nI 0 = 0 from rfl, hm] at e
    have := (g_path_lt g).1
    refine ⟨gb_u I1 q 2 (nI v), ?_, e2.u hq, e3.sf hq⟩
    simp only [e, gb_lt_d, gb_gd_t, gb_rd_s, gb_bd_s, gb_I_mk, gb_L_mk, gb_sI_mk, gb_sL_mk, gk3, gr3_0, gr3_1, hk, gb_u_s]
    rw [if_neg (gb_nmi v (by omega))]
    rfl
def g_kind (c : Nat → Nat) (n s : Nat) : Option Nat := if gt_is c n s 4 = true then some 1 else if gt_is c n s 5 = true then some 2 else if gt_is c n s 6 = true then some 3 else none
theorem x_kind (h : xRd I c n s) (hq : 6 ≤ q) (hk : ∀ I J, gb_k (gb_mk I J) q 5 = true) (h3 : I q 3 = 0) : match g_kind c n s with
    | none => ∃ I', fnX7_readKind 3 q (gb_mk I J) = some (0, gb_mk I' J) ∧ I' 3 2 = nI s ∧ gb_fr q I I'
    | some v => ∃ I', fnX7_readKind 3 q (gb_mk I J) = some (1, gb_mk I' J) ∧ xRd I' c n (gt_n c n s) ∧ gb_sf q 3 (nI v) I I' := by
  simp only [fnX7_readKind, fbX7_readKind_48, fbX7_readKind_60, gb_lt_d, gb_gd_t, gb_rd_s, gb_bd_s, gb_I_mk, gb_L_mk, gb_sI_mk, gb_sL_mk, gk3, gr3_0, gr3_1, hk]
  unfold g_kind
  by_cases a : gt_is c n s 4 = true
  · rw [if_pos a]
    obtain ⟨I1, e, e2, e3⟩ := x_take1 (J := J) h (by decide) a
    refine ⟨gb_u I1 q 3 (nI 1), ?_, e2.u hq, e3.sf hq⟩
    simp only [e, gb_lt_d, gb_gd_t, gb_rd_s, gb_bd_s, gb_I_mk, gb_L_mk, gb_sI_mk, gb_sL_mk, gk3, gr3_0, gr3_1, hk, gb_u_s]
    rw [if_neg gb_n10, if_neg gb_n10]
    rfl
  · rw [if_neg a]
    simp only [x_take0 (J := J) h (show 4 < 14 by decide) a, gb_lt_d, gb_gd_t, gb_rd_s, gb_bd_s, gb_I_mk, gb_L_mk, gb_sI_mk, gb_sL_mk, gk3, gr3_0, gr3_1, hk, if_true]
    by_cases b : gt_is c n s 5 = true
    · rw [if_pos b]
      obtain ⟨I1, e, e2, e3⟩ := x_take1 (J := J) h (by decide) b
      refine ⟨gb_u I1 q 3 (nI 2), ?_, e2.u hq, e3.sf hq⟩
      simp only [e, gb_lt_d, gb_gd_t, gb_rd_s, gb_bd_s, gb_I_mk, gb_L_mk, gb_sI_mk, gb_sL_mk, gk3, gr3_0, gr3_1, hk, gb_u_s]
      rw [if_neg gb_n10, if_neg (show ¬ (2 : Int32) = 0 by decide)]
      rfl
    · rw [if_neg b]
      simp only [x_take0 (J := J) h (show 5 < 14 by decide) b, gb_lt_d, gb_gd_t, gb_rd_s, gb_bd_s, gb_I_mk, gb_L_mk, gb_sI_mk, gb_sL_mk, gk3, gr3_0, gr3_1, hk, if_true]
      by_cases d : gt_is c n s 6 = true
      · rw [if_pos d]
        obtain ⟨I1, e, e2, e3⟩ := x_take1 (J := J) h (by decide) d
        refine ⟨gb_u I1 q 3 (nI 3), ?_, e2.u hq, e3.sf hq⟩
        simp only [e, gb_lt_d, gb_gd_t, gb_rd_s, gb_bd_s, gb_I_mk, gb_L_mk, gb_sI_mk, gb_sL_mk, gk3, gr3_0, gr3_1, hk, gb_u_s]
        rw [if_neg gb_n10, if_neg (show ¬ (3 : Int32) = 0 by decide)]
        rfl
      · rw [if_neg d]
        refine ⟨I, ?_, h.2.2.1, gb_fr.r⟩
        simp only [x_take0 (J := J) h (show 6 < 14 by decide) d, gb_lt_d, gb_gd_t, gb_rd_s, gb_bd_s, gb_I_mk, gb_L_mk, gb_sI_mk, gb_sL_mk, gk3, gr3_0, gr3_1, hk, if_true, h3]
        rfl
/-- mark (2: both), times, the next token -/
def g_shift (c : Nat → Nat) (n s : Nat) : Except Nat ((Nat × Nat) × Nat) :=
  if gt_is c n s 9 = true then
    match g_num c n 1 (gt_n c n s) with
    | none => .error (gt_n c n s)
    | some m => match g_num c n 3 (gt_n c n (gt_n c n s)) with
      | none => .error (gt_n c n (gt_n c n s))
      | some t => .ok ((m, t), gt_n c n (gt_n c n (gt_n c n s)))
  else match g_num c n 3 s with
    | none => .error s
    | some t => .ok ((2, t), gt_n c n s)
theorem x_times (h : xRd I c n s) (hq : 6 ≤ q) (hk : ∀ I J, gb_k (gb_mk I J) q 5 = true) : match g_num c n 3 s with
    | none => ∃ I', fbX7_readShift_28 3 q (gb_mk I J) = some (0, gb_mk I' J) ∧ I' 3 2 = nI s ∧ gb_fr q I I'
    | some t => ∃ I', fbX7_readShift_28 3 q (gb_mk I J) = some (1, gb_mk I' J) ∧ xRd I' c n (gt_n c n s) ∧ gb_sf q 5 (nI t) I I' := by
  simp only [fbX7_readShift_28, fbX7_readShift_50, gb_lt_d, gb_gd_t, gb_rd_s, gb_bd_s, gb_I_mk, gb_L_mk, gb_sI_mk, gb_sL_mk, gk3, gr3_0, gr3_1, hk]
  cases g : g_num c n 3 s with
  | none =>
    have e := x_num0 (J := J) h (by decide) g
    rw [show nI 3 = 3 from rfl] at e
    refine ⟨gb_u I q 5 (-1), ?_, by rw [gb_u_row _ _ (by omega)]; exact h.2.2.1, gb_fr.u hq⟩
    simp only [e, gb_lt_d, gb_gd_t, gb_rd_s, gb_bd_s, gb_I_mk, gb_L_mk, gb_sI_mk, gb_sL_mk, gk3, gr3_0, gr3_1, hk, gb_u_s, if_true]
    rfl
  | some v =>
    obtain ⟨I1, e, e2, e3⟩ := x_num1 (J := J) h (by decide) g
    rw [show nI 3 = 3 from rfl] at e
    have := g_num_le g
    refine ⟨gb_u I1 q 5 (nI v), ?_, e2.u hq, e3.sf hq⟩
    simp only [e, gb_lt_d, gb_gd_t, gb_rd_s, gb_bd_s, gb_I_mk, gb_L_mk, gb_sI_mk, gb_sL_mk, gk3, gr3_0, gr3_1, hk, gb_u_s]
    rw [if_neg (gb_nmi v (by omega))]
    rfl
theorem x_shift (h : xRd I c n s) (hq : 6 ≤ q) (hk : ∀ I J, gb_k (gb_mk I J) q 5 = true) (h4 : I q 4 = -1) : match g_shift c n s with
    | .error e => ∃ I', fnX7_readShift 3 q (gb_mk I J) = some (0, gb_mk I' J) ∧ I' 3 2 = nI e ∧ gb_fr q I I'
    | .ok r => ∃ I', fnX7_readShift 3 q (gb_mk I J) = some (1, gb_mk I' J) ∧ xRd I' c n r.2 ∧ gb_fr q I I' ∧ I' q 4 = gb_m1 2 r.1.1 ∧ I' q 5 = nI r.1.2 ∧ r.1.1 ≤ 2 ∧ r.1.2 ≤ 3 ∧ ∀ j, j ≠ 4 → j ≠ 5 → I' q j = I q j := by
  simp only [fnX7_readShift, gb_lt_d, gb_gd_t, gb_rd_s, gb_bd_s, gb_I_mk, gb_L_mk, gb_sI_mk, gb_sL_mk, gk3, gr3_0, gr3_1, hk]
  unfold g_shift
  by_cases a : gt_is c n s 9 = true
  · rw [if_pos a]
    obtain ⟨I1, e, e2, e3⟩ := x_take1 (J := J) h (by decide) a
    simp only [e, gb_lt_d, gb_gd_t, gb_rd_s, gb_bd_s, gb_I_mk, gb_L_mk, gb_sI_mk, gb_sL_mk, gk3, gr3_0, gr3_1, hk]
    rw [if_neg gb_n10]
    cases g : g_num c n 1 (gt_n c n s) with
    | none =>
      have e5 := x_num0 (J := J) e2 (by decide) g
      rw [show nI 1 = 1 from rfl] at e5
      refine ⟨gb_u I1 q 4 (-1), ?_, by rw [gb_u_row _ _ (by omega)]; exact e2.2.2.1, e3.fr.t (gb_fr.u hq)⟩
      simp only [e5, gb_lt_d, gb_gd_t, gb_rd_s, gb_bd_s, gb_I_mk, gb_L_mk, gb_sI_mk, gb_sL_mk, gk3, gr3_0, gr3_1, hk, gb_u_s, if_true]
    | some m =>
      obtain ⟨I2, e5, e6, e7⟩ := x_num1 (J := J) e2 (by decide) g
      rw [show nI 1 = 1 from rfl] at e5
      have hm := g_num_le g
      have f1 : gb_sf q 4 (nI m) I1 (gb_u I2 q 4 (nI m)) := e7.sf hq
      have t := x_times (J := J) (e6.u hq (k := 4) (x := nI m)) hq hk
      simp only [e5, gb_lt_d, gb_gd_t, gb_rd_s, gb_bd_s, gb_I_mk, gb_L_mk, gb_sI_mk, gb_sL_mk, gk3, gr3_0, gr3_1, hk, gb_u_s]
      rw [if_neg (gb_nmi m (by omega))]
      revert t
      cases g2 : g_num c n 3 (gt_n c n (gt_n c n s)) with
      | none =>
        rintro ⟨I3, b1, b2, b3⟩
        exact ⟨I3, b1, b2, (e3.fr.t f1.1).t b3⟩
      | some t =>
        rintro ⟨I3, b1, b2, b3, b4, b5⟩
        have := g_num_le g2
        refine ⟨I3, b1, b2, (e3.fr.t f1.1).t b3, ?_, b4, by show m ≤ 2; omega, this, fun j j1 j2 => ?_⟩
        · rw [b5 4 (by decide), f1.2.1]
          exact (if_neg (by show ¬ m = 2; omega)).symm
        · rw [b5 j j2, f1.2.2 j j1, e3.1 q (by omega)]
  · rw [if_neg a]
    simp only [x_take0 (J := J) h (show 9 < 14 by decide) a, gb_lt_d, gb_gd_t, gb_rd_s, gb_bd_s, gb_I_mk, gb_L_mk, gb_sI_mk, gb_sL_mk, gk3, gr3_0, gr3_1, hk, if_true]
    have t := x_times (J := J) h hq hk
    revert t
    cases g2 : g_num c n 3 s with
    | none =>
      rintro ⟨I3, b1, b2, b3⟩
      exact ⟨I3, b1, b2, b3⟩
    | some t =>
      rintro ⟨I3, b1, b2, b3, b4, b5⟩
      have := g_num_le g2
      exact ⟨I3, b1, b2, b3, by rw [b5 4 (by decide), h4]; rfl, b4, Nat.le_refl _, this, fun j j1 j2 => b5 j j2⟩
end READ2
