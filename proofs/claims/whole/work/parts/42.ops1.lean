section OPS1
variable {cOK : gb_CP} {S : gb_S} {I I' : gb_FI} {J J' : gb_FJ}
theorem xB.keep {bn : Nat → List gb_P} (h : xB I bn) (f : ∀ n, 24 ≤ n → n < 116 → (∀ b, b < 4 → ¬ (42 + 23 * b ≤ n ∧ n ≤ 46 + 23 * b)) → I' n = I n) : xB I' bn := by
  intro b hb
  obtain ⟨q1, q2, q3⟩ := h b hb
  refine ⟨q1, by rw [f (24 + 23 * b) (by omega) (by omega) (fun c hc => by omega)]; exact q2, fun i p hp => ?_⟩
  have hi : i < (bn b).length := (List.getElem?_eq_some_iff.mp hp).1
  rw [f (26 + 23 * b + i) (by omega) (by omega) (fun c hc => by omega)]
  exact q3 i p hp
theorem xS.keep {sh : List gb_P} (h : xS I sh) (f : ∀ n, 116 ≤ n → n < 126 → I' n = I n) : xS I' sh := by
  obtain ⟨q1, q2, q3⟩ := h
  refine ⟨q1, by rw [f 116 (by omega) (by omega)]; exact q2, fun i p hp => ?_⟩
  have hi : i < sh.length := (List.getElem?_eq_some_iff.mp hp).1
  rw [f (118 + i) (by omega) (by omega)]
  exact q3 i p hp
theorem xC.keep {gs : List Nat} {bn : Nat → List gb_P} (h : xC cOK I J gs bn) (f : ∀ n, 42 ≤ n → n < 116 → I' n = I n) (fJ : ∀ n, 42 ≤ n → n < 116 → J' n = J n) : xC cOK I' J' gs bn := by
  intro b hb
  rw [f (42 + 23 * b) (by omega) (by omega), fJ (42 + 23 * b) (by omega) (by omega), fJ (43 + 23 * b) (by omega) (by omega), fJ (44 + 23 * b) (by omega) (by omega), fJ (45 + 23 * b) (by omega) (by omega), fJ (46 + 23 * b) (by omega) (by omega)]
  exact h b hb
theorem xC.zero {gs : List Nat} {bn : Nat → List gb_P} (h : ∀ b, b < 4 → I (42 + 23 * b) 6 = 0) : xC cOK I J gs bn := fun b hb => Or.inl (h b hb)
theorem xW.keep (h : xW I J) (f : ∀ n, 196 ≤ n → n < 238 → I' n = I n ∧ J' n = J n) : xW I' J' := by
  intro q hq
  have hl : 196 ≤ q.1 ∧ q.1 ≤ 231 := by
    have : ∀ q ∈ gb_beams, 196 ≤ q.1 ∧ q.1 ≤ 231 := by decide
    exact this q hq
  rw [(f q.1 (by omega) (by omega)).1, (f (q.1 + 1) (by omega) (by omega)).1, (f (q.1 + 2) (by omega) (by omega)).1, (f (q.1 + 3) (by omega) (by omega)).2, (f (q.1 + 4) (by omega) (by omega)).2, (f (q.1 + 5) (by omega) (by omega)).2, (f (q.1 + 6) (by omega) (by omega)).2]
  exact h q hq
/-- setters of the state -/
def sG (S : gb_S) (g : List Nat) : gb_S := (g, S.2)
def sSt (S : gb_S) (v : Int32) : gb_S := (S.1, v, S.2.2)
def sT (S : gb_S) (b : List Nat) : gb_S := (S.1, S.2.1, b, S.2.2.2)
def sF (S : gb_S) (v : Int32) : gb_S := (S.1, S.2.1, S.2.2.1, v, S.2.2.2.2)
def sB (S : gb_S) (b : Nat → List gb_P) : gb_S := (S.1, S.2.1, S.2.2.1, S.2.2.2.1, b, S.2.2.2.2.2)
def sH (S : gb_S) (b : List gb_P) : gb_S := (S.1, S.2.1, S.2.2.1, S.2.2.2.1, S.2.2.2.2.1, b, S.2.2.2.2.2.2)
def sD (S : gb_S) (d : Nat → Nat) : gb_S := (S.1, S.2.1, S.2.2.1, S.2.2.2.1, S.2.2.2.2.1, S.2.2.2.2.2.1, d, S.2.2.2.2.2.2.2)
def sR (S : gb_S) (d : List (Nat × Nat × Nat)) : gb_S := (S.1, S.2.1, S.2.2.1, S.2.2.2.1, S.2.2.2.2.1, S.2.2.2.2.2.1, S.2.2.2.2.2.2.1, d, S.2.2.2.2.2.2.2.2)
def sPl (S : gb_S) (d : Option (List Nat × Int64 × Int64 × Int64)) : gb_S := (S.1, S.2.1, S.2.2.1, S.2.2.2.1, S.2.2.2.2.1, S.2.2.2.2.2.1, S.2.2.2.2.2.2.1, S.2.2.2.2.2.2.2.1, d)
def xok {α : Type} (cOK : gb_CP) (f : gb_H → Option (α × gb_H)) (I : gb_FI) (J : gb_FJ) (a : α × gb_S) : Prop := ∃ I' J', f (gb_mk I J) = some (a.1, gb_mk I' J') ∧ RX cOK a.2 I' J' ∧ gb_fx I I' J J'
def mok {α : Type} (f : gb_H → Option (α × gb_H)) (I : gb_FI) (J : gb_FJ) (a : α × gb_S) : Prop := ∃ I' J', f (gb_mk I J) = some (a.1, gb_mk I' J') ∧ RM a.2 I' J' ∧ gb_fm I I' J J'
theorem gb_fx.u {n k : Nat} {x : Int32} (h : n < 241) (f : gb_fx I I' J J') : gb_fx I (gb_u I' n k x) J J' := fun a ha => ⟨(gb_u_row _ _ (by omega)).trans (f a ha).1, (f a ha).2⟩
theorem gb_fx.r : gb_fx I I J J := fun _ _ => ⟨rfl, rfl⟩
theorem gb_fm.u {n k : Nat} {x : Int32} (h : 241 ≤ n) (f : gb_fm I I' J J') : gb_fm I (gb_u I' n k x) J J' := fun a ha => ⟨(gb_u_row _ _ (by omega)).trans (f a ha).1, (f a ha).2⟩
theorem gb_fm.r : gb_fm I I J J := fun _ _ => ⟨rfl, rfl⟩
theorem gb_fx.fg (f : gb_fx I I' J J') : gb_fx I (gb_fg I') J J' := ((((f.u (by decide)).u (by decide)).u (by decide)).u (by decide))
/-- the status alone -/
theorem RX.st (h : RX cOK S I J) (v : Int32) : RX cOK (sSt S v) (gb_u I 0 15 v) J := by
  obtain ⟨h1, h2, h3, h4, h5, h6, h7, h8, h9, h10, h11⟩ := h
  have r : ∀ n, n ≠ 0 → gb_u I 0 15 v n = I n := fun n hn => gb_u_row _ _ hn
  refine ⟨?_, gb_u_s _ _ _ _, ?_, ?_, h5.keep (fun n _ _ _ => r n (by omega)), h6.keep (fun n _ _ => r n (by omega)), ?_, ?_, ?_, h10.keep (fun n _ _ => r n (by omega)) (fun _ _ _ => rfl), h11.keep (fun n _ _ => ⟨r n (by omega), rfl⟩)⟩
  · rw [gb_u_nk _ _ (by decide), r 239 (by decide)]; exact h1
  · rw [r 1 (by decide), r 2 (by decide)]; exact h3
  · rw [gb_u_nk _ _ (by decide)]; exact h4
  · rw [r 240 (by decide)]; exact h7
  · rw [r 126 (by decide), r 127 (by decide), r 128 (by decide), r 129 (by decide)]; exact h8
  · rw [r 139 (by decide), r 145 (by decide)]; exact h9
theorem RM.st (h : RM S I J) (v : Int32) : RM (sSt S v) (gb_u I 241 0 v) J := by
  obtain ⟨h1, h2, h3, h4, h5, h6, h7, h8, h9⟩ := h
  have r : ∀ n, n ≠ 241 → gb_u I 241 0 v n = I n := fun n hn => gb_u_row _ _ hn
  refine ⟨?_, gb_u_s _ _ _ _, ?_, ?_, ?_, ?_, ?_, ?_, ?_⟩
  · rw [gb_u_nk _ _ (by decide), r 242 (by decide)]; exact h1
  · rw [gb_u_nk _ _ (by decide), r 248 (by decide)]; exact h3
  · rw [gb_u_nk _ _ (by decide)]; exact h4
  · rw [r 244 (by decide), r 243 (by decide)]; exact h5
  · rw [gb_u_nk _ _ (by decide), r 245 (by decide)]; exact h6
  · rw [r 260 (by decide)]; exact h7
  · rw [gb_u_nk _ _ (by decide), r 261 (by decide), r 262 (by decide), r 263 (by decide)]; exact h8
  · rw [gb_u_nk _ _ (by decide), r 268 (by decide), r 267 (by decide)]; exact h9
/-! fault, status -/
theorem X_fault (h : RX cOK S I J) : xok cOK (fnX10_fault 0) I J (S.2.2.2.1, S) := ⟨I, J, by simp only [fnX10_fault, gb_lt_d, gb_gd_t, gb_rd_s, gb_bd_s, gb_I_mk, gb_L_mk, gb_sI_mk, gb_sL_mk, gk0, gr0_0, gr0_1, gr0_2, gr0_3, gr0_4, gr0_5, gr0_6, gr0_7, gr0_8, gr0_9, gr0_10, gr0_11, gr0_12]; rw [h.2.2.2.1], h, gb_fx.r⟩
theorem M_fault (h : RM S I J) : mok (fnX11_fault 241) I J (S.2.2.2.1, S) := ⟨I, J, by simp only [fnX11_fault, gb_lt_d, gb_gd_t, gb_rd_s, gb_bd_s, gb_I_mk, gb_L_mk, gb_sI_mk, gb_sL_mk, gk241, gk242, gk243, gk244, gk245, gk246, gk247, gk248, gk249, gk250, gk251, gk252, gk253, gk254, gk255, gk256, gk257, gk258, gk259, gk260, gk261, gk262, gk263, gk264, gk265, gk266, gk267, gk268, gr241_2, gr241_3, gr241_4, gr241_5, gr241_7, gr241_8, gr241_11, gr241_12, gr241_13, gr241_20, gr241_21, gr241_22, gr241_26, gr241_27, gr241_28, gr241_29, gr241_31, gr241_32, gr241_33, gr241_38, gr241_39, gr241_40, gr241_41, gr241_42, gr241_43, gr241_44, gr241_45]; rw [h.2.2.2.1], h, gb_fm.r⟩
theorem X_status (h : RX cOK S I J) : xok cOK (fnX10_status 0) I J (S.2.1, S) := ⟨I, J, by simp only [fnX10_status, gb_lt_d, gb_gd_t, gb_rd_s, gb_bd_s, gb_I_mk, gb_L_mk, gb_sI_mk, gb_sL_mk, gk0, gr0_0, gr0_1, gr0_2, gr0_3, gr0_4, gr0_5, gr0_6, gr0_7, gr0_8, gr0_9, gr0_10, gr0_11, gr0_12]; rw [h.2.1], h, gb_fx.r⟩
theorem M_status (h : RM S I J) : mok (fnX11_status 241) I J (S.2.1, S) := ⟨I, J, by simp only [fnX11_status, gb_lt_d, gb_gd_t, gb_rd_s, gb_bd_s, gb_I_mk, gb_L_mk, gb_sI_mk, gb_sL_mk, gk241, gk242, gk243, gk244, gk245, gk246, gk247, gk248, gk249, gk250, gk251, gk252, gk253, gk254, gk255, gk256, gk257, gk258, gk259, gk260, gk261, gk262, gk263, gk264, gk265, gk266, gk267, gk268, gr241_2, gr241_3, gr241_4, gr241_5, gr241_7, gr241_8, gr241_11, gr241_12, gr241_13, gr241_20, gr241_21, gr241_22, gr241_26, gr241_27, gr241_28, gr241_29, gr241_31, gr241_32, gr241_33, gr241_38, gr241_39, gr241_40, gr241_41, gr241_42, gr241_43, gr241_44, gr241_45]; rw [h.2.1], h, gb_fm.r⟩
/-! dark -/
def a_dark (p t : Int32) (S : gb_S) : Int32 × gb_S := if gb_rg p 5 = true ∧ gb_rg t 10 = true then (nI (S.2.2.2.2.2.2.1 p.toNatClampNeg), sSt (sD S (fun i => if i = p.toNatClampNeg then t.toNatClampNeg else S.2.2.2.2.2.2.1 i)) 0) else (-1, sSt S (-1))
end OPS1
