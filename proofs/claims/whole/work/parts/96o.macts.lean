section MACTS2
variable {I I' I1 I2 : gb_FI} {J J' J1 J2 : gb_FJ} {p : gb_P} {o a room m : Nat}
theorem gsv_p (ok : gb_pOK p) (h : p.2.2.2.1 ≠ 0) : gsv (p.2.2.2.1 - 1) 1 = gb_st' p ∧ gsv (p.2.2.2.1 - 1) 0 = gb_go' p ∧ (if p.2.2.2.1 - 1 = 2 then 1 else 0) = gb_ro' p := by
  have k3 := ok.2.2.2.1
  unfold gsv gb_st' gb_go' gb_ro'
  generalize p.2.2.2.1 = k at *
  match k, k3 with
  | 0, _ => exact absurd rfl h
  | 1, _ => exact ⟨rfl, rfl, rfl⟩
  | 2, _ => exact ⟨rfl, rfl, rfl⟩
  | 3, _ => exact ⟨rfl, rfl, rfl⟩
/-- what acts leaves -/
def gm_ac (p : gb_P) (m : Nat) (I I' : gb_FI) (J J' : gb_FJ) : Prop := ∃ oth, oth < 16 ∧ I' 241 25 = nI oth ∧ (∀ x k, ¬ (x = 241 ∧ k = 25) → I' x k = I x k) ∧ (∀ x, x ≠ 254 → x ≠ 255 → J' x = J x) ∧ ∀ (X : gb_q) (F : Nat → gb_q), q4 (qmul X (pq J' 254)) (F (m + 1)) + q4 (qmul X (pq J' 255)) (F (oth + 1)) = q4 X (qL (gb_tb p 2 (m + 1)) (fun e => qM (lN e.1) e.2.1 e.2.2.1 (F e.2.2.2)))
theorem gm_two {oth : Nat} {S G : gb_q} {f1 f2 r t1 t2 m : Nat} (hr : r ≤ 1) (hS : S = gcf (lN f1) r t1) (hG : G = gcf (lN f2) r t2) (X : gb_q) (F : Nat → gb_q) : q4 (qmul X S) (F (m + 1)) + q4 (qmul X G) (F (oth + 1)) = q4 X (qL [(f1, r, t1, m + 1), (f2, r, t2, oth + 1)] (fun e => qM (lN e.1) e.2.1 e.2.2.1 (F e.2.2.2))) := by
  rw [hS, hG, gcf_F _ _ _ hr, gcf_F _ _ _ hr]
  show _ = q4 X (qA (qM (lN f1) r t1 (F (m + 1))) (qA (qM (lN f2) r t2 (F (oth + 1))) qZ))
  rw [q4_A, q4_A, q4_Z]
  grind
theorem gm_one {oth : Nat} {S : gb_q} {f r t m : Nat} (hr : r ≤ 1) (hS : S = gcf (lN f) r t) (X : gb_q) (F : Nat → gb_q) : q4 (qmul X S) (F (m + 1)) + q4 (qmul X qZ) (F (oth + 1)) = q4 X (qL [(f, r, t, m + 1)] (fun e => qM (lN e.1) e.2.1 e.2.2.1 (F e.2.2.2))) := by
  rw [hS, gcf_F _ _ _ hr, qmul_Z]
  show _ = q4 X (qA (qM (lN f) r t (F (m + 1))) qZ)
  rw [q4_A, q4_Z]
theorem gm_swp {oth : Nat} {S : gb_q} {f r t m : Nat} (hr : r ≤ 1) (hS : S = gcf (lN f) r t) (X : gb_q) (F : Nat → gb_q) : q4 (qmul X qZ) (F (m + 1)) + q4 (qmul X S) (F (oth + 1)) = q4 X (qL [(f, r, t, oth + 1)] (fun e => qM (lN e.1) e.2.1 e.2.2.1 (F e.2.2.2))) := by
  rw [hS, gcf_F _ _ _ hr, qmul_Z]
  show _ = q4 X (qA (qM (lN f) r t (F (oth + 1))) qZ)
  rw [q4_A, q4_Z]
  grind
theorem gb_tb_no (hm : m < 16) (h : ¬ gb_hit p (m / 2) = true) : gb_tb p 2 (m + 1) = [(gb_ba p, 0, 0, m + 1)] := by
  unfold gb_tb
  rw [if_neg (by omega), show m + 1 - 1 = m by omega, if_neg (fun w => h w.2)]
theorem gb_tb_yes (hm : m < 16) (h : gb_hit p (m / 2) = true) : gb_tb p 2 (m + 1) = gb_hl p (m / 2) (m % 2) := by
  unfold gb_tb
  rw [if_neg (by omega), show m + 1 - 1 = m by omega, if_pos ⟨by omega, h⟩]
theorem gb_md : ∀ m, m < 16 → nI m / 2 = nI (m / 2) ∧ nI m - nI m / 2 * 2 = nI (m % 2) ∧ nI m ^^^ 1 = nI (2 * (m / 2) + (1 - m % 2)) := by decide
end MACTS2
