section LINK2
variable {p : gb_P} {g w j s x : Nat} {F : Nat → gb_q}
theorem gw_B_k (ok : gb_pOK p) (g3 : g ≤ 3) : gw_B p g (fun v => F (gw_k g v)) g w = gG (gb_tb p 2) F (gw_k g w) := by
  have b : ∀ g w j, gw_m g w j + 1 < 17 := fun g w j => by have := gw_m_b (g := g) (w := w) (j := j); omega
  match g, g3 with
  | 0, _ =>
    show F (gb_ky 0 0 0) = gG (gb_tb p 2) F (gb_ky 0 0 0)
    rw [gG_ky (by decide) (by decide) (by decide), ← gb_A3, gb_A_0, gb_A_0, gb_A_0]
  | 1, _ =>
    show gb_A (gb_tb p 2 (gw_m 1 w 0 + 1)) (fun s => F (gb_ky 0 0 (gw_m 1 (gw_s 1 w 0 s) 0 + 1))) = gG (gb_tb p 2) F (gb_ky 0 0 (gw_m 1 w 0 + 1))
    rw [gG_ky (by decide) (by decide) (b 1 w 0), ← gb_A3, gb_A_0, gb_A_0]
    refine gb_A_congr (fun e he => ?_)
    obtain ⟨t1, t2⟩ := gb_tb_1 ok (by omega) (b 1 w 0) e he
    rw [gw_ms (by decide) (by decide) (by decide) t1 t2, if_pos rfl, show e.2.2.2 - 1 + 1 = e.2.2.2 by omega]
  | 2, _ =>
    show gb_A (gb_tb p 2 (gw_m 2 w 0 + 1)) (fun s => gb_A (gb_tb p 2 (gw_m 2 (gw_s 2 w 0 s) 1 + 1)) (fun t => F (gb_ky 0 (gw_m 2 (gw_s 2 (gw_s 2 w 0 s) 1 t) 0 + 1) (gw_m 2 (gw_s 2 (gw_s 2 w 0 s) 1 t) 1 + 1)))) = gG (gb_tb p 2) F (gb_ky 0 (gw_m 2 w 0 + 1) (gw_m 2 w 1 + 1))
    rw [gG_ky (by decide) (b 2 w 0) (b 2 w 1), ← gb_A3, gb_A_0]
    refine gb_A_congr (fun e he => ?_)
    obtain ⟨t1, t2⟩ := gb_tb_1 ok (by omega) (b 2 w 0) e he
    rw [gw_ms (i := 1) (by decide) (by decide) (by decide) t1 t2, if_neg (by decide)]
    refine gb_A_congr (fun f hf => ?_)
    obtain ⟨u1, u2⟩ := gb_tb_1 ok (by omega) (b 2 w 1) f hf
    rw [gw_ms (i := 0) (j := 1) (by decide) (by decide) (by decide) u1 u2, gw_ms (i := 1) (j := 1) (by decide) (by decide) (by decide) u1 u2, if_neg (by decide), if_pos rfl, gw_ms (i := 0) (by decide) (by decide) (by decide) t1 t2, if_pos rfl, show e.2.2.2 - 1 + 1 = e.2.2.2 by omega, show f.2.2.2 - 1 + 1 = f.2.2.2 by omega]
  | 3, _ =>
    show gb_A (gb_tb p 2 (gw_m 3 w 0 + 1)) (fun s => gb_A (gb_tb p 2 (gw_m 3 (gw_s 3 w 0 s) 1 + 1)) (fun t => gb_A (gb_tb p 2 (gw_m 3 (gw_s 3 (gw_s 3 w 0 s) 1 t) 2 + 1)) (fun u => F (gb_ky (gw_m 3 (gw_s 3 (gw_s 3 (gw_s 3 w 0 s) 1 t) 2 u) 0 + 1) (gw_m 3 (gw_s 3 (gw_s 3 (gw_s 3 w 0 s) 1 t) 2 u) 1 + 1) (gw_m 3 (gw_s 3 (gw_s 3 (gw_s 3 w 0 s) 1 t) 2 u) 2 + 1))))) = gG (gb_tb p 2) F (gb_ky (gw_m 3 w 0 + 1) (gw_m 3 w 1 + 1) (gw_m 3 w 2 + 1))
    rw [gG_ky (b 3 w 0) (b 3 w 1) (b 3 w 2), ← gb_A3]
    refine gb_A_congr (fun e he => ?_)
    obtain ⟨t1, t2⟩ := gb_tb_1 ok (by omega) (b 3 w 0) e he
    rw [gw_ms (i := 1) (by decide) (by decide) (by decide) t1 t2, if_neg (by decide)]
    refine gb_A_congr (fun f hf => ?_)
    obtain ⟨u1, u2⟩ := gb_tb_1 ok (by omega) (b 3 w 1) f hf
    rw [gw_ms (i := 2) (j := 1) (by decide) (by decide) (by decide) u1 u2, if_neg (by decide), gw_ms (i := 2) (j := 0) (by decide) (by decide) (by decide) t1 t2, if_neg (by decide)]
    refine gb_A_congr (fun h hh => ?_)
    obtain ⟨v1, v2⟩ := gb_tb_1 ok (by omega) (b 3 w 2) h hh
    rw [gw_ms (i := 0) (j := 2) (by decide) (by decide) (by decide) v1 v2, gw_ms (i := 1) (j := 2) (by decide) (by decide) (by decide) v1 v2, gw_ms (i := 2) (j := 2) (by decide) (by decide) (by decide) v1 v2, if_neg (show ¬ (0 : Nat) = 2 by decide), if_neg (show ¬ (1 : Nat) = 2 by decide), if_pos (show (2 : Nat) = 2 from rfl), gw_ms (i := 0) (j := 1) (by decide) (by decide) (by decide) u1 u2, gw_ms (i := 1) (j := 1) (by decide) (by decide) (by decide) u1 u2, if_neg (show ¬ (0 : Nat) = 1 by decide), if_pos (show (1 : Nat) = 1 from rfl), gw_ms (i := 0) (j := 0) (by decide) (by decide) (by decide) t1 t2, if_pos (show (0 : Nat) = 0 from rfl), show e.2.2.2 - 1 + 1 = e.2.2.2 by omega, show f.2.2.2 - 1 + 1 = f.2.2.2 by omega, show h.2.2.2 - 1 + 1 = h.2.2.2 by omega]
/-- class and reference make the same of a functional -/
theorem gw_op_k (ok : gb_pOK p) (g3 : g ≤ 3) : gw_op p g (fun v => F (gw_k g v)) w = gb_op p F (gw_k g w) := by
  unfold gw_op gb_op
  rw [gw_ac_k ok g3, gw_B_k ok g3, gb_id_k g3]
  rfl
end LINK2
