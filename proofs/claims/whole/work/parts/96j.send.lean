section SEND
variable {I I' I1 I2 : gb_FI} {J J' J1 J2 : gb_FJ} {o n op o' n' q : Nat} {kl : List Nat} {p : gb_P}
theorem gb_hl_bk (ok : gb_pOK p) {x m : Nat} (hx : x < 5) (hm : m < 2) : gb_bk (gb_hl p x m) := by
  obtain ⟨b0, b1, b2, b3, b4, b5, b6, b7, b8⟩ := ok
  have s5 : gb_st' p ≤ 5 := by unfold gb_st'; split; omega; split <;> omega
  have g5 : gb_go' p ≤ 5 := by unfold gb_go'; split; omega; split <;> omega
  have r1 : gb_ro' p ≤ 1 := by unfold gb_ro'; split <;> omega
  have oo : gb_oth p x < 5 := by unfold gb_oth; split <;> omega
  unfold gb_hl gb_bk
  intro e he
  split at he
  · rcases List.mem_cons.mp he with w | w
    · subst w; exact ⟨s5, r1, by show 0 ≤ 3; omega, by show 2 * x + m + 1 < 17; omega⟩
    · rw [List.mem_singleton.mp w]; exact ⟨g5, r1, by show 1 ≤ 3; omega, by show 2 * gb_oth p x + m + 1 < 17; omega⟩
  · split at he
    · rcases List.mem_cons.mp he with w | w
      · subst w; exact ⟨s5, r1, by show 0 ≤ 3; omega, by show 2 * x + m + 1 < 17; omega⟩
      · rw [List.mem_singleton.mp w]; exact ⟨g5, r1, by show 2 * m ≤ 3; omega, by show 2 * x + (1 - m) + 1 < 17; omega⟩
    · split at he
      · rw [List.mem_singleton.mp he]
        refine ⟨by show 1 ≤ 5; omega, by show 0 ≤ 1; omega, ?_, by show 2 * x + m + 1 < 17; omega⟩
        show (if p.2.2.2.2.1 = 2 ∨ p.2.2.2.2.1 = m then p.2.2.2.2.2.1 else 0) ≤ 3
        split <;> omega
      · split at he
        · rw [List.mem_singleton.mp he]; exact ⟨by show 1 ≤ 5; omega, by show 0 ≤ 1; omega, by show 0 ≤ 3; omega, by show 2 * gb_oth p x + m + 1 < 17; omega⟩
        · rcases List.mem_cons.mp he with w | w
          · subst w; exact ⟨s5, r1, by show 0 ≤ 3; omega, by show 2 * x + m + 1 < 17; omega⟩
          · rw [List.mem_singleton.mp w]; exact ⟨g5, r1, by show 1 ≤ 3; omega, by show 2 * (5 + p.2.2.2.2.2.2.2.2) + m + 1 < 17; omega⟩
theorem gb_tb_bk (ok : gb_pOK p) {s : Nat} (hs : s < 17) : gb_bk (gb_tb p 2 s) := by
  unfold gb_tb
  by_cases a : s = 0
  · rw [if_pos a]
    intro e he
    rw [List.mem_singleton.mp he]
    exact ⟨by show 1 ≤ 5; omega, by show 0 ≤ 1; omega, by show 0 ≤ 3; omega, by show 0 < 17; omega⟩
  · rw [if_neg a]
    split
    · rename_i w
      refine gb_hl_bk ok ?_ (by omega)
      obtain ⟨b0, b1, b2, b3, b4, b5, b6, b7, b8⟩ := ok
      have := gb_hit_t.mp w.2
      omega
    · intro e he
      rw [List.mem_singleton.mp he]
      exact ⟨(gb_ba_b p).2, by show 0 ≤ 1; omega, by show 0 ≤ 3; omega, hs⟩
/-- what a part makes of a functional -/
def gb_id (p : gb_P) (k : Nat) : Int64 := (if k % 32 = 0 then 1 else lN (gb_ba p)) * (if k / 32 % 32 = 0 then 1 else lN (gb_ba p)) * (if k / 1024 = 0 then 1 else lN (gb_ba p))
def gb_op (p : gb_P) (F : Nat → gb_q) (k : Nat) : gb_q := if gb_ac p k = true then gG (gb_tb p 2) F k else qM (gb_id p k) 0 0 (F k)
theorem gG_qZ (X : gb_q) (h : X = qZ) (F : gb_q) : q4 X F = 0 := by rw [h, q4_Z']
theorem gb_fB.eq4 (f : gb_fB o' I I1 J J1) (h : o + 6 < o' ∨ o' + 6 < o) (x : Nat) : gq J1 o x = gq J o x := by
  unfold gq
  rw [(f (o + 3) (by omega)).2, (f (o + 4) (by omega)).2, (f (o + 5) (by omega)).2, (f (o + 6) (by omega)).2]
theorem x_send {kl' : List Nat} (hB : gb_BM o n) (hB' : gb_BM o' n') (hO : gb_OP op) (hop : op + 5 < o') (hoo : o + 6 < o' ∨ o' + 6 < o) (hq : ∀ (I : gb_FI) (J : gb_FJ), gb_k (gb_mk I J) q 5 = true) (hqo : q < o' ∨ o' + 6 < q) (hp : xP (I q) p) (ok : gb_pOK p) (h : xBl I J o n kl) (h' : xBl I J o' n' kl')
    (ht : ∀ s, s < 17 → xOs I op s (gb_tb p 2 s)) (hkp : ∀ k ∈ kl, gb_kp k < n' ∧ ∀ ex ∈ gb_tb p 2 (k % 32), ∀ ey ∈ gb_tb p 2 (k / 32 % 32), ∀ ez ∈ gb_tb p 2 (k / 1024), gb_kp (gb_ky ex.2.2.2 ey.2.2.2 ez.2.2.2) < n') :
    ∃ I2 J2 kl2, fnX0_send o q op o' (gb_mk I J) = some ((), gb_mk I2 J2) ∧ xBl I2 J2 o' n' kl2 ∧ gb_fB o' I I2 J J2 ∧ ∀ F, bP kl2 (gq J2 o') F = bP kl (gq J o) (gb_op p F) := by
  have hlen := h.len
  have hn := hB.1
  obtain ⟨I0, J0, w1, w2, w3⟩ := x_wipe (I := I) (J := J) hB' h'
  have k0 : ∀ (I : gb_FI) (J : gb_FJ), gb_k (gb_mk I J) o 0 = true := fun I J => (hB.2 I J).1
  have k0' : ∀ (I : gb_FI) (J : gb_FJ), gb_k (gb_mk I J) o' 0 = true := fun I J => (hB'.2 I J).1
  have r0 : ∀ (I : gb_FI) (J : gb_FJ), gb_R (gb_mk I J) o 0 = some (o + 1) := fun I J => (hB.2 I J).2.1
  have d1 : ∀ (I : gb_FI) (J : gb_FJ), gb_kd (gb_mk I J) (o + 1) = (20, n) := fun I J => (hB.2 I J).2.2.2.2.2.2.2.1
  have kk1 : ∀ (I : gb_FI) (J : gb_FJ), gb_k (gb_mk I J) (o + 1) 20 = true := fun I J => by simp [gb_k, d1]
  obtain ⟨ha, hb, hc, hd⟩ := h
  have lp : ∀ m j F (I1 : gb_FI) (J1 : gb_FJ) (kl1 : List Nat), j + m = kl.length → m < F → xBl I1 J1 o' n' kl1 → gb_fB o' I I1 J J1 →
      ∃ I2 J2 kl2, lpX0_send_7 F o q op o' (nI j) (gb_mk I1 J1) = some ((), gb_mk I2 J2) ∧ xBl I2 J2 o' n' kl2 ∧ gb_fB o' I I2 J J2 ∧ ∀ F, bP kl2 (gq J2 o') F = bP kl1 (gq J1 o') F + bP (kl.drop j) (gq J o) (gb_op p F) := by
    intro m
    induction m with
    | zero =>
      intro j F I1 J1 kl1 hj hF h1 f1
      obtain ⟨F, rfl⟩ : ∃ f, F = f + 1 := ⟨F - 1, by omega⟩
      have e6 : I1 o 6 = nI kl.length := by rw [(f1 o (by omega)).1]; exact ha
      refine ⟨I1, J1, kl1, ?_, h1, f1, fun F => ?_⟩
      · rw [show lpX0_send_7 (F + 1) o q op o' (nI j) (gb_mk I1 J1) = fbX0_send_7 (fun v0 v1 v2 v3 v4 h => lpX0_send_7 F v0 v1 v2 v3 v4 h) o q op o' (nI j) (gb_mk I1 J1) from rfl]
        unfold fbX0_send_7
        rw [k0, gb_gd_t, if_pos (show gb_I (gb_mk I1 J1) o 6 ≤ nI j by rw [gb_I_mk, e6]; exact nI_le (by omega) (by omega))]
      · rw [List.drop_eq_nil_of_le (by omega)]
        show bP kl1 (gq J1 o') F = bP kl1 (gq J1 o') F + 0
        grind
    | succ m ih =>
      intro j F I1 J1 kl1 hj hF h1 f1
      obtain ⟨F, rfl⟩ : ∃ f, F = f + 1 := ⟨F - 1, by omega⟩
      have e6 : I1 o 6 = nI kl.length := by rw [(f1 o (by omega)).1]; exact ha
      have jl : j < kl.length := by omega
      have gk : kl[j]? = some (kl[j]) := List.getElem?_eq_getElem jl
      generalize kl[j] = k at gk
      have mk := List.mem_of_getElem? gk
      obtain ⟨b1, b2, b3, b4⟩ := hb j k gk
      obtain ⟨c1, c2⟩ := hkp k mk
      have e1 : I1 (o + 1) j = nI k := by rw [(f1 (o + 1) (by omega)).1]; exact b1
      have i1 : ∀ (I : gb_FI) (J : gb_FJ), gb_in (gb_mk I J) (o + 1) (nI j) = true := fun I J => gb_in_k (by rw [d1]) (by omega) (by omega)
      have hp1 : xP (I1 q) p := hp.keep (f1 q hqo).1
      have gJ : gq J1 o (gb_kp k) = gq J o (gb_kp k) := f1.eq4 hoo _
      have iz := x_isZero (I := I1) (J := J1) hB b3
      have nx : ∀ (I2 : gb_FI) (J2 : gb_FJ) (kl2 : List Nat), xBl I2 J2 o' n' kl2 → gb_fB o' I I2 J J2 → (∀ F, bP kl2 (gq J2 o') F = bP kl1 (gq J1 o') F + q4 (gq J o (gb_kp k)) (gb_op p F k)) → ∃ I3 J3 kl3, fbX0_send_84 (fun v0 v1 v2 v3 v4 h => lpX0_send_7 F v0 v1 v2 v3 v4 h) o q op o' (nI j) (gb_mk I2 J2) = some ((), gb_mk I3 J3) ∧ xBl I3 J3 o' n' kl3 ∧ gb_fB o' I I3 J J3 ∧ ∀ F, bP kl3 (gq J3 o') F = bP kl1 (gq J1 o') F + bP (kl.drop j) (gq J o) (gb_op p F) := by
        intro I2 J2 kl2 h2 f2 s2
        obtain ⟨I3, J3, kl3, u1, u2, u3, u4⟩ := ih (j + 1) F I2 J2 kl2 (by omega) (by omega) h2 f2
        refine ⟨I3, J3, kl3, ?_, u2, u3, fun F => ?_⟩
        · unfold fbX0_send_84
          rw [gb_lt_d, nI_1]
          exact u1
        · rw [u4 F, s2 F, gb_drop gk]
          show _ = _ + (q4 (gq J o (gb_kp k)) (gb_op p F k) + bP (kl.drop (j + 1)) (gq J o) (gb_op p F))
          grind
      rw [show lpX0_send_7 (F + 1) o q op o' (nI j) (gb_mk I1 J1) = fbX0_send_7 (fun v0 v1 v2 v3 v4 h => lpX0_send_7 F v0 v1 v2 v3 v4 h) o q op o' (nI j) (gb_mk I1 J1) from rfl]
      unfold fbX0_send_7
      rw [k0, gb_gd_t, if_neg (show ¬ gb_I (gb_mk I1 J1) o 6 ≤ nI j by rw [gb_I_mk, e6]; exact nI_ge jl (by omega)), gb_gd_t, r0, gb_rd_s, kk1, gb_gd_t, i1, gb_gd_t, gb_lt_d, gb_I_mk, nI_clamp (by omega), e1, x_place b2, gb_bd_s, k0, gb_gd_t, iz, gb_bd_s]
      by_cases z : gq J1 o (gb_kp k) = qZ
      · rw [if_pos z, if_neg gb_n10]
        exact nx I1 J1 kl1 h1 f1 (fun F => by rw [← gJ, z, q4_Z']; grind)
      · rw [if_neg z, if_pos (show (0 : Int32) = 0 from rfl), hq, gb_gd_t, x_actsOn hq hp1 ok b2, gb_bd_s]
        by_cases ac : gb_ac p k = true
        · rw [if_pos ac, if_neg gb_n10, k0, gb_gd_t]
          obtain ⟨I2, J2, kl2, s1, s2, s3, s4⟩ := x_spread (tb := gb_tb p 2) (I := I1) (J := J1) hB hB' hO hop hoo b2 b3 (fun s hs => ⟨by
            have x := ht s hs
            unfold xOs at x ⊢
            rw [(f1 (op + 1) (by omega)).1, (f1 (op + 2) (by omega)).1, (f1 (op + 3) (by omega)).1, (f1 (op + 4) (by omega)).1, (f1 (op + 5) (by omega)).1]
            exact x, gb_tb_bk ok hs⟩) c2 h1
          rw [s1, gb_bd_s]
          exact nx I2 J2 kl2 s2 (f1.t s3) (fun F => by rw [s4 F, gJ]; unfold gb_op; rw [if_pos ac])
        · have bs := x_base (J := J1) hq hp1 ok
          have b5 := (gb_ba_b p).2
          rw [if_neg ac, if_pos (show (0 : Int32) = 0 from rfl), hq, gb_gd_t, bs, gb_bd_s, x_idle b2 (by omega), gb_bd_s, k0', gb_gd_t]
          obtain ⟨I2, J2, kl2, s1, s2, s3, s4⟩ := x_add (k := k) hB' h1 b2 c1 (gy (gq J1 o (gb_kp k)) (gb_id p k) 0 0)
          have sc := x_addScaled (I := I1) (J := J1) (k := k) (p := gb_kp k) (r := 0) (t := 0) hB hB' b2 b3 (by decide) (by decide) (gb_id p k)
          rw [show fnX0_addScaled o' (nI k) ((if k % 32 = 0 then 1 else lN (gb_ba p)) * (if k / 32 % 32 = 0 then 1 else lN (gb_ba p)) * (if k / 1024 = 0 then 1 else lN (gb_ba p))) 0 0 o (nI (gb_kp k)) (gb_mk I1 J1) = _ from sc.trans s1, gb_bd_s]
          exact nx I2 J2 kl2 s2 (f1.t s3) (fun F => by rw [s4 F, gy_F _ _ _ (by decide), gJ]; unfold gb_op; rw [if_neg ac])
  obtain ⟨I2, J2, kl2, a1, a2, a3, a4⟩ := lp kl.length 0 gb_FU I0 J0 [] (by omega) (show kl.length < 1000000 by omega) w2 w3
  refine ⟨I2, J2, kl2, ?_, a2, a3, fun F => ?_⟩
  · unfold fnX0_send
    rw [k0', gb_gd_t, w1, gb_bd_s]
    exact a1
  · rw [a4 F, List.drop_zero]
    show 0 + _ = _
    grind
end SEND
