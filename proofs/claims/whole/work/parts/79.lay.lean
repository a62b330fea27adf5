section LAY
variable {I I' I1 I2 : gb_FI} {J J' : gb_FJ} {q d : Nat}
theorem gx_lr {b j : Nat} (hb : b < 4) (h : j < 16) : gb_R (gb_mk I J) (25 + 23 * b) j = some (26 + 23 * b + j) := by
  match b, hb with
  | 0, _ =>
    match j, h with
    | 0, _ => exact gr25_0
    | 1, _ => exact gr25_1
    | 2, _ => exact gr25_2
    | 3, _ => exact gr25_3
    | 4, _ => exact gr25_4
    | 5, _ => exact gr25_5
    | 6, _ => exact gr25_6
    | 7, _ => exact gr25_7
    | 8, _ => exact gr25_8
    | 9, _ => exact gr25_9
    | 10, _ => exact gr25_10
    | 11, _ => exact gr25_11
    | 12, _ => exact gr25_12
    | 13, _ => exact gr25_13
    | 14, _ => exact gr25_14
    | 15, _ => exact gr25_15
    | i + 16, hi => exact absurd hi (by omega)
  | 1, _ =>
    match j, h with
    | 0, _ => exact gr48_0
    | 1, _ => exact gr48_1
    | 2, _ => exact gr48_2
    | 3, _ => exact gr48_3
    | 4, _ => exact gr48_4
    | 5, _ => exact gr48_5
    | 6, _ => exact gr48_6
    | 7, _ => exact gr48_7
    | 8, _ => exact gr48_8
    | 9, _ => exact gr48_9
    | 10, _ => exact gr48_10
    | 11, _ => exact gr48_11
    | 12, _ => exact gr48_12
    | 13, _ => exact gr48_13
    | 14, _ => exact gr48_14
    | 15, _ => exact gr48_15
    | i + 16, hi => exact absurd hi (by omega)
  | 2, _ =>
    match j, h with
    | 0, _ => exact gr71_0
    | 1, _ => exact gr71_1
    | 2, _ => exact gr71_2
    | 3, _ => exact gr71_3
    | 4, _ => exact gr71_4
    | 5, _ => exact gr71_5
    | 6, _ => exact gr71_6
    | 7, _ => exact gr71_7
    | 8, _ => exact gr71_8
    | 9, _ => exact gr71_9
    | 10, _ => exact gr71_10
    | 11, _ => exact gr71_11
    | 12, _ => exact gr71_12
    | 13, _ => exact gr71_13
    | 14, _ => exact gr71_14
    | 15, _ => exact gr71_15
    | i + 16, hi => exact absurd hi (by omega)
  | 3, _ =>
    match j, h with
    | 0, _ => exact gr94_0
    | 1, _ => exact gr94_1
    | 2, _ => exact gr94_2
    | 3, _ => exact gr94_3
    | 4, _ => exact gr94_4
    | 5, _ => exact gr94_5
    | 6, _ => exact gr94_6
    | 7, _ => exact gr94_7
    | 8, _ => exact gr94_8
    | 9, _ => exact gr94_9
    | 10, _ => exact gr94_10
    | 11, _ => exact gr94_11
    | 12, _ => exact gr94_12
    | 13, _ => exact gr94_13
    | 14, _ => exact gr94_14
    | 15, _ => exact gr94_15
    | i + 16, hi => exact absurd hi (by omega)
theorem gx_lk {b j : Nat} (hb : b < 4) (h : j < 16) : ∀ (I : gb_FI) (J : gb_FJ), gb_k (gb_mk I J) (26 + 23 * b + j) 5 = true := by
  intro I J
  match b, hb with
  | 0, _ =>
    match j, h with
    | 0, _ => exact gk26
    | 1, _ => exact gk27
    | 2, _ => exact gk28
    | 3, _ => exact gk29
    | 4, _ => exact gk30
    | 5, _ => exact gk31
    | 6, _ => exact gk32
    | 7, _ => exact gk33
    | 8, _ => exact gk34
    | 9, _ => exact gk35
    | 10, _ => exact gk36
    | 11, _ => exact gk37
    | 12, _ => exact gk38
    | 13, _ => exact gk39
    | 14, _ => exact gk40
    | 15, _ => exact gk41
    | i + 16, hi => exact absurd hi (by omega)
  | 1, _ =>
    match j, h with
    | 0, _ => exact gk49
    | 1, _ => exact gk50
    | 2, _ => exact gk51
    | 3, _ => exact gk52
    | 4, _ => exact gk53
    | 5, _ => exact gk54
    | 6, _ => exact gk55
    | 7, _ => exact gk56
    | 8, _ => exact gk57
    | 9, _ => exact gk58
    | 10, _ => exact gk59
    | 11, _ => exact gk60
    | 12, _ => exact gk61
    | 13, _ => exact gk62
    | 14, _ => exact gk63
    | 15, _ => exact gk64
    | i + 16, hi => exact absurd hi (by omega)
  | 2, _ =>
    match j, h with
    | 0, _ => exact gk72
    | 1, _ => exact gk73
    | 2, _ => exact gk74
    | 3, _ => exact gk75
    | 4, _ => exact gk76
    | 5, _ => exact gk77
    | 6, _ => exact gk78
    | 7, _ => exact gk79
    | 8, _ => exact gk80
    | 9, _ => exact gk81
    | 10, _ => exact gk82
    | 11, _ => exact gk83
    | 12, _ => exact gk84
    | 13, _ => exact gk85
    | 14, _ => exact gk86
    | 15, _ => exact gk87
    | i + 16, hi => exact absurd hi (by omega)
  | 3, _ =>
    match j, h with
    | 0, _ => exact gk95
    | 1, _ => exact gk96
    | 2, _ => exact gk97
    | 3, _ => exact gk98
    | 4, _ => exact gk99
    | 5, _ => exact gk100
    | 6, _ => exact gk101
    | 7, _ => exact gk102
    | 8, _ => exact gk103
    | 9, _ => exact gk104
    | 10, _ => exact gk105
    | 11, _ => exact gk106
    | 12, _ => exact gk107
    | 13, _ => exact gk108
    | 14, _ => exact gk109
    | 15, _ => exact gk110
    | i + 16, hi => exact absurd hi (by omega)
theorem gx_sr {j : Nat} (h : j < 8) : gb_R (gb_mk I J) 117 j = some (118 + j) := by
  match j, h with
  | 0, _ => exact gr117_0
  | 1, _ => exact gr117_1
  | 2, _ => exact gr117_2
  | 3, _ => exact gr117_3
  | 4, _ => exact gr117_4
  | 5, _ => exact gr117_5
  | 6, _ => exact gr117_6
  | 7, _ => exact gr117_7
theorem gx_sk {j : Nat} (h : j < 8) : ∀ (I : gb_FI) (J : gb_FJ), gb_k (gb_mk I J) (118 + j) 5 = true := by
  intro I J
  match j, h with
  | 0, _ => exact gk118
  | 1, _ => exact gk119
  | 2, _ => exact gk120
  | 3, _ => exact gk121
  | 4, _ => exact gk122
  | 5, _ => exact gk123
  | 6, _ => exact gk124
  | 7, _ => exact gk125
theorem gx_l0 {b : Nat} (hb : b < 4) : ∀ (I : gb_FI) (J : gb_FJ), gb_R (gb_mk I J) (24 + 23 * b) 0 = some (25 + 23 * b) := by
  intro I J
  match b, hb with
  | 0, _ => exact gr24_0
  | 1, _ => exact gr47_0
  | 2, _ => exact gr70_0
  | 3, _ => exact gr93_0
theorem gx_lak {b : Nat} (hb : b < 4) : ∀ (I : gb_FI) (J : gb_FJ), gb_kd (gb_mk I J) (25 + 23 * b) = (35, 16) := by
  intro I J
  match b, hb with
  | 0, _ => exact kd25
  | 1, _ => exact kd48
  | 2, _ => exact kd71
  | 3, _ => exact kd94
/-- the part q copied to d -/
def gb_cp (I : gb_FI) (d q : Nat) : gb_FI := gb_u (gb_u (gb_u (gb_u (gb_u (gb_u (gb_u (gb_u (gb_u I d 0 (I q 0)) d 1 (I q 1)) d 2 (I q 2)) d 3 (I q 3)) d 4 (I q 4)) d 5 (I q 5)) d 6 (I q 6)) d 7 (I q 7)) d 8 (I q 8)
theorem x_copyPart (hd : ∀ I J, gb_k (gb_mk I J) d 5 = true) (hq : ∀ I J, gb_k (gb_mk I J) q 5 = true) (h : q ≠ d) : fnX5_copyPart d q (gb_mk I J) = some ((), gb_mk (gb_cp I d q) J) := by
  simp only [fnX5_copyPart, gb_lt_d, gb_gd_t, gb_rd_s, gb_bd_s, gb_I_mk, gb_L_mk, gb_sI_mk, gb_sL_mk, hd, hq, gb_u_ne _ _ h]
  rfl
theorem gb_cp_ne {m : Nat} (h : m ≠ d) : gb_cp I d q m = I m := by
  unfold gb_cp
  simp only [gb_u_row _ _ h]
theorem gb_cp_P {p : gb_P} (h : xP (I q) p) : xP (gb_cp I d q d) p := by
  obtain ⟨a0, a1, a2, a3, a4, a5, a6, a7, a8⟩ := h
  unfold gb_cp
  refine ⟨?_, ?_, ?_, ?_, ?_, ?_, ?_, ?_, ?_⟩ <;> simp (disch := decide) only [gb_u_nk, gb_u_s] <;> assumption
/-- a part appended to the layout o -/
theorem x_append {o m room : Nat} (k0 : ∀ (I : gb_FI) (J : gb_FJ), gb_k (gb_mk I J) o 2 = true) (r0 : ∀ (I : gb_FI) (J : gb_FJ), gb_R (gb_mk I J) o 0 = some (o + 1)) (ka : ∀ (I : gb_FI) (J : gb_FJ), gb_kd (gb_mk I J) (o + 1) = (35, room))
    (h1 : I o 1 = nI m) (hm : m < room) (hr : room ≤ 16) (rm : ∀ (I : gb_FI) (J : gb_FJ), gb_R (gb_mk I J) (o + 1) m = some (o + 2 + m)) (hd : ∀ (I : gb_FI) (J : gb_FJ), gb_k (gb_mk I J) (o + 2 + m) 5 = true) (hq : ∀ (I : gb_FI) (J : gb_FJ), gb_k (gb_mk I J) q 5 = true) (hne : q ≠ o + 2 + m) :
    fnX2_append o q (gb_mk I J) = some ((), gb_mk (gb_u (gb_cp I (o + 2 + m) q) o 1 (nI (m + 1))) J) := by
  have kk : ∀ (I : gb_FI) (J : gb_FJ), gb_k (gb_mk I J) (o + 1) 35 = true := fun I J => by simp [gb_k, ka]
  have ki : ∀ (I : gb_FI) (J : gb_FJ), gb_in (gb_mk I J) (o + 1) (nI m) = true := fun I J => gb_in_k (by rw [ka]) hm (by omega)
  have e1 : gb_cp I (o + 2 + m) q o 1 = nI m := by rw [gb_cp_ne (by omega)]; exact h1
  simp only [fnX2_append, fbX2_append_35, gb_lt_d, gb_gd_t, gb_rd_s, gb_bd_s, gb_I_mk, gb_L_mk, gb_sI_mk, gb_sL_mk, k0, r0, kk, ka, h1]
  rw [if_neg (show ¬ Int32.ofNat room ≤ nI m from nI_ge hm (by omega))]
  simp (disch := omega) only [gb_lt_d, gb_gd_t, gb_rd_s, gb_bd_s, gb_I_mk, gb_L_mk, gb_sI_mk, gb_sL_mk, k0, r0, kk, ki, rm, hd, nI_clamp, x_copyPart hd hq hne, e1, gb_lit 1, nI_add]
end LAY
