section FEED
variable {cOK : gb_CP} {S : gb_S} {I I' : gb_FI} {J J' : gb_FJ}
/-- byte k of the four of an int -/
def gb_by (v : Int32) (k : Nat) : Nat := (v >>> nI (24 - 8 * k)).toBitVec.toNat % 256
theorem gb_255 (x : Int32) : x &&& 255 = nI (x.toBitVec.toNat % 256) := by
  apply Int32.toBitVec_inj.mp
  apply BitVec.eq_of_toNat_eq
  show (x.toBitVec &&& 255#32).toNat = (BitVec.ofNat 32 (x.toBitVec.toNat % 256)).toNat
  rw [BitVec.toNat_and, BitVec.toNat_ofNat, BitVec.toNat_ofNat, show 255 % 2 ^ 32 = 2 ^ 8 - 1 from rfl, Nat.and_two_pow_sub_one_eq_mod]
  omega
theorem gb_sbb (x : Int32) : (x.toInt8.toInt32).toInt8.toInt32 = sb_b (x.toBitVec.toNat % 256) := by
  unfold sb_b
  rw [← gb_255, Int8.toInt8_toInt32, Int32.toInt8_and]
  show _ = (x.toInt8 &&& (-1 : Int8)).toInt32
  rw [Int8.and_neg_one]
theorem gb_by_lt (v : Int32) (k : Nat) : gb_by v k < 256 := Nat.mod_lt _ (by decide)
def gb_b4 (v : Int32) : List Nat := [gb_by v 0, gb_by v 1, gb_by v 2, gb_by v 3]
def a_feed (v1 v2 v3 v4 v5 : Int32) (S : gb_S) : Int32 × gb_S :=
  if S.2.2.1.length + 20 ≤ 400 then (nI (S.2.2.1.length + 20), sT S (S.2.2.1 ++ gb_b4 v1 ++ gb_b4 v2 ++ gb_b4 v3 ++ gb_b4 v4 ++ gb_b4 v5)) else (-1, S)
theorem xT.push {c c' : Int32} {r r' : Nat → Int32} {bs : List Nat} {b : Nat} (h : xT c r bs) (hl : bs.length < 400) (hb : b < 256) (hc : c' = nI (bs.length + 1)) (k : ∀ i, i ≠ bs.length → r' i = r i) (e : r' bs.length = nI b) : xT c' r' (bs ++ [b]) := by
  obtain ⟨h1, h2, h3, h4⟩ := h
  refine ⟨by simp; omega, ?_, by rw [hc]; simp, fun i q hq => ?_⟩
  · intro x hx
    rcases List.mem_append.mp hx with q | q
    · exact h2 x q
    · rw [List.mem_singleton.mp q]; exact hb
  · rcases Nat.lt_or_ge i bs.length with hi | hi
    · rw [List.getElem?_append_left hi] at hq
      rw [k i (by omega)]
      exact h4 i q hq
    · have hlt := (List.getElem?_eq_some_iff.mp hq).1
      simp at hlt
      have e' : i = bs.length := by omega
      subst e'
      simp at hq
      subst hq
      exact e
def gb_wr (I : gb_FI) (n : Nat) (v : Int32) : Nat → gb_FI
  | 0 => I
  | k + 1 => gb_u (gb_u (gb_wr I n v k) 2 (n + k) (nI (gb_by v k))) 1 1 (nI (n + k + 1))
theorem gb_wr_ne {n : Nat} {v : Int32} {m : Nat} (h1 : m ≠ 1) (h2 : m ≠ 2) : ∀ k, gb_wr I n v k m = I m
  | 0 => rfl
  | k + 1 => by
    show gb_u (gb_u (gb_wr I n v k) 2 (n + k) (nI (gb_by v k))) 1 1 (nI (n + k + 1)) m = I m
    rw [gb_u_row _ _ h1, gb_u_row _ _ h2, gb_wr_ne h1 h2 k]
theorem gb_wr_1 {n : Nat} {v : Int32} (h : I 1 1 = nI n) : ∀ k, gb_wr I n v k 1 1 = nI (n + k)
  | 0 => h
  | k + 1 => gb_u_s _ _ _ _
theorem gb_wr_T {bs : List Nat} {v : Int32} (h : xT (I 1 1) (I 2) bs) (hl : bs.length + 4 ≤ 400) : ∀ k, k ≤ 4 → xT (gb_wr I bs.length v k 1 1) (gb_wr I bs.length v k 2) (bs ++ (gb_b4 v).take k)
  | 0, _ => by rw [List.take_zero, List.append_nil]; exact h
  | k + 1, hk => by
    have ih := gb_wr_T (v := v) h hl k (by omega)
    have hl4 : (bs ++ (gb_b4 v).take k).length = bs.length + k := by
      simp [gb_b4]; omega
    have e : bs ++ (gb_b4 v).take (k + 1) = (bs ++ (gb_b4 v).take k) ++ [gb_by v k] := by
      match k, hk with
      | 0, _ => simp [gb_b4]
      | 1, _ => simp [gb_b4]
      | 2, _ => simp [gb_b4]
      | 3, _ => simp [gb_b4]
    rw [e]
    refine ih.push (by omega) (gb_by_lt v k) ?_ ?_ ?_
    · rw [hl4]; exact gb_u_s _ _ _ _
    · intro i hi
      rw [hl4] at hi
      show gb_u (gb_u (gb_wr I bs.length v k) 2 (bs.length + k) (nI (gb_by v k))) 1 1 (nI (bs.length + k + 1)) 2 i = _
      rw [gb_u_ne _ _ (by decide), gb_u_nk _ _ hi]
    · rw [hl4]
      show gb_u (gb_u (gb_wr I bs.length v k) 2 (bs.length + k) (nI (gb_by v k))) 1 1 (nI (bs.length + k + 1)) 2 _ = _
      rw [gb_u_ne _ _ (by decide), gb_u_s]
def gb_sh : Nat → Int32
  | 0 => 24
  | 1 => 16
  | 2 => 8
  | 3 => 0
  | _ => -8
theorem x_write {n : Nat} (v : Int32) (h : I 1 1 = nI n) (hn : n + 4 ≤ 400) : fnX9_write 1 v (gb_mk I J) = some ((), gb_mk (gb_wr I n v 4) J) := by
  simp only [fnX9_write, lpX9_write_3]
  refine gb_forF (fun i => (1, v, gb_sh i, gb_mk (gb_wr I n v i) J)) 4 (by decide) ?_ ?_
  · intro j hj k
    have e1 := gb_wr_1 (v := v) h j
    have e2 : ¬ gb_sh j < 0 := by
      match j, hj with
      | 0, _ => decide
      | 1, _ => decide
      | 2, _ => decide
      | 3, _ => decide
    have e3 : (v >>> (gb_sh j &&& 31)) &&& 255 = nI (gb_by v j) := by
      rw [gb_255]
      match j, hj with
      | 0, _ => rfl
      | 1, _ => rfl
      | 2, _ => rfl
      | 3, _ => rfl
    have e4 : gb_sh j + (-8) = gb_sh (j + 1) := by
      match j, hj with
      | 0, _ => rfl
      | 1, _ => rfl
      | 2, _ => rfl
      | 3, _ => rfl
    simp only [fbX9_write_3]
    rw [if_neg e2]
    simp only [gb_lt_d, gb_gd_t, gb_rd_s, gb_bd_s, gb_I_mk, gb_L_mk, gb_sI_mk, gb_sL_mk, gk1, gr1_0, e1, e3, e4]
    rw [if_neg (show ¬ (400 : Int32) ≤ nI (n + j) from nI_ge (show n + j < 400 by omega) (by decide))]
    simp (disch := omega) only [gb_lt_d, gb_gd_t, gb_rd_s, gb_bd_s, gb_I_mk, gb_L_mk, gb_sI_mk, gb_sL_mk, gk1, gr1_0, gk2, gi2, nI_clamp, gb_u_ne, e1, gb_lit 1, nI_add]
    rfl
  · intro k
    simp only [fbX9_write_3, fbX9_write_49]
    rw [if_pos (show gb_sh 4 < 0 by decide)]
theorem x_write' {bs : List Nat} (v : Int32) (h : xT (I 1 1) (I 2) bs) (hn : bs.length + 4 ≤ 400) : ∃ I', fnX9_write 1 v (gb_mk I J) = some ((), gb_mk I' J) ∧ xT (I' 1 1) (I' 2) (bs ++ gb_b4 v) ∧ ∀ n, n ≠ 1 → n ≠ 2 → I' n = I n :=
  ⟨_, x_write v h.2.2.1 hn, gb_wr_T h hn 4 (by decide), fun _ h1 h2 => gb_wr_ne h1 h2 4⟩
theorem gb_b4_len (v : Int32) : (gb_b4 v).length = 4 := rfl
theorem X_feed (h : RX cOK S I J) (v1 v2 v3 v4 v5 : Int32) : xok cOK (fnX10_feed 0 v1 v2 v3 v4 v5) I J (a_feed v1 v2 v3 v4 v5 S) := by
  have T := h.2.2.1
  have t3 := T.2.2.1
  have t1 := T.1
  unfold a_feed xok
  simp (disch := omega) only [fnX10_feed, fnX9_hasRoom, fbX9_hasRoom_17, gb_b_0, gb_b_1, gb_lt_d, gb_gd_t, gb_rd_s, gb_bd_s, gb_I_mk, gb_L_mk, gb_sI_mk, gb_sL_mk, gk0, gr0_0, gr0_1, gr0_2, gr0_3, gr0_4, gr0_5, gr0_6, gr0_7, gr0_8, gr0_9, gr0_10, gr0_11, gr0_12, gk1, gr1_0, t3, gb_lit 20, nI_add, gb_lit 400]
  by_cases c : S.2.2.1.length + 20 ≤ 400
  · rw [if_neg (nI_nlt c (by omega)), if_pos c]
    obtain ⟨I1, w1, T1, k1⟩ := x_write' (J := J) v1 T (by omega)
    obtain ⟨I2, w2, T2, k2⟩ := x_write' (J := J) v2 T1 (by simp [gb_b4_len]; omega)
    obtain ⟨I3, w3, T3, k3⟩ := x_write' (J := J) v3 T2 (by simp [gb_b4_len]; omega)
    obtain ⟨I4, w4, T4, k4⟩ := x_write' (J := J) v4 T3 (by simp [gb_b4_len]; omega)
    obtain ⟨I5, w5, T5, k5⟩ := x_write' (J := J) v5 T4 (by simp [gb_b4_len]; omega)
    have k : ∀ n, n ≠ 1 → n ≠ 2 → I5 n = I n := fun n a b => (k5 n a b).trans ((k4 n a b).trans ((k3 n a b).trans ((k2 n a b).trans (k1 n a b))))
    refine ⟨I5, J, ?_, h.tp T5 k, fun n hn => ⟨k n (by omega) (by omega), rfl⟩⟩
    simp only [gb_lt_d, gb_gd_t, gb_rd_s, gb_bd_s, gb_I_mk, gb_L_mk, gb_sI_mk, gb_sL_mk]
    rw [if_neg gb_n10]
    simp only [gb_lt_d, gb_gd_t, gb_rd_s, gb_bd_s, gb_I_mk, gb_L_mk, gb_sI_mk, gb_sL_mk, gk0, gr0_0, gr0_1, gr0_2, gr0_3, gr0_4, gr0_5, gr0_6, gr0_7, gr0_8, gr0_9, gr0_10, gr0_11, gr0_12, gk1, gr1_0, w1, w2, w3, w4, w5]
    rw [T5.2.2.1]
    simp only [List.length_append, gb_b4_len]
  · rw [if_pos (nI_lt (by omega) (by omega)), if_neg c]
    simp only [gb_lt_d, gb_gd_t, gb_rd_s, gb_bd_s, gb_I_mk, gb_L_mk, gb_sI_mk, gb_sL_mk]
    rw [if_pos trivial]
    exact ⟨_, _, rfl, h, gb_fx.r⟩
/-! feed of the reference -/
def gb_mw (I : gb_FI) (n : Nat) (V : Nat → Int32) : Nat → gb_FI
  | 0 => I
  | i + 1 => gb_u (gb_mw I n V i) 248 (n + i) (sb_b (gb_by (V (i / 4)) (i % 4)))
theorem gb_mw_ne {n : Nat} {V : Nat → Int32} {m : Nat} (h1 : m ≠ 248) : ∀ k, gb_mw I n V k m = I m
  | 0 => rfl
  | k + 1 => by
    show gb_u (gb_mw I n V k) 248 (n + k) _ m = I m
    rw [gb_u_row _ _ h1, gb_mw_ne h1 k]
theorem gb_mw_at {n : Nat} {V : Nat → Int32} : ∀ k i, gb_mw I n V k 248 i = if n ≤ i ∧ i < n + k then sb_b (gb_by (V ((i - n) / 4)) ((i - n) % 4)) else I 248 i
  | 0, i => by rw [if_neg (by omega)]; rfl
  | k + 1, i => by
    show gb_u (gb_mw I n V k) 248 (n + k) _ 248 i = _
    by_cases e : i = n + k
    · subst e
      rw [gb_u_s, if_pos (by omega), Nat.add_sub_cancel_left]
    · rw [gb_u_nk _ _ e, gb_mw_at k i]
      by_cases c : n ≤ i ∧ i < n + k
      · rw [if_pos c, if_pos (by omega)]
      · rw [if_neg c, if_neg (by omega)]
def gb_V5 (v1 v2 v3 v4 v5 : Int32) : Nat → Int32
  | 0 => v1
  | 1 => v2
  | 2 => v3
  | 3 => v4
  | _ => v5
theorem gb_d4 : ∀ j, j < 20 → nI j / 4 = nI (j / 4) := by decide
theorem gb_s4 : ∀ j, j < 20 → ((24 : Int32) - ((8 : Int32) * (nI j - nI (j / 4) * (4 : Int32)))) &&& 31 = nI (24 - 8 * (j % 4)) := by decide
theorem gb_b20 (v1 v2 v3 v4 v5 : Int32) : ∀ i, i < 20 → (gb_b4 v1 ++ gb_b4 v2 ++ gb_b4 v3 ++ gb_b4 v4 ++ gb_b4 v5)[i]? = some (gb_by (gb_V5 v1 v2 v3 v4 v5 (i / 4)) (i % 4)) := by
  intro i hi
  match i, hi with
  | 0, _ => rfl
  | 1, _ => rfl
  | 2, _ => rfl
  | 3, _ => rfl
  | 4, _ => rfl
  | 5, _ => rfl
  | 6, _ => rfl
  | 7, _ => rfl
  | 8, _ => rfl
  | 9, _ => rfl
  | 10, _ => rfl
  | 11, _ => rfl
  | 12, _ => rfl
  | 13, _ => rfl
  | 14, _ => rfl
  | 15, _ => rfl
  | 16, _ => rfl
  | 17, _ => rfl
  | 18, _ => rfl
  | 19, _ => rfl
  | i + 20, hi => exact absurd hi (by omega)
theorem M_feed (h : RM S I J) (hl : S.2.2.1.length ≤ 400) (v1 v2 v3 v4 v5 : Int32) : mok (fnX11_feed 241 v1 v2 v3 v4 v5) I J (a_feed v1 v2 v3 v4 v5 S) := by
  obtain ⟨t3, t4⟩ := id h.2.2.1
  unfold a_feed mok
  simp (disch := omega) only [fnX11_feed, gb_lt_d, gb_gd_t, gb_rd_s, gb_bd_s, gb_I_mk, gb_L_mk, gb_sI_mk, gb_sL_mk, gk241, gk242, gk243, gk244, gk245, gk246, gk247, gk248, gk249, gk250, gk251, gk252, gk253, gk254, gk255, gk256, gk257, gk258, gk259, gk260, gk261, gk262, gk263, gk264, gk265, gk266, gk267, gk268, gr241_2, gr241_3, gr241_4, gr241_5, gr241_7, gr241_8, gr241_11, gr241_12, gr241_13, gr241_20, gr241_21, gr241_22, gr241_26, gr241_27, gr241_28, gr241_29, gr241_31, gr241_32, gr241_33, gr241_38, gr241_39, gr241_40, gr241_41, gr241_42, gr241_43, gr241_44, gr241_45, t3, gb_lit 20, nI_add, gb_lit 400]
  by_cases c : S.2.2.1.length + 20 ≤ 400
  · rw [if_pos (nI_le c (by omega)), if_pos c]
    generalize hn : S.2.2.1.length = n at *
    generalize hI : gb_u (gb_u (gb_u (gb_u (gb_u I 250 0 v1) 250 1 v2) 250 2 v3) 250 3 v4) 250 4 v5 = K
    have K5 : ∀ q, q < 5 → K 250 q = gb_V5 v1 v2 v3 v4 v5 q := by
      intro q hq
      rw [← hI]
      match q, hq with
      | 0, _ => rfl
      | 1, _ => rfl
      | 2, _ => rfl
      | 3, _ => rfl
      | 4, _ => rfl
    have Kn : ∀ m, m ≠ 250 → K m = I m := by
      intro m hm
      rw [← hI, gb_u_row _ _ hm, gb_u_row _ _ hm, gb_u_row _ _ hm, gb_u_row _ _ hm, gb_u_row _ _ hm]
    refine ⟨gb_u (gb_mw K n (gb_V5 v1 v2 v3 v4 v5) 20) 241 14 (nI (n + 20)), J, ?_, ?_, ?_⟩
    · have hh : lpX11_feed_55 gb_FU 241 0 (gb_mk K J) = some (nI (n + 20), gb_mk (gb_u (gb_mw K n (gb_V5 v1 v2 v3 v4 v5) 20) 241 14 (nI (n + 20))) J) := by
        simp only [lpX11_feed_55]
        refine gb_forF (fun i => (241, nI i, gb_mk (gb_mw K n (gb_V5 v1 v2 v3 v4 v5) i) J)) 20 (by decide) ?_ ?_
        · intro j hj k
          have e14 : gb_mw K n (gb_V5 v1 v2 v3 v4 v5) j 241 14 = nI n := by rw [gb_mw_ne (by decide), Kn _ (by decide), t3]
          have e5 : gb_mw K n (gb_V5 v1 v2 v3 v4 v5) j 250 (j / 4) = gb_V5 v1 v2 v3 v4 v5 (j / 4) := by rw [gb_mw_ne (by decide), K5 _ (by omega)]
          simp only [fbX11_feed_55]
          rw [if_neg (show ¬ (20 : Int32) ≤ nI j from nI_ge (show j < 20 from hj) (by decide))]
          simp (disch := omega) only [gb_lt_d, gb_gd_t, gb_rd_s, gb_bd_s, gb_I_mk, gb_L_mk, gb_sI_mk, gb_sL_mk, gk241, gk242, gk243, gk244, gk245, gk246, gk247, gk248, gk249, gk250, gk251, gk252, gk253, gk254, gk255, gk256, gk257, gk258, gk259, gk260, gk261, gk262, gk263, gk264, gk265, gk266, gk267, gk268, gr241_2, gr241_3, gr241_4, gr241_5, gr241_7, gr241_8, gr241_11, gr241_12, gr241_13, gr241_20, gr241_21, gr241_22, gr241_26, gr241_27, gr241_28, gr241_29, gr241_31, gr241_32, gr241_33, gr241_38, gr241_39, gr241_40, gr241_41, gr241_42, gr241_43, gr241_44, gr241_45, gb_d4 j hj, gb_s4 j hj, nI_clamp, gi250, gi248, e14, e5, gb_lit 1, nI_add, gb_sbb]
          rfl
        · intro k
          have e14 : gb_mw K n (gb_V5 v1 v2 v3 v4 v5) 20 241 14 = nI n := by rw [gb_mw_ne (by decide), Kn _ (by decide), t3]
          simp only [fbX11_feed_55]
          rw [if_pos (show (20 : Int32) ≤ nI 20 by decide)]
          simp (disch := omega) only [gb_lt_d, gb_gd_t, gb_rd_s, gb_bd_s, gb_I_mk, gb_L_mk, gb_sI_mk, gb_sL_mk, gk241, gk242, gk243, gk244, gk245, gk246, gk247, gk248, gk249, gk250, gk251, gk252, gk253, gk254, gk255, gk256, gk257, gk258, gk259, gk260, gk261, gk262, gk263, gk264, gk265, gk266, gk267, gk268, gr241_2, gr241_3, gr241_4, gr241_5, gr241_7, gr241_8, gr241_11, gr241_12, gr241_13, gr241_20, gr241_21, gr241_22, gr241_26, gr241_27, gr241_28, gr241_29, gr241_31, gr241_32, gr241_33, gr241_38, gr241_39, gr241_40, gr241_41, gr241_42, gr241_43, gr241_44, gr241_45, e14, gb_lit 20, nI_add, gb_u_s]
      rw [← hh, ← hI]
      have g0 : ∀ K, gb_in (gb_mk K J) 250 0 = true := fun K => gi250 (j := 0) (by decide)
      have g1 : ∀ K, gb_in (gb_mk K J) 250 1 = true := fun K => gi250 (j := 1) (by decide)
      have g2 : ∀ K, gb_in (gb_mk K J) 250 2 = true := fun K => gi250 (j := 2) (by decide)
      have g3 : ∀ K, gb_in (gb_mk K J) 250 3 = true := fun K => gi250 (j := 3) (by decide)
      have g4 : ∀ K, gb_in (gb_mk K J) 250 4 = true := fun K => gi250 (j := 4) (by decide)
      simp only [g0, g1, g2, g3, g4, gb_lt_d, gb_gd_t, gb_rd_s, gb_bd_s, gb_I_mk, gb_L_mk, gb_sI_mk, gb_sL_mk]
      rfl
    · refine h.tp ⟨?_, fun i b hb => ?_⟩ (fun m m1 m2 m3 => ?_) (fun j hj => ?_)
      · rw [gb_u_s]
        simp only [List.length_append, gb_b4_len, hn]
      · rw [gb_u_row _ _ (by decide), gb_mw_at]
        simp only [List.append_assoc] at hb
        rcases Nat.lt_or_ge i S.2.2.1.length with q | q
        · rw [List.getElem?_append_left q] at hb
          rw [if_neg (by omega), Kn _ (by decide)]
          exact t4 i b hb
        · rw [List.getElem?_append_right q] at hb
          have hlt := (List.getElem?_eq_some_iff.mp hb).1
          simp [gb_b4_len] at hlt
          have hb2 := gb_b20 v1 v2 v3 v4 v5 (i - S.2.2.1.length) (by omega)
          simp only [List.append_assoc] at hb2
          rw [hb2] at hb
          rw [if_pos (by omega), ← Option.some.inj hb, hn]
      · rw [gb_u_row _ _ m1, gb_mw_ne m2, Kn _ m3]
      · rw [gb_u_nk _ _ hj, gb_mw_ne (by decide), Kn _ (by decide)]
    · intro m hm
      exact ⟨by rw [gb_u_row _ _ (by omega), gb_mw_ne (by omega), Kn _ (by omega)], rfl⟩
  · rw [if_neg (nI_ge (by omega) (by omega)), if_neg c]
    exact ⟨_, _, rfl, h, gb_fm.r⟩
end FEED
