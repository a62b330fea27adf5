section XSEARCH
variable {S : gb_S} {I I' I1 I2 : gb_FI} {J J' J1 J2 : gb_FJ} {gs : List Nat} {sh : List gb_P} {pl n g k m q f : Nat} {r b pre : List Nat}
def gTm : Nat → Nat → Nat
  | 0, _ => 1
  | d + 1, k => 1 + k * (1 + gTm d 8)
theorem gTm_m {d : Nat} : ∀ {k k'}, k ≤ k' → gTm d k ≤ gTm d k' := fun {k k'} h => by
  match d with
  | 0 => exact Nat.le_refl _
  | d + 1 =>
    show 1 + k * (1 + gTm d 8) ≤ 1 + k' * (1 + gTm d 8)
    have := Nat.mul_le_mul_right (1 + gTm d 8) h
    omega
/-- only what the planner needs has moved -/
def gx_fS (I I' : gb_FI) (J J' : gb_FJ) : Prop := (∀ x y, ¬ (x = 139 ∧ y = 7) → ¬ (142 ≤ x ∧ x ≤ 145) → ¬ (196 ≤ x ∧ x ≤ 223) → I' x y = I x y) ∧ ∀ x, x ≠ 146 → x ≠ 147 → ¬ (196 ≤ x ∧ x ≤ 223) → J' x = J x
theorem gx_fS.t (x : gx_fS I I1 J J1) (y : gx_fS I1 I2 J1 J2) : gx_fS I I2 J J2 := ⟨fun n k h1 h2 h3 => (y.1 n k h1 h2 h3).trans (x.1 n k h1 h2 h3), fun n h1 h2 h3 => (y.2 n h1 h2 h3).trans (x.2 n h1 h2 h3)⟩
theorem gx_fS.rf : gx_fS I I J J := ⟨fun _ _ _ _ _ => rfl, fun _ _ _ _ => rfl⟩
theorem gPI.pr (h : gPI gs sh (r ++ [f]) I J) : gPI gs sh r I J := by
  obtain ⟨h1, h2, h3, h4, h5⟩ := h
  refine ⟨fun l hl => ?_, fun i j hj => h2 i j (by rw [List.getElem?_append_left (List.getElem?_eq_some_iff.mp hj).1]; exact hj), h3, h4, h5⟩
  have := h1 l (by rw [List.length_append]; omega)
  rw [List.take_append_of_le_length hl] at this
  exact this
noncomputable def gdfF (n : Nat) (gs : List Nat) (sh : List gb_P) (r : List Nat) (f : Nat) : Nat → List (List Nat)
  | 0 => []
  | d + 1 => ((List.range sh.length).drop f).flatMap (fun c => if gokc n gs.length (gb_k0 gs) sh r c = true then (r ++ [c]) :: dfsP (gokc n gs.length (gb_k0 gs) sh) sh.length d (r ++ [c]) else [])
theorem dfsP_F {d : Nat} : dfsP (gokc n gs.length (gb_k0 gs) sh) sh.length d r = gdfF n gs sh r 0 d := by
  cases d with
  | zero => rfl
  | succ d => rw [dfsP, gdfF, List.drop_zero]
theorem x_srch (hgs : ∀ m ∈ gs, m < 10) (g3 : gs.length ≤ 3) (g1 : 1 ≤ gs.length) (hs : ∀ p ∈ sh, gso p) (s8 : sh.length ≤ 8) (n3 : n ≤ 3) {W0 : Int32} (hW0 : ∀ k, nI (gb_rw k) = W0 ↔ gpk k = pl) : ∀ (d : Nat) (r : List Nat), r.length + d = n → (∀ x ∈ r, x < sh.length) → zD gs.length (gpt sh r) ≤ 300000 → ∀ (k f : Nat) (I : gb_FI) (J : gb_FJ) (o : Option (List Nat)), f + k = sh.length → gPI gs sh r I J → I 144 r.length = nI f → gBsC gs sh pl o I J →
    ∃ T I2 J2, T ≤ gTm d k ∧ (∀ F st, st + T ≤ 10000 → lpX6_search_91 (F + T) 139 (nI n) (nI gs.length) W0 (nI (gb_od (gb_k0 gs))) (nI r.length) (nI st) (gb_mk I J) = lpX6_search_91 F 139 (nI n) (nI gs.length) W0 (nI (gb_od (gb_k0 gs))) (nI r.length + (-1)) (nI (st + T)) (gb_mk I2 J2)) ∧ gx_fS I I2 J J2 ∧ gPI gs sh r I2 J2 ∧ (∀ l, l < r.length → I2 144 l = I 144 l) ∧
      gBsC gs sh pl ((gdfF n gs sh r f d).foldl (gstC gs sh pl) o) I2 J2 := by
  have pop : ∀ (L f : Nat) (I : gb_FI) (J : gb_FJ), L ≤ 3 → I 144 L = nI f → I 116 1 = nI sh.length → f ≤ sh.length → (n ≤ L ∨ sh.length ≤ f) → ∀ F st, st + 1 ≤ 10000 → lpX6_search_91 (F + 1) 139 (nI n) (nI gs.length) W0 (nI (gb_od (gb_k0 gs))) (nI L) (nI st) (gb_mk I J) = lpX6_search_91 F 139 (nI n) (nI gs.length) W0 (nI (gb_od (gb_k0 gs))) (nI L + (-1)) (nI (st + 1)) (gb_mk I J) := fun L f I J hL e4 e6 hfs hc F st hst => by
    rw [show ∀ h, lpX6_search_91 (F + 1) 139 (nI n) (nI gs.length) W0 (nI (gb_od (gb_k0 gs))) (nI L) (nI st) h = fbX6_search_91 (fun v0 v1 v3 v4 v5 v6 v7 h => lpX6_search_91 F v0 v1 v3 v4 v5 v6 v7 h) 139 (nI n) (nI gs.length) W0 (nI (gb_od (gb_k0 gs))) (nI L) (nI st) h from fun _ => rfl]
    unfold fbX6_search_91 fbX6_search_133 fbX6_search_163
    rw [if_neg (show ¬ (10000 : Int32) ≤ nI st from nI_ge (b := 10000) (by omega) (by omega)), if_neg (nI_pos (by omega)), gb_lt_d, gb_lt_d, nI_1]
    by_cases c : n ≤ L
    · rw [if_pos (nI_le c (by omega))]
    · rw [if_neg (nI_ge (by omega) (by omega))]
      have c2 : sh.length ≤ f := by omega
      rw [if_neg (show ¬ (3 : Int32) ≤ nI L from nI_ge (b := 3) (by omega) (by omega)), gk139, gb_gd_t, gr139_5, gb_rd_s, gk144, gb_gd_t, gi144 (by omega), gb_gd_t, gb_gd_t, gr139_0, gb_rd_s, gk116, gb_gd_t, gb_I_mk, nI_clamp (by omega), e4, e6, if_neg (nI_nlt c2 (by omega))]
  intro d
  induction d with
  | zero =>
    intro r rn ri rd k f I J o hk hP e4 hb
    refine ⟨1, I, J, Nat.le_refl _, fun F st hst => pop r.length f I J (by omega) e4 hP.2.2.2.2 (by omega) (Or.inl (by omega)) F st hst, gx_fS.rf, hP, fun _ _ => rfl, hb⟩
  | succ d ihd =>
    intro r rn ri rd k
    induction k with
    | zero =>
      intro f I J o hk hP e4 hb
      refine ⟨1, I, J, by show 1 ≤ 1 + 0 * _; omega, fun F st hst => pop r.length f I J (by omega) e4 hP.2.2.2.2 (by omega) (Or.inr (by omega)) F st hst, gx_fS.rf, hP, fun _ _ => rfl, ?_⟩
      rw [gdfF, List.drop_eq_nil_of_le (by rw [List.length_range]; omega)]
      exact hb
    | succ k ihk =>
      intro f I J o hk hP e4 hb
      have fs : f < sh.length := by omega
      have dr : (List.range sh.length).drop f = f :: (List.range sh.length).drop (f + 1) := by
        rw [List.drop_eq_getElem_cons (by rw [List.length_range]; exact fs), List.getElem_range]
      obtain ⟨I2, J2, v, s1, s2, s3, s4, s5, s6, s7⟩ := x_lengthen hgs g3 hs s8 n3 (show r.length < n by omega) ri rd hP fs e4
      have fS2 : gx_fS I I2 J J2 := ⟨fun x y a1 a2 a3 => s2 x y (by omega) a3, fun x a1 a2 a3 => s3 x a3⟩
      have b2 : gBsC gs sh pl o I2 J2 := by
        have k7 : I2 139 7 = I 139 7 := s2 139 7 (by omega) (by omega)
        have k145 : ∀ j, I2 145 j = I 145 j := fun j => s2 145 j (by omega) (by omega)
        have j6 : J2 146 = J 146 := s3 146 (by omega)
        cases o with
        | none => exact k7.trans hb
        | some b => exact ⟨hb.1, hb.2.1, hb.2.2.1, k7.trans hb.2.2.2.1, fun i j hj => by rw [k145]; exact hb.2.2.2.2.1 i j hj, by rw [j6]; exact hb.2.2.2.2.2.1, by rw [j6]; exact hb.2.2.2.2.2.2.1, by rw [j6]; exact hb.2.2.2.2.2.2.2⟩
      -- one step of the loop
      have step : ∀ F st, st + 1 ≤ 10000 → lpX6_search_91 (F + 1) 139 (nI n) (nI gs.length) W0 (nI (gb_od (gb_k0 gs))) (nI r.length) (nI st) (gb_mk I J) = (if v = 0 then lpX6_search_91 F 139 (nI n) (nI gs.length) W0 (nI (gb_od (gb_k0 gs))) (nI r.length) (nI (st + 1)) (gb_mk I2 J2) else gb_bd (fnX6_weigh 139 (nI (r.length + 1)) W0 (nI (gb_od (gb_k0 gs))) (gb_mk I2 J2)) (fun _ h20 => lpX6_search_91 F 139 (nI n) (nI gs.length) W0 (nI (gb_od (gb_k0 gs))) (nI (r.length + 1)) (nI (st + 1)) h20)) := fun F st hst => by
        rw [show ∀ h, lpX6_search_91 (F + 1) 139 (nI n) (nI gs.length) W0 (nI (gb_od (gb_k0 gs))) (nI r.length) (nI st) h = fbX6_search_91 (fun v0 v1 v3 v4 v5 v6 v7 h => lpX6_search_91 F v0 v1 v3 v4 v5 v6 v7 h) 139 (nI n) (nI gs.length) W0 (nI (gb_od (gb_k0 gs))) (nI r.length) (nI st) h from fun _ => rfl]
        unfold fbX6_search_91 fbX6_search_163
        rw [if_neg (show ¬ (10000 : Int32) ≤ nI st from nI_ge (b := 10000) (by omega) (by omega)), if_neg (nI_pos (by omega)), if_neg (show ¬ nI n ≤ nI r.length from nI_ge (by omega) (by omega)), if_neg (show ¬ (3 : Int32) ≤ nI r.length from nI_ge (b := 3) (by omega) (by omega)), gk139, gb_gd_t, gr139_5, gb_rd_s, gk144, gb_gd_t, gi144 (by omega), gb_gd_t, gb_gd_t, gr139_0, gb_rd_s, gk116, gb_gd_t, gb_I_mk, nI_clamp (by omega), e4, hP.2.2.2.2, if_pos (nI_lt fs (by omega)), gb_gd_t, s1, gb_bd_s, gk139, gb_lt_d, gb_lt_d, nI_1, nI_1, gb_gd_t]
        rfl
      by_cases ok : gokc n gs.length (gb_k0 gs) sh r f = true
      · obtain ⟨v1, P2, e0⟩ := s6 ok
        have rl2 : (r ++ [f]).length = r.length + 1 := by simp
        have ri2 : ∀ x ∈ r ++ [f], x < sh.length := fun x hx => by
          rcases List.mem_append.mp hx with z | z
          · exact ri x z
          · rw [List.mem_singleton.mp z]; exact fs
        have rd2 := (gokc_t.mp ok).1
        have P2b := P2.1 (r.length + 1) (by rw [rl2]; exact Nat.le_refl _)
        rw [List.take_of_length_le (by rw [rl2]; exact Nat.le_refl _)] at P2b
        obtain ⟨I3, J3, w1, w2, w3, w4⟩ := x_weigh (r := r ++ [f]) hgs g3 g1 hs (by rw [rl2]; omega) ri2 rd2 (by rw [rl2]; exact P2b.1) (by rw [rl2]; exact P2b.2) P2.2.1 hW0 b2
        rw [rl2] at w1
        have fS3 : gx_fS I2 I3 J2 J3 := ⟨fun x y a1 a2 a3 => w2 x y (by omega) a1, fun x a1 a2 a3 => w3 x a1 a2⟩
        have P3 : gPI gs sh (r ++ [f]) I3 J3 := P2.kp (fun x a1 a2 a3 => funext (fun y => w2 x y a3 (fun z => a1 z.1))) (fun x a1 a2 => w3 x (by omega) (by omega)) (by rw [rl2]; omega) s8
        have e44 : ∀ l, I3 144 l = I2 144 l := fun l => w2 144 l (by decide) (by omega)
        obtain ⟨T1, I4, J4, t1, t2, t3, t4, t5, t6⟩ := ihd (r ++ [f]) (by rw [rl2]; omega) ri2 rd2 sh.length 0 I3 J3 _ (by omega) P3 (by rw [rl2, e44, e0]; rfl) w4
        obtain ⟨T2, I5, J5, u1, u2, u3, u4, u5, u6⟩ := ihk (f + 1) I4 J4 _ (by omega) t4.pr (by rw [t5 r.length (by rw [rl2]; omega), e44]; exact s5) t6
        have b1 : T1 ≤ gTm d 8 := Nat.le_trans t1 (gTm_m s8)
        refine ⟨1 + T1 + T2, I5, J5, ?_, fun F st hst => ?_, ((fS2.t fS3).t t3).t u3, u4, fun l hl => by rw [u5 l hl, t5 l (by rw [rl2]; omega), e44, s4 l hl], ?_⟩
        · show 1 + T1 + T2 ≤ 1 + (k + 1) * (1 + gTm d 8)
          have u1' : T2 ≤ 1 + k * (1 + gTm d 8) := u1
          rw [Nat.add_mul, Nat.one_mul]
          omega
        · rw [show F + (1 + T1 + T2) = F + T2 + T1 + 1 by omega, step _ st (by omega), v1, if_neg gb_n10, w1, gb_bd_s]
          have := t2 (F + T2) (st + 1) (by omega)
          rw [rl2] at this
          rw [this, show nI (r.length + 1) + (-1) = nI r.length by rw [sb_m1 (by omega)]; rfl, u2 F (st + 1 + T1) (by omega), show st + 1 + T1 + T2 = st + (1 + T1 + T2) by omega]
        · show gBsC gs sh pl ((((List.range sh.length).drop f).flatMap (fun c => if gokc n gs.length (gb_k0 gs) sh r c = true then (r ++ [c]) :: dfsP (gokc n gs.length (gb_k0 gs) sh) sh.length d (r ++ [c]) else [])).foldl (gstC gs sh pl) o) I5 J5
          rw [dr, List.flatMap_cons, if_pos ok, List.cons_append, List.foldl_cons, List.foldl_append]
          rw [dfsP_F]
          exact u6
      · obtain ⟨v0, P2⟩ := s7 ok
        obtain ⟨T2, I5, J5, u1, u2, u3, u4, u5, u6⟩ := ihk (f + 1) I2 J2 o (by omega) P2 s5 b2
        refine ⟨1 + T2, I5, J5, ?_, fun F st hst => ?_, fS2.t u3, u4, fun l hl => by rw [u5 l hl, s4 l hl], ?_⟩
        · show 1 + T2 ≤ 1 + (k + 1) * (1 + gTm d 8)
          have u1' : T2 ≤ 1 + k * (1 + gTm d 8) := u1
          rw [Nat.add_mul, Nat.one_mul]
          omega
        · rw [show F + (1 + T2) = F + T2 + 1 by omega, step _ st (by omega), v0, if_pos rfl, u2 F (st + 1) (by omega), show st + 1 + T2 = st + (1 + T2) by omega]
        · show gBsC gs sh pl ((((List.range sh.length).drop f).flatMap (fun c => if gokc n gs.length (gb_k0 gs) sh r c = true then (r ++ [c]) :: dfsP (gokc n gs.length (gb_k0 gs) sh) sh.length d (r ++ [c]) else [])).foldl (gstC gs sh pl) o) I5 J5
          rw [dr, List.flatMap_cons, if_neg ok, List.nil_append]
          exact u6
end XSEARCH
