section FITS
variable {S : gb_S} {I I' I1 I2 : gb_FI} {J J' J1 J2 : gb_FJ} {b d i : Nat}
/-- the best of the first so many benches -/
def gfb (m : Nat → Int32) : Nat → Option Nat
  | 0 => none
  | i + 1 => if m i = -1 then gfb m i else match gfb m i with
    | none => some i
    | some j => if m j ≤ m i then some j else some i
def gfv (o : Option Nat) : Int32 := match o with
  | none => -1
  | some j => nI j
def gfl (m : Nat → Int32) (o : Option Nat) : Int32 := match o with
  | none => 0
  | some j => m j
theorem gfb_b {m : Nat → Int32} : ∀ i j, gfb m i = some j → j < i
  | 0, j, h => by cases h
  | i + 1, j, h => by
    rw [gfb] at h
    split at h
    · have := gfb_b i j h; omega
    · split at h
      · cases h; omega
      · next j' e =>
        have := gfb_b i j' e
        split at h
        · cases h; omega
        · cases h; omega
def a_fits (d : Int32) (S : gb_S) : Int32 × gb_S := (gfv (gfb (fun b => (a_misfit (nI b) d S).1) 4), S)
theorem gb_rg4 (hb : b < 4) : gb_rg (nI b) 4 = true := by
  rw [gb_rg_nI (by omega)]
  simp
  exact hb
theorem x_ft16 (hB : ∀ b, b < 4 → gb_wl 0 0 (S.2.2.2.2.1 b)) (hd : d < 1000) : ∀ k i F (I1 : gb_FI) (J1 : gb_FJ), i + k = 4 → k < F → RX gCK S I1 J1 → gb_fx I I1 J J1 → ∃ I2 J2, lpX10_fits_16 F 0 (nI d) (gfv (gfb (fun b => gmv S b d) i)) (gfl (fun b => gmv S b d) (gfb (fun b => gmv S b d) i)) (nI i) (gb_mk I1 J1) = some (gfv (gfb (fun b => gmv S b d) 4), gb_mk I2 J2) ∧ RX gCK S I2 J2 ∧ gb_fx I I2 J J2 := by
  intro k
  induction k with
  | zero =>
    intro i F I1 J1 hi hF hx hf
    obtain ⟨F, rfl⟩ : ∃ f, F = f + 1 := ⟨F - 1, by omega⟩
    refine ⟨I1, J1, ?_, hx, hf⟩
    rw [show ∀ v w, lpX10_fits_16 (F + 1) 0 (nI d) v w (nI i) (gb_mk I1 J1) = fbX10_fits_16 (fun v0 v1 v2 v3 v4 h => lpX10_fits_16 F v0 v1 v2 v3 v4 h) 0 (nI d) v w (nI i) (gb_mk I1 J1) from fun _ _ => rfl]
    unfold fbX10_fits_16
    rw [if_pos (show (4 : Int32) ≤ nI i from nI_le (a := 4) (by omega) (by omega)), show i = 4 by omega]
  | succ k ih =>
    intro i F I1 J1 hi hF hx hf
    obtain ⟨F, rfl⟩ : ∃ f, F = f + 1 := ⟨F - 1, by omega⟩
    have i4 : i < 4 := by omega
    obtain ⟨I2, J2, s1, s2, s3, s4, s5⟩ := x_isTold hx i4 (hB i i4)
    rw [show ∀ v w, lpX10_fits_16 (F + 1) 0 (nI d) v w (nI i) (gb_mk I1 J1) = fbX10_fits_16 (fun v0 v1 v2 v3 v4 h => lpX10_fits_16 F v0 v1 v2 v3 v4 h) 0 (nI d) v w (nI i) (gb_mk I1 J1) from fun _ _ => rfl]
    unfold fbX10_fits_16
    rw [if_neg (show ¬ (4 : Int32) ≤ nI i from nI_ge (b := 4) i4 (by omega)), gk0, gb_gd_t, s1, gb_bd_s]
    have fin : ∀ (I3 : gb_FI) (J3 : gb_FJ), RX gCK S I3 J3 → gb_fx I I3 J J3 → ∃ I4 J4, fbX10_fits_42 (fun v0 v1 v2 v3 v4 h => lpX10_fits_16 F v0 v1 v2 v3 v4 h) 0 (nI d) (gfv (gfb (fun b => gmv S b d) i)) (gfl (fun b => gmv S b d) (gfb (fun b => gmv S b d) i)) (nI i) (gmv S i d) (gb_mk I3 J3) = some (gfv (gfb (fun b => gmv S b d) 4), gb_mk I4 J4) ∧ RX gCK S I4 J4 ∧ gb_fx I I4 J J4 := fun I3 J3 r3 f3 => by
      have go := ih (i + 1) F I3 J3 (by omega) (by omega) r3 f3
      rw [show gfb (fun b => gmv S b d) (i + 1) = if gmv S i d = -1 then gfb (fun b => gmv S b d) i else match gfb (fun b => gmv S b d) i with | none => some i | some j => if gmv S j d ≤ gmv S i d then some j else some i from rfl] at go
      unfold fbX10_fits_42 fbX10_fits_61 fbX10_fits_67
      by_cases e : gmv S i d = -1
      · rw [if_pos e] at go ⊢
        rw [gb_lt_d, nI_1]
        exact go
      · rw [if_neg e] at go ⊢
        cases q : gfb (fun b => gmv S b d) i with
        | none =>
          rw [q] at go
          rw [if_pos (show gfv none = -1 from rfl), gb_lt_d, nI_1]
          exact go
        | some j =>
          rw [q] at go
          have jb := gfb_b _ _ q
          rw [if_neg (show ¬ gfv (some j) = -1 from gb_nm1 j (by omega))]
          simp only at go
          show ∃ I4 J4, (if gmv S j d ≤ gmv S i d then _ else _) = _ ∧ _
          by_cases y : gmv S j d ≤ gmv S i d
          · rw [if_pos y] at go ⊢
            rw [gb_lt_d, nI_1]
            exact go
          · rw [if_neg y] at go ⊢
            rw [gb_lt_d, nI_1]
            exact go
    by_cases dd : gb_dpt S.1.length (S.2.2.2.2.1 i) ≤ 300000
    · obtain ⟨I3, J3, t1, t2, t3⟩ := x_sumApart s2 i4 (hB i i4) hd s4 dd
      rw [if_pos dd, if_neg gb_n10, gk0, gb_gd_t, t1, gb_bd_s, show gmf S.1 (S.2.2.2.2.1 i) S.2.2.2.2.2.2.1 (gcn S i d) (gca S i d) = gmv S i d from (if_pos dd).symm]
      exact fin I3 J3 t2 (fun n hn => ⟨(t3 n hn).1.trans ((s3 n hn).1.trans (hf n hn).1), (t3 n hn).2.trans ((s3 n hn).2.trans (hf n hn).2)⟩)
    · rw [if_neg dd, if_pos (show (0 : Int32) = 0 from rfl), show (-1 : Int32) = gmv S i d from (if_neg dd).symm]
      exact fin I2 J2 s2 (fun n hn => ⟨(s3 n hn).1.trans (hf n hn).1, (s3 n hn).2.trans (hf n hn).2⟩)
theorem gfb_congr {m m' : Nat → Int32} : ∀ n, (∀ i, i < n → m i = m' i) → gfb m n = gfb m' n
  | 0, _ => rfl
  | n + 1, h => by
    have ih := gfb_congr n (fun i hi => h i (by omega))
    rw [gfb, gfb, ih, h n (by omega)]
    split
    · rfl
    · cases q : gfb m' n with
      | none => rfl
      | some j =>
        have := gfb_b _ _ q
        simp only
        rw [h j (by omega)]
theorem gfb_none {m : Nat → Int32} : ∀ n, (∀ i, i < n → m i = -1) → gfb m n = none
  | 0, _ => rfl
  | n + 1, h => by
    rw [gfb, if_pos (h n (by omega)), gfb_none n (fun i hi => h i (by omega))]
theorem X_fits (h : RX gCK S I J) (hB : ∀ b, b < 4 → gb_wl 0 0 (S.2.2.2.2.1 b)) (d : Int32) : xok gCK (fnX10_fits 0 d) I J (a_fits d S) := by
  unfold a_fits xok fnX10_fits
  rw [x_isDay, gb_bd_s]
  by_cases h3 : gb_rg d 1000 = true
  · rw [if_pos h3, if_neg gb_n10]
    obtain ⟨d', hd, _, rfl⟩ := gb_rgT h3
    obtain ⟨I2, J2, s1, s2, s3⟩ := x_ft16 (I := I) (J := J) hB hd 4 0 gb_FU I J (by decide) (by decide) h gb_fx.r
    refine ⟨I2, J2, ?_, s2, s3⟩
    rw [gfb_congr (m' := fun b => gmv S b d') 4 (fun i hi => by
      unfold a_misfit
      simp only
      rw [if_pos ⟨gb_rg4 hi, h3⟩, nI_clamp (by omega), nI_clamp (by omega)])]
    exact s1
  · rw [if_neg h3, if_pos (show (0 : Int32) = 0 from rfl), gfb_none 4 (fun i hi => by
      unfold a_misfit
      simp only
      rw [if_neg (fun z => h3 z.2)])]
    exact ⟨I, J, rfl, h, gb_fx.r⟩
theorem m_ft4 (hgs : ∀ m ∈ S.1, m < 10) (g3 : S.1.length ≤ 3) (hB : ∀ b, b < 4 → (S.2.2.2.2.1 b).length ≤ 16 ∧ gb_wl 0 0 (S.2.2.2.2.1 b)) (d : Int32) : ∀ k i F (I1 : gb_FI) (J1 : gb_FJ), i + k = 4 → k < F → RM S I1 J1 → gb_fm I I1 J J1 → ∃ I2 J2, lpX11_fits_4 F 241 d (gfv (gfb (fun b => (a_misfit (nI b) d S).1) i)) (nI i) (gb_mk I1 J1) = some (gfv (gfb (fun b => (a_misfit (nI b) d S).1) 4), gb_mk I2 J2) ∧ RM S I2 J2 ∧ gb_fm I I2 J J2 := by
  intro k
  induction k with
  | zero =>
    intro i F I1 J1 hi hF hx hf
    obtain ⟨F, rfl⟩ : ∃ f, F = f + 1 := ⟨F - 1, by omega⟩
    refine ⟨I1, J1, ?_, hx, hf⟩
    rw [show ∀ v, lpX11_fits_4 (F + 1) 241 d v (nI i) (gb_mk I1 J1) = fbX11_fits_4 (fun v0 v1 v2 v3 h => lpX11_fits_4 F v0 v1 v2 v3 h) 241 d v (nI i) (gb_mk I1 J1) from fun _ => rfl]
    unfold fbX11_fits_4
    rw [if_pos (show (4 : Int32) ≤ nI i from nI_le (a := 4) (by omega) (by omega)), show i = 4 by omega]
  | succ k ih =>
    intro i F I1 J1 hi hF hx hf
    obtain ⟨F, rfl⟩ : ∃ f, F = f + 1 := ⟨F - 1, by omega⟩
    have tr : ∀ {I1 I2 J1 J2}, gb_fm I I1 J J1 → gb_fm I1 I2 J1 J2 → gb_fm I I2 J J2 := fun f f' n hn => ⟨(f' n hn).1.trans (f n hn).1, (f' n hn).2.trans (f n hn).2⟩
    obtain ⟨I2, J2, s1, s2, s3⟩ := m_misfit hx hgs g3 hB (nI i) d
    have s2' : RM S I2 J2 := s2
    rw [show ∀ v, lpX11_fits_4 (F + 1) 241 d v (nI i) (gb_mk I1 J1) = fbX11_fits_4 (fun v0 v1 v2 v3 h => lpX11_fits_4 F v0 v1 v2 v3 h) 241 d v (nI i) (gb_mk I1 J1) from fun _ => rfl]
    unfold fbX11_fits_4 fbX11_fits_39 fbX11_fits_41
    rw [if_neg (show ¬ (4 : Int32) ≤ nI i from nI_ge (b := 4) (by omega) (by omega)), gk241, gb_gd_t, s1, gb_bd_s]
    have e1 : gfb (fun b => (a_misfit (nI b) d S).1) (i + 1) = if (a_misfit (nI i) d S).1 = -1 then gfb (fun b => (a_misfit (nI b) d S).1) i else match gfb (fun b => (a_misfit (nI b) d S).1) i with | none => some i | some j => if (a_misfit (nI j) d S).1 ≤ (a_misfit (nI i) d S).1 then some j else some i := rfl
    by_cases e : (a_misfit (nI i) d S).1 = -1
    · have go := ih (i + 1) F I2 J2 (by omega) (by omega) s2' (tr hf s3)
      rw [e1, if_pos e] at go
      rw [if_pos e, gb_lt_d, nI_1]
      exact go
    · rw [if_neg e]
      cases q : gfb (fun b => (a_misfit (nI b) d S).1) i with
      | none =>
        have go := ih (i + 1) F I2 J2 (by omega) (by omega) s2' (tr hf s3)
        rw [e1, if_neg e, q] at go
        rw [if_pos (show gfv none = -1 from rfl), gb_lt_d, nI_1]
        exact go
      | some j =>
        have jb := gfb_b _ _ q
        obtain ⟨I3, J3, t1, t2, t3⟩ := m_misfit s2' hgs g3 hB (nI i) d
        have t2' : RM S I3 J3 := t2
        obtain ⟨I4, J4, u1, u2, u3⟩ := m_misfit t2' hgs g3 hB (nI j) d
        have u2' : RM S I4 J4 := u2
        have go := ih (i + 1) F I4 J4 (by omega) (by omega) u2' (tr (tr (tr hf s3) t3) u3)
        rw [e1, if_neg e, q] at go
        simp only at go
        rw [if_neg (show ¬ gfv (some j) = -1 from gb_nm1 j (by omega)), gk241, gb_gd_t, t1, gb_bd_s, gk241, gb_gd_t, show gfv (some j) = nI j from rfl, u1, gb_bd_s]
        by_cases y : (a_misfit (nI j) d S).1 ≤ (a_misfit (nI i) d S).1
        · rw [if_pos y] at go ⊢
          rw [gb_lt_d, nI_1]
          exact go
        · rw [if_neg y] at go ⊢
          rw [gb_lt_d, nI_1]
          exact go
theorem M_fits (h : RM S I J) (hgs : ∀ m ∈ S.1, m < 10) (g3 : S.1.length ≤ 3) (hB : ∀ b, b < 4 → (S.2.2.2.2.1 b).length ≤ 16 ∧ gb_wl 0 0 (S.2.2.2.2.1 b)) (d : Int32) : mok (fnX11_fits 241 d) I J (a_fits d S) := by
  obtain ⟨I2, J2, s1, s2, s3⟩ := m_ft4 (I := I) (J := J) hgs g3 hB d 4 0 gb_FU I J (by decide) (by decide) h gb_fm.r
  exact ⟨I2, J2, s1, s2, s3⟩
end FITS
