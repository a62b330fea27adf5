section LAYS
variable {I I' I1 I2 : gb_FI} {J J' J1 J2 : gb_FJ} {g w i j x r m f : Nat}
/-- the place of a word's counts, behind i paths -/
def gplN (g w : Nat) : Nat → Nat
  | 0 => 0
  | i + 1 => 4 * gplN g w i + gw_in g w (4 - i) g
theorem gplN_b (g3 : g ≤ 3) : ∀ i, gplN g w i < 4 ^ i
  | 0 => by show 0 < 1; decide
  | i + 1 => by
    have h := gplN_b g3 i
    have b := gw_in_b (g := g) (w := w) (x := 4 - i) g
    show 4 * gplN g w i + gw_in g w (4 - i) g < 4 ^ (i + 1)
    rw [Nat.pow_succ]
    omega
def gl_w (J : gb_FJ) (pl f : Nat) : gb_FJ := gb_u (gb_u J 256 pl (J 256 pl + lN f * qU (pq J 258))) 257 pl (J 257 pl + lN f * qV (pq J 258))
theorem gl_v : ∀ i, i < 5 → ¬ (nI 4 - nI i < 0) ∧ nI 4 - nI i = nI (4 - i) ∧ nI 4 - nI i + (-1 : Int32) = nI 4 - nI (i + 1) := by decide
theorem m_lays190 (hg : I 241 23 = nI g) (g3 : g ≤ 3) (hw : w < 4096) (k102 : Nat → Int32 → gb_H → Option (Unit × gb_H)) : lpX11_lays_190 k102 gb_FU 241 (nI w) (lN f) 0 4 (gb_mk I J) = k102 241 (nI (w + 1)) (gb_mk I (gl_w J (gplN g w 5) f)) := by
  have i0 : ∀ (I : gb_FI) (J : gb_FJ), gb_in (gb_mk I J) 258 (0 : Int32) = true := fun I J => gi258 (j := 0) (by decide)
  have i1 : ∀ (I : gb_FI) (J : gb_FJ), gb_in (gb_mk I J) 258 (1 : Int32) = true := fun I J => gi258 (j := 1) (by decide)
  have i2 : ∀ (I : gb_FI) (J : gb_FJ), gb_in (gb_mk I J) 258 (2 : Int32) = true := fun I J => gi258 (j := 2) (by decide)
  have i3 : ∀ (I : gb_FI) (J : gb_FJ), gb_in (gb_mk I J) 258 (3 : Int32) = true := fun I J => gi258 (j := 3) (by decide)
  have c0 : (0 : Int32).toNatClampNeg = 0 := rfl
  have c1 : (1 : Int32).toNatClampNeg = 1 := rfl
  have c2 : (2 : Int32).toNatClampNeg = 2 := rfl
  have c3 : (3 : Int32).toNatClampNeg = 3 := rfl
  have pb : gplN g w 5 < 1024 := gplN_b g3 5
  unfold lpX11_lays_190
  have z : (241, nI w, lN f, (0 : Int32), (4 : Int32), gb_mk I J) = (fun i => (241, nI w, lN f, nI (gplN g w i), nI 4 - nI i, gb_mk I J)) 0 := rfl
  rw [z]
  refine gb_forF (fun i => (241, nI w, lN f, nI (gplN g w i), nI 4 - nI i, gb_mk I J)) 5 (by decide) ?_ ?_
  · intro i hi k
    obtain ⟨v1, v2, v3⟩ := gl_v i hi
    simp only [fbX11_lays_190]
    rw [if_neg v1, gk241, gb_gd_t, v3, v2, m_inPath hg g3 hw (by omega), gb_bd_s, gb_lt_d, gb_lt_d, show (4 : Int32) = nI 4 from rfl, gb_nI_mul, nI_add]
    rfl
  · intro k
    simp only [fbX11_lays_190, fbX11_lays_336]
    rw [if_pos (show nI 4 - nI 5 < 0 by decide)]
    rw [gk241, gb_gd_t, gr241_28, gb_rd_s, gk256, gb_gd_t, gi256 pb, gb_gd_t, gb_gd_t, gr241_31, gb_rd_s, gk258, gb_gd_t, i0, gb_gd_t, gb_gd_t, gb_rd_s, gk258, gb_gd_t, i0, gb_gd_t, gb_gd_t, gb_rd_s, gk258, gb_gd_t, i1, gb_gd_t, gb_gd_t, gb_rd_s, gk258, gb_gd_t, i1, gb_gd_t, gb_gd_t, gb_rd_s, gk258, gb_gd_t, i2, gb_gd_t, gb_gd_t, gb_rd_s, gk258, gb_gd_t, i2, gb_gd_t, gb_gd_t, gb_rd_s, gk258, gb_gd_t, i3, gb_gd_t, gb_gd_t, gb_rd_s, gk258, gb_gd_t, i3, gb_gd_t, gb_gd_t, gb_gd_t, gb_lt_d, gb_sL_mk, c0, c1, c2, c3, gb_L_mk, nI_clamp (by omega)]
    rw [gk241, gb_gd_t, gr241_29, gb_rd_s, gk257, gb_gd_t, gi257 pb, gb_gd_t, gb_gd_t, gr241_31, gb_rd_s, gk258, gb_gd_t, i0, gb_gd_t, gb_gd_t, gb_rd_s, gk258, gb_gd_t, i1, gb_gd_t, gb_gd_t, gb_rd_s, gk258, gb_gd_t, i2, gb_gd_t, gb_gd_t, gb_rd_s, gk258, gb_gd_t, i3, gb_gd_t, gb_gd_t, gb_gd_t, gb_lt_d, gb_sL_mk, gb_L_mk, gb_lt_d, nI_1]
    rw [gb_u_ne _ _ (show 257 ≠ 256 by decide), gb_u_ne _ _ (show 258 ≠ 256 by decide), gb_u_ne _ _ (show 258 ≠ 256 by decide), gb_u_ne _ _ (show 258 ≠ 256 by decide), gb_u_ne _ _ (show 258 ≠ 256 by decide)]
    have e : lN f * 2 * (J 258 0 * J 258 1 + J 258 2 * J 258 3) = lN f * qV (pq J 258) := by
      show _ = lN f * (2 * (J 258 0 * J 258 1 + J 258 2 * J 258 3))
      rw [Int64.mul_assoc]
    rw [e]
    rfl
/-- what one word gives -/
def gtU (g : Nat) (N : Nat → gb_q) (r w : Nat) : Int64 := if gw_so g w = true ∧ gplN g w 5 = r then lN (gb_od (gw_k g w)) * qU (N w) else 0
def gtV (g : Nat) (N : Nat → gb_q) (r w : Nat) : Int64 := if gw_so g w = true ∧ gplN g w 5 = r then lN (gb_od (gw_k g w)) * qV (N w) else 0
theorem m_lays102 {N : Nat → gb_q} (hg : I 241 23 = nI g) (g3 : g ≤ 3) (hW : I 241 24 = nI (16 ^ g)) (hN : ∀ w, w < 16 ^ g → ∀ r, r < 4 → gS (16 ^ g) (fun v => if gw_k g v = gw_k g w then J 251 (4 * v + r) else 0) = qc (N w) r) :
    ∀ m i F (I1 : gb_FI) (J1 : gb_FJ), i + m = 16 ^ g → m < F → (∀ x, x ≠ 259 → I1 x = I x) → (∀ x, x ≠ 256 → x ≠ 257 → x ≠ 258 → J1 x = J x) → (∀ r, r < 1024 → J1 256 r = gS i (gtU g N r) ∧ J1 257 r = gS i (gtV g N r)) →
      ∃ I2 J2, lpX11_lays_102 F 241 (nI i) (gb_mk I1 J1) = some ((), gb_mk I2 J2) ∧ (∀ x, x ≠ 259 → I2 x = I x) ∧ (∀ x, x ≠ 256 → x ≠ 257 → x ≠ 258 → J2 x = J x) ∧ (∀ r, r < 1024 → J2 256 r = gS (16 ^ g) (gtU g N r) ∧ J2 257 r = gS (16 ^ g) (gtV g N r)) := by
  have w4 : (16 : Nat) ^ g ≤ 4096 := Nat.le_trans (Nat.pow_le_pow_right (by decide) g3) (by decide)
  have c0 : (0 : Int32).toNatClampNeg = 0 := rfl
  have c1 : (1 : Int32).toNatClampNeg = 1 := rfl
  have c2 : (2 : Int32).toNatClampNeg = 2 := rfl
  have c3 : (3 : Int32).toNatClampNeg = 3 := rfl
  have i0 : ∀ (I : gb_FI) (J : gb_FJ), gb_in (gb_mk I J) 258 (0 : Int32) = true := fun I J => gi258 (j := 0) (by decide)
  have i1 : ∀ (I : gb_FI) (J : gb_FJ), gb_in (gb_mk I J) 258 (1 : Int32) = true := fun I J => gi258 (j := 1) (by decide)
  have i2 : ∀ (I : gb_FI) (J : gb_FJ), gb_in (gb_mk I J) 258 (2 : Int32) = true := fun I J => gi258 (j := 2) (by decide)
  have i3 : ∀ (I : gb_FI) (J : gb_FJ), gb_in (gb_mk I J) 258 (3 : Int32) = true := fun I J => gi258 (j := 3) (by decide)
  intro m
  induction m with
  | zero =>
    intro i F I1 J1 hi hF h1 h2 h3
    obtain ⟨F, rfl⟩ : ∃ f, F = f + 1 := ⟨F - 1, by omega⟩
    refine ⟨I1, J1, ?_, h1, h2, by rw [show 16 ^ g = i by omega]; exact h3⟩
    rw [show lpX11_lays_102 (F + 1) 241 (nI i) (gb_mk I1 J1) = fbX11_lays_102 (fun v0 v6 h => lpX11_lays_102 F v0 v6 h) 241 (nI i) (gb_mk I1 J1) from rfl]
    unfold fbX11_lays_102
    rw [gk241, gb_gd_t, gb_I_mk, h1 241 (by decide), hW, if_pos (nI_le (by omega) (by omega))]
  | succ m ih =>
    intro i F I1 J1 hi hF h1 h2 h3
    obtain ⟨F, rfl⟩ : ∃ f, F = f + 1 := ⟨F - 1, by omega⟩
    have g1 : I1 241 23 = nI g := by rw [h1 241 (by decide)]; exact hg
    have iw : i < 16 ^ g := by omega
    rw [show lpX11_lays_102 (F + 1) 241 (nI i) (gb_mk I1 J1) = fbX11_lays_102 (fun v0 v6 h => lpX11_lays_102 F v0 v6 h) 241 (nI i) (gb_mk I1 J1) from rfl]
    unfold fbX11_lays_102
    rw [gk241, gb_gd_t, gb_I_mk, h1 241 (by decide), hW, if_neg (nI_ge iw (by omega)), gb_gd_t, m_isSorted g1 g3 (by omega), gb_bd_s]
    by_cases so : gw_so g i = true
    · rw [if_pos so, if_neg gb_n10, gk241, gb_gd_t]
      obtain ⟨I2, J2, s1, s2, s3, s4⟩ := m_gathers (I := I1) (J := J1) g3 g1 iw
      have j1 : J1 251 = J 251 := h2 251 (by decide) (by decide) (by decide)
      have nn : ∀ r, r < 4 → J2 258 r = qc (N i) r := fun r hr => by
        rw [s4 r hr, j1, hN i iw r hr]
      have pqn : pq J2 258 = N i := qc_ext (fun r hr => by
        rw [← nn r hr]
        unfold pq qc
        match r, hr with
        | 0, _ => rfl
        | 1, _ => rfl
        | 2, _ => rfl
        | 3, _ => rfl)
      have f1 : ∀ x, x ≠ 259 → I2 x = I x := fun x hx => (s2 x hx).trans (h1 x hx)
      have g2 : I2 241 23 = nI g := by rw [f1 241 (by decide)]; exact hg
      have pb : gplN g i 5 < 1024 := gplN_b g3 5
      rw [s1, gb_bd_s, gk241, gb_gd_t, gr241_31, gb_rd_s, gk258, gb_gd_t, i0, gb_gd_t, gb_L_mk, c0]
      have skip : N i = qZ → ∃ I3 J3, fbX11_lays_336 (fun v0 v6 h => lpX11_lays_102 F v0 v6 h) 241 (nI i) (gb_mk I2 J2) = some ((), gb_mk I3 J3) ∧ (∀ x, x ≠ 259 → I3 x = I x) ∧ (∀ x, x ≠ 256 → x ≠ 257 → x ≠ 258 → J3 x = J x) ∧ (∀ r, r < 1024 → J3 256 r = gS (16 ^ g) (gtU g N r) ∧ J3 257 r = gS (16 ^ g) (gtV g N r)) := fun z => by
        unfold fbX11_lays_336
        rw [gb_lt_d, nI_1]
        refine ih (i + 1) F I2 J2 (by omega) (by omega) f1 (fun x x1 x2 x3 => (s3 x x3).trans (h2 x x1 x2 x3)) (fun r hr => ?_)
        rw [s3 256 (by decide), s3 257 (by decide), (h3 r hr).1, (h3 r hr).2]
        have zu : gtU g N r i = 0 := by
          unfold gtU
          rw [z, show qU qZ = 0 from rfl, Int64.mul_zero, ite_self]
        have zv : gtV g N r i = 0 := by
          unfold gtV
          rw [z, show qV qZ = 0 from rfl, Int64.mul_zero, ite_self]
        exact ⟨by rw [gS, zu, Int64.add_zero], by rw [gS, zv, Int64.add_zero]⟩
      have go : ∃ I3 J3, fbX11_lays_176 (fun v0 v6 h => lpX11_lays_102 F v0 v6 h) 241 (nI i) (gb_mk I2 J2) = some ((), gb_mk I3 J3) ∧ (∀ x, x ≠ 259 → I3 x = I x) ∧ (∀ x, x ≠ 256 → x ≠ 257 → x ≠ 258 → J3 x = J x) ∧ (∀ r, r < 1024 → J3 256 r = gS (16 ^ g) (gtU g N r) ∧ J3 257 r = gS (16 ^ g) (gtV g N r)) := by
        unfold fbX11_lays_176
        rw [gk241, gb_gd_t, m_factorials g2 g3 (by omega), gb_bd_s, m_lays190 g2 g3 (by omega)]
        refine ih (i + 1) F I2 _ (by omega) (by omega) f1 (fun x x1 x2 x3 => ?_) (fun r hr => ?_)
        · unfold gl_w
          rw [gb_u_row _ _ x2, gb_u_row _ _ x1]
          exact (s3 x x3).trans (h2 x x1 x2 x3)
        · unfold gl_w
          rw [pqn, gb_u_ne _ _ (show 256 ≠ 257 by decide), gb_ua, gb_ua, gb_u_ne _ _ (show 257 ≠ 256 by decide)]
          rw [s3 256 (by decide), s3 257 (by decide), gS, gS]
          unfold gtU gtV
          by_cases e : r = gplN g i 5
          · rw [if_pos e, if_pos e, if_pos ⟨so, e.symm⟩, if_pos ⟨so, e.symm⟩, (h3 _ pb).1, (h3 _ pb).2, ← e]
            exact ⟨rfl, rfl⟩
          · rw [if_neg e, if_neg e, if_neg (fun z => e z.2.symm), if_neg (fun z => e z.2.symm), (h3 r hr).1, (h3 r hr).2, Int64.add_zero, Int64.add_zero]
            exact ⟨rfl, rfl⟩
      by_cases d0 : J2 258 0 = 0
      · rw [if_pos d0, gb_gd_t, gb_rd_s, gk258, gb_gd_t, i1, gb_gd_t, c1]
        by_cases d1 : J2 258 1 = 0
        · rw [if_pos d1, gb_gd_t, gb_rd_s, gk258, gb_gd_t, i2, gb_gd_t, c2]
          by_cases d2 : J2 258 2 = 0
          · rw [if_pos d2, gb_gd_t, gb_rd_s, gk258, gb_gd_t, i3, gb_gd_t, c3]
            by_cases d3 : J2 258 3 = 0
            · rw [if_pos d3]
              refine skip ?_
              rw [← pqn]
              unfold pq qZ
              rw [d0, d1, d2, d3]
            · rw [if_neg d3]; exact go
          · rw [if_neg d2]; exact go
        · rw [if_neg d1]; exact go
      · rw [if_neg d0]; exact go
    · rw [if_neg so, if_pos (show (0 : Int32) = 0 from rfl)]
      unfold fbX11_lays_336
      rw [gb_lt_d, nI_1]
      refine ih (i + 1) F I1 J1 (by omega) (by omega) h1 h2 (fun r hr => ?_)
      rw [(h3 r hr).1, (h3 r hr).2, gS, gS]
      unfold gtU gtV
      rw [if_neg (fun z => so z.1), if_neg (fun z => so z.1), Int64.add_zero, Int64.add_zero]
      exact ⟨rfl, rfl⟩
end LAYS
