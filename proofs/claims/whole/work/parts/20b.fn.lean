def fnX5_init (p0 : Nat) (h : gb_H) : Option (Unit × gb_H) :=
  some ((), h)
theorem fnX5_init_ok {X : gb_X}  {p0 : Nat} (h : gb_H) (r : Unit × gb_H) (hF : fnX5_init p0 h = some r) : gb_Ev X 2 mX5_init 0 (gb_L0 [.ref p0]) [] h (gb_wV r) := by
  unfold fnX5_init at hF
  refine gb_weak (L' := [some (.ref p0)]) (And.intro rfl trivial) ?_
  refine gb_aload_n dX5_init_0 rfl rfl ?_
  refine gb_objInit dX5_init_1 lX5_3 gb_oin gb_ocd (by decide) (Nat.le_of_ble_eq_true rfl) ?_
  cases hF
  exact gb_vret dX5_init_4 rfl
def fbX2_init_14 (k14 : Nat → Int32 → Int32 → gb_H → Option (Unit × gb_H)) (v0 : Nat) (v1 : Int32) (v2 : Int32) (h : gb_H) : Option (Unit × gb_H) :=
  if v1 ≤ v2 then
    some ((), h)
  else
    gb_gd (gb_k h v0 2) <|
    gb_rd (gb_R h v0 0) fun a3 =>
    gb_lt (gb_cn h) fun a4 =>
    gb_lt (gb_nw h 5 0 9) fun h5 =>
    gb_bd (fnX5_init a4 h5) fun _ h7 =>
    gb_gd (gb_k h7 a3 35) <|
    gb_gd (gb_in h7 a3 v2) <|
    gb_gd (gb_k h7 a4 5) <|
    gb_lt (gb_sR h7 a3 v2.toNatClampNeg (some a4)) fun h11 =>
    gb_lt (v2 + (1 : Int32)) fun x12 =>
    k14 v0 v1 x12 h11
theorem fbX2_init_14_ok {X : gb_X} {k14 : Nat → Int32 → Int32 → gb_H → Option (Unit × gb_H)} (hk14 : ∀ v0 v1 v2 h r, k14 v0 v1 v2 h = some r → gb_Ev X 3 mX2_init 14 [some (.ref v0), some (.int v1), some (.int v2)] [] h (gb_wV r)) (v0 : Nat) (v1 : Int32) (v2 : Int32) (h : gb_H) (r : Unit × gb_H) (hF : fbX2_init_14 k14 v0 v1 v2 h = some r) : gb_Ev X 3 mX2_init 14 [some (.ref v0), some (.int v1), some (.int v2)] [] h (gb_wV r) := by
  unfold fbX2_init_14 at hF
  refine gb_iload_n dX2_init_14 rfl rfl ?_
  refine gb_iload_n dX2_init_15 rfl rfl ?_
  refine gb_icmp_ge (tgt := 38) dX2_init_16 (by decide) (fun c1 => ?_) (fun c1 => ?_)
  · replace hF := gb_ifT c1 hF
    cases hF
    exact gb_vret dX2_init_38 rfl
  · replace hF := gb_ifF c1 hF
    refine gb_aload_n dX2_init_19 rfl rfl ?_
    obtain ⟨g2, hF⟩ := gb_gdE hF
    obtain ⟨a3, ea3, hF⟩ := gb_rdE hF
    refine gb_getR fX2_11 dX2_init_20 (gb_kE g2) ea3 ?_
    refine gb_iload_n dX2_init_23 rfl rfl ?_
    obtain ⟨a4, ea4, hF⟩ := gb_ltE hF
    obtain ⟨h5, eh5, hF⟩ := gb_ltE hF
    refine gb_new cf5 cX2_9 df5 dX2_init_24 (gb_hp eh5 (gb_topA ea4 ?_))
    refine gb_dup dX2_init_27 rfl ?_
    obtain ⟨x6, h7, cx6, hF⟩ := gb_bdE hF
    refine gb_callI (As := []) (S := [.ref a4, .int v2, .ref a3]) (h1 := h7) dX2_init_28 mtX5_init rfl rfl lX2_17 inX5_init (fnX5_init_ok _ _ cx6) (by decide) rfl (Nat.le_of_ble_eq_true rfl) (Nat.le_of_ble_eq_true rfl) rfl ?_
    obtain ⟨g8, hF⟩ := gb_gdE hF
    obtain ⟨g9, hF⟩ := gb_gdE hF
    obtain ⟨g10, hF⟩ := gb_gdE hF
    obtain ⟨h11, eh11, hF⟩ := gb_ltE hF
    refine gb_aast cf5 dX2_init_31 (gb_kE g8) ⟨by decide, rfl⟩ (gb_kE g10) (gb_inE g9) (gb_hp eh11 ?_)
    obtain ⟨x12, ex12, hF⟩ := gb_ltE hF
    refine gb_iinc (v := x12) (L' := [some (.ref v0), some (.int v1), some (.int x12)]) dX2_init_32 rfl (by rw [ex12]; rfl) (by decide) rfl rfl ?_
    refine gb_goto (tgt := 14) dX2_init_35 (by decide) ?_
    exact gb_wk (hk14 v0 v1 x12 h11 r hF) (And.intro rfl (And.intro rfl (And.intro rfl trivial)))
def lpX2_init_14 (n : Nat) (v0 : Nat) (v1 : Int32) (v2 : Int32) (h : gb_H) : Option (Unit × gb_H) := gb_lp (σ := Nat × Int32 × Int32 × gb_H) (fun k s => fbX2_init_14 (fun v0 v1 v2 h => k (v0, v1, v2, h)) s.1 s.2.1 s.2.2.1 s.2.2.2) n (v0, v1, v2, h)
theorem lpX2_init_14_ok {X : gb_X}  (n : Nat) (v0 : Nat) (v1 : Int32) (v2 : Int32) (h : gb_H) (r : Unit × gb_H) (hF : lpX2_init_14 n v0 v1 v2 h = some r) : gb_Ev X 3 mX2_init 14 [some (.ref v0), some (.int v1), some (.int v2)] [] h (gb_wV r) := by
  exact gb_lpE (σ := Nat × Int32 × Int32 × gb_H) (P := fun s r => gb_Ev X 3 mX2_init 14 [some (.ref s.1), some (.int s.2.1), some (.int s.2.2.1)] [] s.2.2.2 (gb_wV r)) (fun k hk s r hs => fbX2_init_14_ok (fun v0 v1 v2 h r e => hk (v0, v1, v2, h) r e) _ _ _ _ r hs) n (v0, v1, v2, h) r hF
def fnX2_init (p0 : Nat) (p1 : Int32) (h : gb_H) : Option (Unit × gb_H) :=
  gb_lt (gb_cn h) fun a1 =>
  gb_gd (gb_nn p1 4) <|
  gb_lt (gb_nw h 35 p1.toNatClampNeg p1.toNatClampNeg) fun h3 =>
  gb_gd (gb_k h3 p0 2) <|
  gb_lt (gb_sR h3 p0 0 (some a1)) fun h5 =>
  lpX2_init_14 gb_FU p0 p1 (0 : Int32) h5
theorem fnX2_init_ok {X : gb_X}  {p0 : Nat} {p1 : Int32} (h : gb_H) (r : Unit × gb_H) (hF : fnX2_init p0 p1 h = some r) : gb_Ev X 3 mX2_init 0 (gb_L0 [.ref p0, .int p1]) [] h (gb_wV r) := by
  unfold fnX2_init at hF
  refine gb_weak (L' := [some (.ref p0), some (.int p1), none]) (And.intro rfl (And.intro rfl trivial)) ?_
  refine gb_aload_n dX2_init_0 rfl rfl ?_
  refine gb_objInit dX2_init_1 lX2_3 gb_oin gb_ocd (by decide) (Nat.le_of_ble_eq_true rfl) ?_
  refine gb_aload_n dX2_init_4 rfl rfl ?_
  refine gb_iload_n dX2_init_5 rfl rfl ?_
  obtain ⟨a1, ea1, hF⟩ := gb_ltE hF
  obtain ⟨g2, hF⟩ := gb_gdE hF
  obtain ⟨h3, eh3, hF⟩ := gb_ltE hF
  refine gb_anew (t := 35) (by decide) rfl (by decide) cX2_9 (gb_nnE g2).1 (gb_nnE g2).2 dX2_init_6 (gb_hp eh3 (gb_topA ea1 ?_))
  obtain ⟨g4, hF⟩ := gb_gdE hF
  obtain ⟨h5, eh5, hF⟩ := gb_ltE hF
  refine gb_putR fX2_11 ffX2_11 dX2_init_9 (gb_kE g4) (fun _ => ⟨rfl, rfl⟩) (gb_hp eh5 ?_)
  refine gb_iconst (v := (0 : Int32)) dX2_init_12 (by decide) ?_
  refine gb_istore_n (L' := [some (.ref p0), some (.int p1), some (.int (0 : Int32))]) dX2_init_13 rfl (by decide) rfl rfl ?_
  exact gb_wk (lpX2_init_14_ok gb_FU p0 p1 (0 : Int32) h5 r hF) (And.intro rfl (And.intro rfl (And.intro rfl trivial)))
def fnX4_init (p0 : Nat) (h : gb_H) : Option (Unit × gb_H) :=
  gb_lt (gb_cn h) fun a1 =>
  gb_gd (gb_nn (17 : Int32) 4) <|
  gb_lt (gb_nw h 20 (17 : Int32).toNatClampNeg (17 : Int32).toNatClampNeg) fun h3 =>
  gb_gd (gb_k h3 p0 4) <|
  gb_lt (gb_sR h3 p0 0 (some a1)) fun h5 =>
  gb_lt (gb_cn h5) fun a6 =>
  gb_gd (gb_nn (34 : Int32) 4) <|
  gb_lt (gb_nw h5 20 (34 : Int32).toNatClampNeg (34 : Int32).toNatClampNeg) fun h8 =>
  gb_gd (gb_k h8 p0 4) <|
  gb_lt (gb_sR h8 p0 1 (some a6)) fun h10 =>
  gb_lt (gb_cn h10) fun a11 =>
  gb_gd (gb_nn (34 : Int32) 4) <|
  gb_lt (gb_nw h10 20 (34 : Int32).toNatClampNeg (34 : Int32).toNatClampNeg) fun h13 =>
  gb_gd (gb_k h13 p0 4) <|
  gb_lt (gb_sR h13 p0 2 (some a11)) fun h15 =>
  gb_lt (gb_cn h15) fun a16 =>
  gb_gd (gb_nn (34 : Int32) 4) <|
  gb_lt (gb_nw h15 20 (34 : Int32).toNatClampNeg (34 : Int32).toNatClampNeg) fun h18 =>
  gb_gd (gb_k h18 p0 4) <|
  gb_lt (gb_sR h18 p0 3 (some a16)) fun h20 =>
  gb_lt (gb_cn h20) fun a21 =>
  gb_gd (gb_nn (34 : Int32) 4) <|
  gb_lt (gb_nw h20 20 (34 : Int32).toNatClampNeg (34 : Int32).toNatClampNeg) fun h23 =>
  gb_gd (gb_k h23 p0 4) <|
  gb_lt (gb_sR h23 p0 4 (some a21)) fun h25 =>
  some ((), h25)
theorem fnX4_init_ok {X : gb_X}  {p0 : Nat} (h : gb_H) (r : Unit × gb_H) (hF : fnX4_init p0 h = some r) : gb_Ev X 2 mX4_init 0 (gb_L0 [.ref p0]) [] h (gb_wV r) := by
  unfold fnX4_init at hF
  refine gb_weak (L' := [some (.ref p0)]) (And.intro rfl trivial) ?_
  refine gb_aload_n dX4_init_0 rfl rfl ?_
  refine gb_objInit dX4_init_1 lX4_3 gb_oin gb_ocd (by decide) (Nat.le_of_ble_eq_true rfl) ?_
  refine gb_aload_n dX4_init_4 rfl rfl ?_
  refine gb_bipush (v := (17 : Int32)) dX4_init_5 (by decide) ?_
  obtain ⟨a1, ea1, hF⟩ := gb_ltE hF
  obtain ⟨g2, hF⟩ := gb_gdE hF
  obtain ⟨h3, eh3, hF⟩ := gb_ltE hF
  refine gb_newa (t := 20) (by decide) rfl ac20 (gb_nnE g2).1 (gb_nnE g2).2 dX4_init_7 (gb_hp eh3 (gb_topA ea1 ?_))
  obtain ⟨g4, hF⟩ := gb_gdE hF
  obtain ⟨h5, eh5, hF⟩ := gb_ltE hF
  refine gb_putR fX4_9 ffX4_9 dX4_init_9 (gb_kE g4) (fun _ => ⟨rfl, rfl⟩) (gb_hp eh5 ?_)
  refine gb_aload_n dX4_init_12 rfl rfl ?_
  refine gb_bipush (v := (34 : Int32)) dX4_init_13 (by decide) ?_
  obtain ⟨a6, ea6, hF⟩ := gb_ltE hF
  obtain ⟨g7, hF⟩ := gb_gdE hF
  obtain ⟨h8, eh8, hF⟩ := gb_ltE hF
  refine gb_newa (t := 20) (by decide) rfl ac20 (gb_nnE g7).1 (gb_nnE g7).2 dX4_init_15 (gb_hp eh8 (gb_topA ea6 ?_))
  obtain ⟨g9, hF⟩ := gb_gdE hF
  obtain ⟨h10, eh10, hF⟩ := gb_ltE hF
  refine gb_putR fX4_15 ffX4_15 dX4_init_17 (gb_kE g9) (fun _ => ⟨rfl, rfl⟩) (gb_hp eh10 ?_)
  refine gb_aload_n dX4_init_20 rfl rfl ?_
  refine gb_bipush (v := (34 : Int32)) dX4_init_21 (by decide) ?_
  obtain ⟨a11, ea11, hF⟩ := gb_ltE hF
  obtain ⟨g12, hF⟩ := gb_gdE hF
  obtain ⟨h13, eh13, hF⟩ := gb_ltE hF
  refine gb_newa (t := 20) (by decide) rfl ac20 (gb_nnE g12).1 (gb_nnE g12).2 dX4_init_23 (gb_hp eh13 (gb_topA ea11 ?_))
  obtain ⟨g14, hF⟩ := gb_gdE hF
  obtain ⟨h15, eh15, hF⟩ := gb_ltE hF
  refine gb_putR fX4_18 ffX4_18 dX4_init_25 (gb_kE g14) (fun _ => ⟨rfl, rfl⟩) (gb_hp eh15 ?_)
  refine gb_aload_n dX4_init_28 rfl rfl ?_
  refine gb_bipush (v := (34 : Int32)) dX4_init_29 (by decide) ?_
  obtain ⟨a16, ea16, hF⟩ := gb_ltE hF
  obtain ⟨g17, hF⟩ := gb_gdE hF
  obtain ⟨h18, eh18, hF⟩ := gb_ltE hF
  refine gb_newa (t := 20) (by decide) rfl ac20 (gb_nnE g17).1 (gb_nnE g17).2 dX4_init_31 (gb_hp eh18 (gb_topA ea16 ?_))
  obtain ⟨g19, hF⟩ := gb_gdE hF
  obtain ⟨h20, eh20, hF⟩ := gb_ltE hF
  refine gb_putR fX4_21 ffX4_21 dX4_init_33 (gb_kE g19) (fun _ => ⟨rfl, rfl⟩) (gb_hp eh20 ?_)
  refine gb_aload_n dX4_init_36 rfl rfl ?_
  refine gb_bipush (v := (34 : Int32)) dX4_init_37 (by decide) ?_
  obtain ⟨a21, ea21, hF⟩ := gb_ltE hF
  obtain ⟨g22, hF⟩ := gb_gdE hF
  obtain ⟨h23, eh23, hF⟩ := gb_ltE hF
  refine gb_newa (t := 20) (by decide) rfl ac20 (gb_nnE g22).1 (gb_nnE g22).2 dX4_init_39 (gb_hp eh23 (gb_topA ea21 ?_))
  obtain ⟨g24, hF⟩ := gb_gdE hF
  obtain ⟨h25, eh25, hF⟩ := gb_ltE hF
  refine gb_putR fX4_24 ffX4_24 dX4_init_41 (gb_kE g24) (fun _ => ⟨rfl, rfl⟩) (gb_hp eh25 ?_)
  cases hF
  exact gb_vret dX4_init_44 rfl
def fnX0_init (p0 : Nat) (p1 : Int32) (h : gb_H) : Option (Unit × gb_H) :=
  gb_gd (gb_nz (6 : Int32)) <|
  gb_lt (((p1 * (p1 + (1 : Int32))) * (p1 + (2 : Int32))) / (6 : Int32)) fun x2 =>
  gb_lt (gb_cn h) fun a3 =>
  gb_gd (gb_nn x2 4) <|
  gb_lt (gb_nw h 20 x2.toNatClampNeg x2.toNatClampNeg) fun h5 =>
  gb_gd (gb_k h5 p0 0) <|
  gb_lt (gb_sR h5 p0 0 (some a3)) fun h7 =>
  gb_lt (gb_cn h7) fun a8 =>
  gb_gd (gb_nn x2 1) <|
  gb_lt (gb_nw h7 21 x2.toNatClampNeg x2.toNatClampNeg) fun h10 =>
  gb_gd (gb_k h10 p0 0) <|
  gb_lt (gb_sR h10 p0 1 (some a8)) fun h12 =>
  gb_lt (gb_cn h12) fun a13 =>
  gb_gd (gb_nn x2 8) <|
  gb_lt (gb_nw h12 23 x2.toNatClampNeg x2.toNatClampNeg) fun h15 =>
  gb_gd (gb_k h15 p0 0) <|
  gb_lt (gb_sR h15 p0 2 (some a13)) fun h17 =>
  gb_lt (gb_cn h17) fun a18 =>
  gb_gd (gb_nn x2 8) <|
  gb_lt (gb_nw h17 23 x2.toNatClampNeg x2.toNatClampNeg) fun h20 =>
  gb_gd (gb_k h20 p0 0) <|
  gb_lt (gb_sR h20 p0 3 (some a18)) fun h22 =>
  gb_lt (gb_cn h22) fun a23 =>
  gb_gd (gb_nn x2 8) <|
  gb_lt (gb_nw h22 23 x2.toNatClampNeg x2.toNatClampNeg) fun h25 =>
  gb_gd (gb_k h25 p0 0) <|
  gb_lt (gb_sR h25 p0 4 (some a23)) fun h27 =>
  gb_lt (gb_cn h27) fun a28 =>
  gb_gd (gb_nn x2 8) <|
  gb_lt (gb_nw h27 23 x2.toNatClampNeg x2.toNatClampNeg) fun h30 =>
  gb_gd (gb_k h30 p0 0) <|
  gb_lt (gb_sR h30 p0 5 (some a28)) fun h32 =>
  some ((), h32)
theorem fnX0_init_ok {X : gb_X}  {p0 : Nat} {p1 : Int32} (h : gb_H) (r : Unit × gb_H) (hF : fnX0_init p0 p1 h = some r) : gb_Ev X 2 mX0_init 0 (gb_L0 [.ref p0, .int p1]) [] h (gb_wV r) := by
  unfold fnX0_init at hF
  refine gb_weak (L' := [some (.ref p0), some (.int p1), none]) (And.intro rfl (And.intro rfl trivial)) ?_
  refine gb_aload_n dX0_init_0 rfl rfl ?_
  refine gb_objInit dX0_init_1 lX0_3 gb_oin gb_ocd (by decide) (Nat.le_of_ble_eq_true rfl) ?_
  refine gb_iload_n dX0_init_4 rfl rfl ?_
  refine gb_iload_n dX0_init_5 rfl rfl ?_
  refine gb_iconst (v := (1 : Int32)) dX0_init_6 (by decide) ?_
  refine gb_iadd dX0_init_7 ?_
  refine gb_imul dX0_init_8 ?_
  refine gb_iload_n dX0_init_9 rfl rfl ?_
  refine gb_iconst (v := (2 : Int32)) dX0_init_10 (by decide) ?_
  refine gb_iadd dX0_init_11 ?_
  refine gb_imul dX0_init_12 ?_
  refine gb_bipush (v := (6 : Int32)) dX0_init_13 (by decide) ?_
  obtain ⟨g1, hF⟩ := gb_gdE hF
  refine gb_idiv dX0_init_15 (gb_nzE g1) ?_
  obtain ⟨x2, ex2, hF⟩ := gb_ltE hF
  refine gb_topI ex2 ?_
  refine gb_istore_n (L' := [some (.ref p0), some (.int p1), some (.int x2)]) dX0_init_16 rfl (by decide) rfl rfl ?_
  refine gb_aload_n dX0_init_17 rfl rfl ?_
  refine gb_iload_n dX0_init_18 rfl rfl ?_
  obtain ⟨a3, ea3, hF⟩ := gb_ltE hF
  obtain ⟨g4, hF⟩ := gb_gdE hF
  obtain ⟨h5, eh5, hF⟩ := gb_ltE hF
  refine gb_newa (t := 20) (by decide) rfl ac20 (gb_nnE g4).1 (gb_nnE g4).2 dX0_init_19 (gb_hp eh5 (gb_topA ea3 ?_))
  obtain ⟨g6, hF⟩ := gb_gdE hF
  obtain ⟨h7, eh7, hF⟩ := gb_ltE hF
  refine gb_putR fX0_9 ffX0_9 dX0_init_21 (gb_kE g6) (fun _ => ⟨rfl, rfl⟩) (gb_hp eh7 ?_)
  refine gb_aload_n dX0_init_24 rfl rfl ?_
  refine gb_iload_n dX0_init_25 rfl rfl ?_
  obtain ⟨a8, ea8, hF⟩ := gb_ltE hF
  obtain ⟨g9, hF⟩ := gb_gdE hF
  obtain ⟨h10, eh10, hF⟩ := gb_ltE hF
  refine gb_newa (t := 21) (by decide) rfl ac21 (gb_nnE g9).1 (gb_nnE g9).2 dX0_init_26 (gb_hp eh10 (gb_topA ea8 ?_))
  obtain ⟨g11, hF⟩ := gb_gdE hF
  obtain ⟨h12, eh12, hF⟩ := gb_ltE hF
  refine gb_putR fX0_15 ffX0_15 dX0_init_28 (gb_kE g11) (fun _ => ⟨rfl, rfl⟩) (gb_hp eh12 ?_)
  refine gb_aload_n dX0_init_31 rfl rfl ?_
  refine gb_iload_n dX0_init_32 rfl rfl ?_
  obtain ⟨a13, ea13, hF⟩ := gb_ltE hF
  obtain ⟨g14, hF⟩ := gb_gdE hF
  obtain ⟨h15, eh15, hF⟩ := gb_ltE hF
  refine gb_newa (t := 23) (by decide) rfl ac23 (gb_nnE g14).1 (gb_nnE g14).2 dX0_init_33 (gb_hp eh15 (gb_topA ea13 ?_))
  obtain ⟨g16, hF⟩ := gb_gdE hF
  obtain ⟨h17, eh17, hF⟩ := gb_ltE hF
  refine gb_putR fX0_19 ffX0_19 dX0_init_35 (gb_kE g16) (fun _ => ⟨rfl, rfl⟩) (gb_hp eh17 ?_)
  refine gb_aload_n dX0_init_38 rfl rfl ?_
  refine gb_iload_n dX0_init_39 rfl rfl ?_
  obtain ⟨a18, ea18, hF⟩ := gb_ltE hF
  obtain ⟨g19, hF⟩ := gb_gdE hF
  obtain ⟨h20, eh20, hF⟩ := gb_ltE hF
  refine gb_newa (t := 23) (by decide) rfl ac23 (gb_nnE g19).1 (gb_nnE g19).2 dX0_init_40 (gb_hp eh20 (gb_topA ea18 ?_))
  obtain ⟨g21, hF⟩ := gb_gdE hF
  obtain ⟨h22, eh22, hF⟩ := gb_ltE hF
  refine gb_putR fX0_23 ffX0_23 dX0_init_42 (gb_kE g21) (fun _ => ⟨rfl, rfl⟩) (gb_hp eh22 ?_)
  refine gb_aload_n dX0_init_45 rfl rfl ?_
  refine gb_iload_n dX0_init_46 rfl rfl ?_
  obtain ⟨a23, ea23, hF⟩ := gb_ltE hF
  obtain ⟨g24, hF⟩ := gb_gdE hF
  obtain ⟨h25, eh25, hF⟩ := gb_ltE hF
  refine gb_newa (t := 23) (by decide) rfl ac23 (gb_nnE g24).1 (gb_nnE g24).2 dX0_init_47 (gb_hp eh25 (gb_topA ea23 ?_))
  obtain ⟨g26, hF⟩ := gb_gdE hF
  obtain ⟨h27, eh27, hF⟩ := gb_ltE hF
  refine gb_putR fX0_26 ffX0_26 dX0_init_49 (gb_kE g26) (fun _ => ⟨rfl, rfl⟩) (gb_hp eh27 ?_)
  refine gb_aload_n dX0_init_52 rfl rfl ?_
  refine gb_iload_n dX0_init_53 rfl rfl ?_
  obtain ⟨a28, ea28, hF⟩ := gb_ltE hF
  obtain ⟨g29, hF⟩ := gb_gdE hF
  obtain ⟨h30, eh30, hF⟩ := gb_ltE hF
  refine gb_newa (t := 23) (by decide) rfl ac23 (gb_nnE g29).1 (gb_nnE g29).2 dX0_init_54 (gb_hp eh30 (gb_topA ea28 ?_))
  obtain ⟨g31, hF⟩ := gb_gdE hF
  obtain ⟨h32, eh32, hF⟩ := gb_ltE hF
  refine gb_putR fX0_29 ffX0_29 dX0_init_56 (gb_kE g31) (fun _ => ⟨rfl, rfl⟩) (gb_hp eh32 ?_)
  cases hF
  exact gb_vret dX0_init_59 rfl
def fnX5_reset (p0 : Nat) (h : gb_H) : Option (Unit × gb_H) :=
  gb_gd (gb_k h p0 5) <|
  gb_lt (gb_sI h p0 0 (5 : Int32)) fun h2 =>
  gb_gd (gb_k h2 p0 5) <|
  gb_lt (gb_sI h2 p0 1 (0 : Int32)) fun h4 =>
  gb_gd (gb_k h4 p0 5) <|
  gb_lt (gb_sI h4 p0 2 (0 : Int32)) fun h6 =>
  gb_gd (gb_k h6 p0 5) <|
  gb_lt (gb_sI h6 p0 3 (0 : Int32)) fun h8 =>
  gb_gd (gb_k h8 p0 5) <|
  gb_lt (gb_sI h8 p0 4 (-1 : Int32)) fun h10 =>
  gb_gd (gb_k h10 p0 5) <|
  gb_lt (gb_sI h10 p0 5 (0 : Int32)) fun h12 =>
  gb_gd (gb_k h12 p0 5) <|
  gb_lt (gb_sI h12 p0 6 (-1 : Int32)) fun h14 =>
  gb_gd (gb_k h14 p0 5) <|
  gb_lt (gb_sI h14 p0 7 (0 : Int32)) fun h16 =>
  gb_gd (gb_k h16 p0 5) <|
  gb_lt (gb_sI h16 p0 8 (0 : Int32)) fun h18 =>
  some ((), h18)
theorem fnX5_reset_ok {X : gb_X}  {p0 : Nat} (h : gb_H) (r : Unit × gb_H) (hF : fnX5_reset p0 h = some r) : gb_Ev X 1 mX5_reset 0 (gb_L0 [.ref p0]) [] h (gb_wV r) := by
  unfold fnX5_reset at hF
  refine gb_weak (L' := [some (.ref p0)]) (And.intro rfl trivial) ?_
  refine gb_aload_n dX5_reset_0 rfl rfl ?_
  refine gb_iconst (v := (5 : Int32)) dX5_reset_1 (by decide) ?_
  obtain ⟨g1, hF⟩ := gb_gdE hF
  obtain ⟨h2, eh2, hF⟩ := gb_ltE hF
  refine gb_putI fX5_9 (gb_nff nf5_0) dX5_reset_2 (gb_kE g1) (fun _ => ⟨rfl, rfl⟩) (gb_hp eh2 ?_)
  refine gb_aload_n dX5_reset_5 rfl rfl ?_
  refine gb_iconst (v := (0 : Int32)) dX5_reset_6 (by decide) ?_
  obtain ⟨g3, hF⟩ := gb_gdE hF
  obtain ⟨h4, eh4, hF⟩ := gb_ltE hF
  refine gb_putI fX5_15 (gb_nff nf5_1) dX5_reset_7 (gb_kE g3) (fun _ => ⟨rfl, rfl⟩) (gb_hp eh4 ?_)
  refine gb_aload_n dX5_reset_10 rfl rfl ?_
  refine gb_iconst (v := (0 : Int32)) dX5_reset_11 (by decide) ?_
  obtain ⟨g5, hF⟩ := gb_gdE hF
  obtain ⟨h6, eh6, hF⟩ := gb_ltE hF
  refine gb_putI fX5_18 (gb_nff nf5_2) dX5_reset_12 (gb_kE g5) (fun _ => ⟨rfl, rfl⟩) (gb_hp eh6 ?_)
  refine gb_aload_n dX5_reset_15 rfl rfl ?_
  refine gb_iconst (v := (0 : Int32)) dX5_reset_16 (by decide) ?_
  obtain ⟨g7, hF⟩ := gb_gdE hF
  obtain ⟨h8, eh8, hF⟩ := gb_ltE hF
  refine gb_putI fX5_21 (gb_nff nf5_3) dX5_reset_17 (gb_kE g7) (fun _ => ⟨rfl, rfl⟩) (gb_hp eh8 ?_)
  refine gb_aload_n dX5_reset_20 rfl rfl ?_
  refine gb_iconst (v := (-1 : Int32)) dX5_reset_21 (by decide) ?_
  obtain ⟨g9, hF⟩ := gb_gdE hF
  obtain ⟨h10, eh10, hF⟩ := gb_ltE hF
  refine gb_putI fX5_24 (gb_nff nf5_4) dX5_reset_22 (gb_kE g9) (fun _ => ⟨rfl, rfl⟩) (gb_hp eh10 ?_)
  refine gb_aload_n dX5_reset_25 rfl rfl ?_
  refine gb_iconst (v := (0 : Int32)) dX5_reset_26 (by decide) ?_
  obtain ⟨g11, hF⟩ := gb_gdE hF
  obtain ⟨h12, eh12, hF⟩ := gb_ltE hF
  refine gb_putI fX5_27 (gb_nff nf5_5) dX5_reset_27 (gb_kE g11) (fun _ => ⟨rfl, rfl⟩) (gb_hp eh12 ?_)
  refine gb_aload_n dX5_reset_30 rfl rfl ?_
  refine gb_iconst (v := (-1 : Int32)) dX5_reset_31 (by decide) ?_
  obtain ⟨g13, hF⟩ := gb_gdE hF
  obtain ⟨h14, eh14, hF⟩ := gb_ltE hF
  refine gb_putI fX5_30 (gb_nff nf5_6) dX5_reset_32 (gb_kE g13) (fun _ => ⟨rfl, rfl⟩) (gb_hp eh14 ?_)
  refine gb_aload_n dX5_reset_35 rfl rfl ?_
  refine gb_iconst (v := (0 : Int32)) dX5_reset_36 (by decide) ?_
  obtain ⟨g15, hF⟩ := gb_gdE hF
  obtain ⟨h16, eh16, hF⟩ := gb_ltE hF
  refine gb_putI fX5_33 (gb_nff nf5_7) dX5_reset_37 (gb_kE g15) (fun _ => ⟨rfl, rfl⟩) (gb_hp eh16 ?_)
  refine gb_aload_n dX5_reset_40 rfl rfl ?_
  refine gb_iconst (v := (0 : Int32)) dX5_reset_41 (by decide) ?_
  obtain ⟨g17, hF⟩ := gb_gdE hF
  obtain ⟨h18, eh18, hF⟩ := gb_ltE hF
  refine gb_putI fX5_36 (gb_nff nf5_8) dX5_reset_42 (gb_kE g17) (fun _ => ⟨rfl, rfl⟩) (gb_hp eh18 ?_)
  cases hF
  exact gb_vret dX5_reset_45 rfl
def fnX5_copyPart (p0 : Nat) (p1 : Nat) (h : gb_H) : Option (Unit × gb_H) :=
  gb_gd (gb_k h p1 5) <|
  gb_gd (gb_k h p0 5) <|
  gb_lt (gb_sI h p0 0 (gb_I h p1 0)) fun h3 =>
  gb_gd (gb_k h3 p1 5) <|
  gb_gd (gb_k h3 p0 5) <|
  gb_lt (gb_sI h3 p0 1 (gb_I h3 p1 1)) fun h6 =>
  gb_gd (gb_k h6 p1 5) <|
  gb_gd (gb_k h6 p0 5) <|
  gb_lt (gb_sI h6 p0 2 (gb_I h6 p1 2)) fun h9 =>
  gb_gd (gb_k h9 p1 5) <|
  gb_gd (gb_k h9 p0 5) <|
  gb_lt (gb_sI h9 p0 3 (gb_I h9 p1 3)) fun h12 =>
  gb_gd (gb_k h12 p1 5) <|
  gb_gd (gb_k h12 p0 5) <|
  gb_lt (gb_sI h12 p0 4 (gb_I h12 p1 4)) fun h15 =>
  gb_gd (gb_k h15 p1 5) <|
  gb_gd (gb_k h15 p0 5) <|
  gb_lt (gb_sI h15 p0 5 (gb_I h15 p1 5)) fun h18 =>
  gb_gd (gb_k h18 p1 5) <|
  gb_gd (gb_k h18 p0 5) <|
  gb_lt (gb_sI h18 p0 6 (gb_I h18 p1 6)) fun h21 =>
  gb_gd (gb_k h21 p1 5) <|
  gb_gd (gb_k h21 p0 5) <|
  gb_lt (gb_sI h21 p0 7 (gb_I h21 p1 7)) fun h24 =>
  gb_gd (gb_k h24 p1 5) <|
  gb_gd (gb_k h24 p0 5) <|
  gb_lt (gb_sI h24 p0 8 (gb_I h24 p1 8)) fun h27 =>
  some ((), h27)
theorem fnX5_copyPart_ok {X : gb_X}  {p0 : Nat} {p1 : Nat} (h : gb_H) (r : Unit × gb_H) (hF : fnX5_copyPart p0 p1 h = some r) : gb_Ev X 1 mX5_copyPart 0 (gb_L0 [.ref p0, .ref p1]) [] h (gb_wV r) := by
  unfold fnX5_copyPart at hF
  refine gb_weak (L' := [some (.ref p0), some (.ref p1)]) (And.intro rfl (And.intro rfl trivial)) ?_
  refine gb_aload_n dX5_copyPart_0 rfl rfl ?_
  refine gb_aload_n dX5_copyPart_1 rfl rfl ?_
  obtain ⟨g1, hF⟩ := gb_gdE hF
  refine gb_getI fX5_9 dX5_copyPart_2 (gb_kE g1) ?_
  obtain ⟨g2, hF⟩ := gb_gdE hF
  obtain ⟨h3, eh3, hF⟩ := gb_ltE hF
  refine gb_putI fX5_9 (gb_nff nf5_0) dX5_copyPart_5 (gb_kE g2) (fun _ => ⟨rfl, rfl⟩) (gb_hp eh3 ?_)
  refine gb_aload_n dX5_copyPart_8 rfl rfl ?_
  refine gb_aload_n dX5_copyPart_9 rfl rfl ?_
  obtain ⟨g4, hF⟩ := gb_gdE hF
  refine gb_getI fX5_15 dX5_copyPart_10 (gb_kE g4) ?_
  obtain ⟨g5, hF⟩ := gb_gdE hF
  obtain ⟨h6, eh6, hF⟩ := gb_ltE hF
  refine gb_putI fX5_15 (gb_nff nf5_1) dX5_copyPart_13 (gb_kE g5) (fun _ => ⟨rfl, rfl⟩) (gb_hp eh6 ?_)
  refine gb_aload_n dX5_copyPart_16 rfl rfl ?_
  refine gb_aload_n dX5_copyPart_17 rfl rfl ?_
  obtain ⟨g7, hF⟩ := gb_gdE hF
  refine gb_getI fX5_18 dX5_copyPart_18 (gb_kE g7) ?_
  obtain ⟨g8, hF⟩ := gb_gdE hF
  obtain ⟨h9, eh9, hF⟩ := gb_ltE hF
  refine gb_putI fX5_18 (gb_nff nf5_2) dX5_copyPart_21 (gb_kE g8) (fun _ => ⟨rfl, rfl⟩) (gb_hp eh9 ?_)
  refine gb_aload_n dX5_copyPart_24 rfl rfl ?_
  refine gb_aload_n dX5_copyPart_25 rfl rfl ?_
  obtain ⟨g10, hF⟩ := gb_gdE hF
  refine gb_getI fX5_21 dX5_copyPart_26 (gb_kE g10) ?_
  obtain ⟨g11, hF⟩ := gb_gdE hF
  obtain ⟨h12, eh12, hF⟩ := gb_ltE hF
  refine gb_putI fX5_21 (gb_nff nf5_3) dX5_copyPart_29 (gb_kE g11) (fun _ => ⟨rfl, rfl⟩) (gb_hp eh12 ?_)
  refine gb_aload_n dX5_copyPart_32 rfl rfl ?_
  refine gb_aload_n dX5_copyPart_33 rfl rfl ?_
  obtain ⟨g13, hF⟩ := gb_gdE hF
  refine gb_getI fX5_24 dX5_copyPart_34 (gb_kE g13) ?_
  obtain ⟨g14, hF⟩ := gb_gdE hF
  obtain ⟨h15, eh15, hF⟩ := gb_ltE hF
  refine gb_putI fX5_24 (gb_nff nf5_4) dX5_copyPart_37 (gb_kE g14) (fun _ => ⟨rfl, rfl⟩) (gb_hp eh15 ?_)
  refine gb_aload_n dX5_copyPart_40 rfl rfl ?_
  refine gb_aload_n dX5_copyPart_41 rfl rfl ?_
  obtain ⟨g16, hF⟩ := gb_gdE hF
  refine gb_getI fX5_27 dX5_copyPart_42 (gb_kE g16) ?_
  obtain ⟨g17, hF⟩ := gb_gdE hF
  obtain ⟨h18, eh18, hF⟩ := gb_ltE hF
  refine gb_putI fX5_27 (gb_nff nf5_5) dX5_copyPart_45 (gb_kE g17) (fun _ => ⟨rfl, rfl⟩) (gb_hp eh18 ?_)
  refine gb_aload_n dX5_copyPart_48 rfl rfl ?_
  refine gb_aload_n dX5_copyPart_49 rfl rfl ?_
  obtain ⟨g19, hF⟩ := gb_gdE hF
  refine gb_getI fX5_30 dX5_copyPart_50 (gb_kE g19) ?_
  obtain ⟨g20, hF⟩ := gb_gdE hF
  obtain ⟨h21, eh21, hF⟩ := gb_ltE hF
  refine gb_putI fX5_30 (gb_nff nf5_6) dX5_copyPart_53 (gb_kE g20) (fun _ => ⟨rfl, rfl⟩) (gb_hp eh21 ?_)
  refine gb_aload_n dX5_copyPart_56 rfl rfl ?_
  refine gb_aload_n dX5_copyPart_57 rfl rfl ?_
  obtain ⟨g22, hF⟩ := gb_gdE hF
  refine gb_getI fX5_33 dX5_copyPart_58 (gb_kE g22) ?_
  obtain ⟨g23, hF⟩ := gb_gdE hF
  obtain ⟨h24, eh24, hF⟩ := gb_ltE hF
  refine gb_putI fX5_33 (gb_nff nf5_7) dX5_copyPart_61 (gb_kE g23) (fun _ => ⟨rfl, rfl⟩) (gb_hp eh24 ?_)
  refine gb_aload_n dX5_copyPart_64 rfl rfl ?_
  refine gb_aload_n dX5_copyPart_65 rfl rfl ?_
  obtain ⟨g25, hF⟩ := gb_gdE hF
  refine gb_getI fX5_36 dX5_copyPart_66 (gb_kE g25) ?_
  obtain ⟨g26, hF⟩ := gb_gdE hF
  obtain ⟨h27, eh27, hF⟩ := gb_ltE hF
  refine gb_putI fX5_36 (gb_nff nf5_8) dX5_copyPart_69 (gb_kE g26) (fun _ => ⟨rfl, rfl⟩) (gb_hp eh27 ?_)
  cases hF
  exact gb_vret dX5_copyPart_72 rfl
def fbX2_append_35 (h : gb_H) : Option (Unit × gb_H) :=
  some ((), h)
theorem fbX2_append_35_ok {X : gb_X} (h : gb_H) (r : Unit × gb_H) (hF : fbX2_append_35 h = some r) : gb_Ev X 2 mX2_append 35 [none, none] [] h (gb_wV r) := by
  unfold fbX2_append_35 at hF
  cases hF
  exact gb_vret dX2_append_35 rfl
def fnX2_append (p0 : Nat) (p1 : Nat) (h : gb_H) : Option (Unit × gb_H) :=
  gb_gd (gb_k h p0 2) <|
  gb_gd (gb_k h p0 2) <|
  gb_rd (gb_R h p0 0) fun a3 =>
  gb_gd (gb_k h a3 35) <|
  if (Int32.ofNat (gb_kd h a3).2) ≤ (gb_I h p0 1) then
    fbX2_append_35 h
  else
    gb_gd (gb_k h p0 2) <|
    gb_rd (gb_R h p0 0) fun a7 =>
    gb_gd (gb_k h p0 2) <|
    gb_lt (gb_I h p0 1) fun x9 =>
    gb_gd (gb_k h a7 35) <|
    gb_gd (gb_in h a7 x9) <|
    gb_rd (gb_R h a7 x9.toNatClampNeg) fun a12 =>
    gb_gd (gb_k h a12 5) <|
    gb_bd (fnX5_copyPart a12 p1 h) fun _ h15 =>
    gb_gd (gb_k h15 p0 2) <|
    gb_gd (gb_k h15 p0 2) <|
    gb_lt (gb_sI h15 p0 1 ((gb_I h15 p0 1) + (1 : Int32))) fun h18 =>
    fbX2_append_35 h18
theorem fnX2_append_ok {X : gb_X}  {p0 : Nat} {p1 : Nat} (h : gb_H) (r : Unit × gb_H) (hF : fnX2_append p0 p1 h = some r) : gb_Ev X 2 mX2_append 0 (gb_L0 [.ref p0, .ref p1]) [] h (gb_wV r) := by
  unfold fnX2_append at hF
  refine gb_weak (L' := [some (.ref p0), some (.ref p1)]) (And.intro rfl (And.intro rfl trivial)) ?_
  refine gb_aload_n dX2_append_0 rfl rfl ?_
  obtain ⟨g1, hF⟩ := gb_gdE hF
  refine gb_getI fX2_18 dX2_append_1 (gb_kE g1) ?_
  refine gb_aload_n dX2_append_4 rfl rfl ?_
  obtain ⟨g2, hF⟩ := gb_gdE hF
  obtain ⟨a3, ea3, hF⟩ := gb_rdE hF
  refine gb_getR fX2_11 dX2_append_5 (gb_kE g2) ea3 ?_
  obtain ⟨g4, hF⟩ := gb_gdE hF
  refine gb_alen dX2_append_8 (gb_kE g4) (by decide) ?_
  refine gb_icmp_ge (tgt := 35) dX2_append_9 (by decide) (fun c5 => ?_) (fun c5 => ?_)
  · replace hF := gb_ifT c5 hF
    exact gb_wk (fbX2_append_35_ok h r hF) trivial
  · replace hF := gb_ifF c5 hF
    refine gb_aload_n dX2_append_12 rfl rfl ?_
    obtain ⟨g6, hF⟩ := gb_gdE hF
    obtain ⟨a7, ea7, hF⟩ := gb_rdE hF
    refine gb_getR fX2_11 dX2_append_13 (gb_kE g6) ea7 ?_
    refine gb_aload_n dX2_append_16 rfl rfl ?_
    obtain ⟨g8, hF⟩ := gb_gdE hF
    refine gb_getI fX2_18 dX2_append_17 (gb_kE g8) ?_
    obtain ⟨x9, ex9, hF⟩ := gb_ltE hF
    refine gb_topI ex9 ?_
    obtain ⟨g10, hF⟩ := gb_gdE hF
    obtain ⟨g11, hF⟩ := gb_gdE hF
    obtain ⟨a12, ea12, hF⟩ := gb_rdE hF
    refine gb_aald dX2_append_20 (gb_kE g10) (by decide) (gb_inE g11) ea12 ?_
    refine gb_aload_n dX2_append_21 rfl rfl ?_
    obtain ⟨g13, hF⟩ := gb_gdE hF
    obtain ⟨x14, h15, cx14, hF⟩ := gb_bdE hF
    refine gb_cV (As := [.ref p1]) (S := []) (v := none) (h1 := h15) (S2 := []) cf5 dX2_append_22 mtX5_copyPart lX2_22 inX5_copyPart seX5_copyPart (gb_kE g13) (fnX5_copyPart_ok _ _ cx14) (by decide) rfl (Nat.le_of_ble_eq_true rfl) (Nat.le_of_ble_eq_true rfl) rfl rfl ?_
    refine gb_aload_n dX2_append_25 rfl rfl ?_
    refine gb_dup dX2_append_26 rfl ?_
    obtain ⟨g16, hF⟩ := gb_gdE hF
    refine gb_getI fX2_18 dX2_append_27 (gb_kE g16) ?_
    refine gb_iconst (v := (1 : Int32)) dX2_append_30 (by decide) ?_
    refine gb_iadd dX2_append_31 ?_
    obtain ⟨g17, hF⟩ := gb_gdE hF
    obtain ⟨h18, eh18, hF⟩ := gb_ltE hF
    refine gb_putI fX2_18 (gb_nff nf2_1) dX2_append_32 (gb_kE g17) (fun _ => ⟨rfl, rfl⟩) (gb_hp eh18 ?_)
    exact gb_wk (fbX2_append_35_ok h18 r hF) trivial
def fbX2_copyAll_7 (k7 : Nat → Nat → Int32 → gb_H → Option (Unit × gb_H)) (v0 : Nat) (v1 : Nat) (v2 : Int32) (h : gb_H) : Option (Unit × gb_H) :=
  gb_gd (gb_k h v1 2) <|
  if (gb_I h v1 1) ≤ v2 then
    some ((), h)
  else
    gb_gd (gb_k h v1 2) <|
    gb_rd (gb_R h v1 0) fun a4 =>
    gb_gd (gb_k h a4 35) <|
    gb_gd (gb_in h a4 v2) <|
    gb_rd (gb_R h a4 v2.toNatClampNeg) fun a7 =>
    gb_gd (gb_k h v0 2) <|
    gb_bd (fnX2_append v0 a7 h) fun _ h10 =>
    gb_lt (v2 + (1 : Int32)) fun x11 =>
    k7 v0 v1 x11 h10
theorem fbX2_copyAll_7_ok {X : gb_X} {k7 : Nat → Nat → Int32 → gb_H → Option (Unit × gb_H)} (hk7 : ∀ v0 v1 v2 h r, k7 v0 v1 v2 h = some r → gb_Ev X 3 mX2_copyAll 7 [some (.ref v0), some (.ref v1), some (.int v2)] [] h (gb_wV r)) (v0 : Nat) (v1 : Nat) (v2 : Int32) (h : gb_H) (r : Unit × gb_H) (hF : fbX2_copyAll_7 k7 v0 v1 v2 h = some r) : gb_Ev X 3 mX2_copyAll 7 [some (.ref v0), some (.ref v1), some (.int v2)] [] h (gb_wV r) := by
  unfold fbX2_copyAll_7 at hF
  refine gb_iload_n dX2_copyAll_7 rfl rfl ?_
  refine gb_aload_n dX2_copyAll_8 rfl rfl ?_
  obtain ⟨g1, hF⟩ := gb_gdE hF
  refine gb_getI fX2_18 dX2_copyAll_9 (gb_kE g1) ?_
  refine gb_icmp_ge (tgt := 31) dX2_copyAll_12 (by decide) (fun c2 => ?_) (fun c2 => ?_)
  · replace hF := gb_ifT c2 hF
    cases hF
    exact gb_vret dX2_copyAll_31 rfl
  · replace hF := gb_ifF c2 hF
    refine gb_aload_n dX2_copyAll_15 rfl rfl ?_
    refine gb_aload_n dX2_copyAll_16 rfl rfl ?_
    obtain ⟨g3, hF⟩ := gb_gdE hF
    obtain ⟨a4, ea4, hF⟩ := gb_rdE hF
    refine gb_getR fX2_11 dX2_copyAll_17 (gb_kE g3) ea4 ?_
    refine gb_iload_n dX2_copyAll_20 rfl rfl ?_
    obtain ⟨g5, hF⟩ := gb_gdE hF
    obtain ⟨g6, hF⟩ := gb_gdE hF
    obtain ⟨a7, ea7, hF⟩ := gb_rdE hF
    refine gb_aald dX2_copyAll_21 (gb_kE g5) (by decide) (gb_inE g6) ea7 ?_
    obtain ⟨g8, hF⟩ := gb_gdE hF
    obtain ⟨x9, h10, cx9, hF⟩ := gb_bdE hF
    refine gb_cV (As := [.ref a7]) (S := []) (v := none) (h1 := h10) (S2 := []) cf2 dX2_copyAll_22 mtX2_append lX2_26 inX2_append seX2_append (gb_kE g8) (fnX2_append_ok _ _ cx9) (by decide) rfl (Nat.le_of_ble_eq_true rfl) (Nat.le_of_ble_eq_true rfl) rfl rfl ?_
    obtain ⟨x11, ex11, hF⟩ := gb_ltE hF
    refine gb_iinc (v := x11) (L' := [some (.ref v0), some (.ref v1), some (.int x11)]) dX2_copyAll_25 rfl (by rw [ex11]; rfl) (by decide) rfl rfl ?_
    refine gb_goto (tgt := 7) dX2_copyAll_28 (by decide) ?_
    exact gb_wk (hk7 v0 v1 x11 h10 r hF) (And.intro rfl (And.intro rfl (And.intro rfl trivial)))
def lpX2_copyAll_7 (n : Nat) (v0 : Nat) (v1 : Nat) (v2 : Int32) (h : gb_H) : Option (Unit × gb_H) := gb_lp (σ := Nat × Nat × Int32 × gb_H) (fun k s => fbX2_copyAll_7 (fun v0 v1 v2 h => k (v0, v1, v2, h)) s.1 s.2.1 s.2.2.1 s.2.2.2) n (v0, v1, v2, h)
theorem lpX2_copyAll_7_ok {X : gb_X}  (n : Nat) (v0 : Nat) (v1 : Nat) (v2 : Int32) (h : gb_H) (r : Unit × gb_H) (hF : lpX2_copyAll_7 n v0 v1 v2 h = some r) : gb_Ev X 3 mX2_copyAll 7 [some (.ref v0), some (.ref v1), some (.int v2)] [] h (gb_wV r) := by
  exact gb_lpE (σ := Nat × Nat × Int32 × gb_H) (P := fun s r => gb_Ev X 3 mX2_copyAll 7 [some (.ref s.1), some (.ref s.2.1), some (.int s.2.2.1)] [] s.2.2.2 (gb_wV r)) (fun k hk s r hs => fbX2_copyAll_7_ok (fun v0 v1 v2 h r e => hk (v0, v1, v2, h) r e) _ _ _ _ r hs) n (v0, v1, v2, h) r hF
def fnX2_copyAll (p0 : Nat) (p1 : Nat) (h : gb_H) : Option (Unit × gb_H) :=
  gb_gd (gb_k h p0 2) <|
  gb_lt (gb_sI h p0 1 (0 : Int32)) fun h2 =>
  lpX2_copyAll_7 gb_FU p0 p1 (0 : Int32) h2
theorem fnX2_copyAll_ok {X : gb_X}  {p0 : Nat} {p1 : Nat} (h : gb_H) (r : Unit × gb_H) (hF : fnX2_copyAll p0 p1 h = some r) : gb_Ev X 3 mX2_copyAll 0 (gb_L0 [.ref p0, .ref p1]) [] h (gb_wV r) := by
  unfold fnX2_copyAll at hF
  refine gb_weak (L' := [some (.ref p0), some (.ref p1), none]) (And.intro rfl (And.intro rfl trivial)) ?_
  refine gb_aload_n dX2_copyAll_0 rfl rfl ?_
  refine gb_iconst (v := (0 : Int32)) dX2_copyAll_1 (by decide) ?_
  obtain ⟨g1, hF⟩ := gb_gdE hF
  obtain ⟨h2, eh2, hF⟩ := gb_ltE hF
  refine gb_putI fX2_18 (gb_nff nf2_1) dX2_copyAll_2 (gb_kE g1) (fun _ => ⟨rfl, rfl⟩) (gb_hp eh2 ?_)
  refine gb_iconst (v := (0 : Int32)) dX2_copyAll_5 (by decide) ?_
  refine gb_istore_n (L' := [some (.ref p0), some (.ref p1), some (.int (0 : Int32))]) dX2_copyAll_6 rfl (by decide) rfl rfl ?_
  exact gb_wk (lpX2_copyAll_7_ok gb_FU p0 p1 (0 : Int32) h2 r hF) (And.intro rfl (And.intro rfl (And.intro rfl trivial)))
def fbX5_base_22 (s0 : Int32) (h : gb_H) : Option (Int32 × gb_H) :=
  some (s0, h)
theorem fbX5_base_22_ok {X : gb_X} (s0 : Int32) (h : gb_H) (r : Int32 × gb_H) (hF : fbX5_base_22 s0 h = some r) : gb_Ev X 1 mX5_base 22 [none] [.int s0] h (gb_wI r) := by
  unfold fbX5_base_22 at hF
  cases hF
  exact gb_iret dX5_base_22 rfl
def fnX5_base (p0 : Nat) (h : gb_H) : Option (Int32 × gb_H) :=
  gb_gd (gb_k h p0 5) <|
  if (gb_I h p0 3) = 0 then
    some ((1 : Int32), h)
  else
    gb_gd (gb_k h p0 5) <|
    if (gb_I h p0 3) = (3 : Int32) then
      fbX5_base_22 (2 : Int32) h
    else
      fbX5_base_22 (5 : Int32) h
theorem fnX5_base_ok {X : gb_X}  {p0 : Nat} (h : gb_H) (r : Int32 × gb_H) (hF : fnX5_base p0 h = some r) : gb_Ev X 1 mX5_base 0 (gb_L0 [.ref p0]) [] h (gb_wI r) := by
  unfold fnX5_base at hF
  refine gb_weak (L' := [some (.ref p0)]) (And.intro rfl trivial) ?_
  refine gb_aload_n dX5_base_0 rfl rfl ?_
  obtain ⟨g1, hF⟩ := gb_gdE hF
  refine gb_getI fX5_21 dX5_base_1 (gb_kE g1) ?_
  refine gb_if_ne (tgt := 9) dX5_base_4 (by decide) (fun c2 => ?_) (fun c2 => ?_)
  · replace hF := gb_ifF c2 hF
    refine gb_aload_n dX5_base_9 rfl rfl ?_
    obtain ⟨g3, hF⟩ := gb_gdE hF
    refine gb_getI fX5_21 dX5_base_10 (gb_kE g3) ?_
    refine gb_iconst (v := (3 : Int32)) dX5_base_13 (by decide) ?_
    refine gb_icmp_ne (tgt := 21) dX5_base_14 (by decide) (fun c4 => ?_) (fun c4 => ?_)
    · replace hF := gb_ifF c4 hF
      refine gb_iconst (v := (5 : Int32)) dX5_base_21 (by decide) ?_
      exact gb_wk (fbX5_base_22_ok (5 : Int32) h r hF) trivial
    · replace hF := gb_ifT c4 hF
      refine gb_iconst (v := (2 : Int32)) dX5_base_17 (by decide) ?_
      refine gb_goto (tgt := 22) dX5_base_18 (by decide) ?_
      exact gb_wk (fbX5_base_22_ok (2 : Int32) h r hF) trivial
  · replace hF := gb_ifT c2 hF
    refine gb_iconst (v := (1 : Int32)) dX5_base_7 (by decide) ?_
    cases hF
    exact gb_iret dX5_base_8 rfl
def fbX2_deepen_27 (v3 : Int32) (h : gb_H) : Option (Int32 × gb_H) :=
  some (if (300001 : Int32) < v3 then (300001 : Int32) else v3, h)
theorem fbX2_deepen_27_ok {X : gb_X} (v3 : Int32) (h : gb_H) (r : Int32 × gb_H) (hF : fbX2_deepen_27 v3 h = some r) : gb_Ev X 2 mX2_deepen 27 [none, none, none, some (.int v3), none] [] h (gb_wI r) := by
  unfold fbX2_deepen_27 at hF
  refine gb_iload_n dX2_deepen_27 rfl rfl ?_
  refine gb_ldc (v := (300001 : Int32)) dX2_deepen_28 kX2_38 ?_
  refine gb_mmin dX2_deepen_30 lmX2_39 gb_sdmin gb_mini gb_cdmin (by decide) (Nat.le_of_ble_eq_true rfl) ?_
  cases hF
  exact gb_iret dX2_deepen_33 rfl
def fbX2_deepen_5 (k5 : Int32 → Int32 → Int32 → Int32 → gb_H → Option (Int32 × gb_H)) (v1 : Int32) (v2 : Int32) (v3 : Int32) (v4 : Int32) (h : gb_H) : Option (Int32 × gb_H) :=
  if v2 ≤ v4 then
    fbX2_deepen_27 v3 h
  else
    if (300000 : Int32) < v3 then
      fbX2_deepen_27 v3 h
    else
      gb_lt (v3 * v1) fun x3 =>
      gb_lt (v4 + (1 : Int32)) fun x4 =>
      k5 v1 v2 x3 x4 h
theorem fbX2_deepen_5_ok {X : gb_X} {k5 : Int32 → Int32 → Int32 → Int32 → gb_H → Option (Int32 × gb_H)} (hk5 : ∀ v1 v2 v3 v4 h r, k5 v1 v2 v3 v4 h = some r → gb_Ev X 2 mX2_deepen 5 [none, some (.int v1), some (.int v2), some (.int v3), some (.int v4)] [] h (gb_wI r)) (v1 : Int32) (v2 : Int32) (v3 : Int32) (v4 : Int32) (h : gb_H) (r : Int32 × gb_H) (hF : fbX2_deepen_5 k5 v1 v2 v3 v4 h = some r) : gb_Ev X 2 mX2_deepen 5 [none, some (.int v1), some (.int v2), some (.int v3), some (.int v4)] [] h (gb_wI r) := by
  unfold fbX2_deepen_5 at hF
  refine gb_iload dX2_deepen_5 rfl ?_
  refine gb_iload_n dX2_deepen_7 rfl rfl ?_
  refine gb_icmp_ge (tgt := 27) dX2_deepen_8 (by decide) (fun c1 => ?_) (fun c1 => ?_)
  · replace hF := gb_ifT c1 hF
    exact gb_wk (fbX2_deepen_27_ok v3 h r hF) (And.intro rfl trivial)
  · replace hF := gb_ifF c1 hF
    refine gb_iload_n dX2_deepen_11 rfl rfl ?_
    refine gb_ldc (v := (300000 : Int32)) dX2_deepen_12 kX2_37 ?_
    refine gb_icmp_gt (tgt := 27) dX2_deepen_14 (by decide) (fun c2 => ?_) (fun c2 => ?_)
    · replace hF := gb_ifT c2 hF
      exact gb_wk (fbX2_deepen_27_ok v3 h r hF) (And.intro rfl trivial)
    · replace hF := gb_ifF c2 hF
      refine gb_iload_n dX2_deepen_17 rfl rfl ?_
      refine gb_iload_n dX2_deepen_18 rfl rfl ?_
      refine gb_imul dX2_deepen_19 ?_
      obtain ⟨x3, ex3, hF⟩ := gb_ltE hF
      refine gb_topI ex3 ?_
      refine gb_istore_n (L' := [none, some (.int v1), some (.int v2), some (.int x3), some (.int v4)]) dX2_deepen_20 rfl (by decide) rfl rfl ?_
      obtain ⟨x4, ex4, hF⟩ := gb_ltE hF
      refine gb_iinc (v := x4) (L' := [none, some (.int v1), some (.int v2), some (.int x3), some (.int x4)]) dX2_deepen_21 rfl (by rw [ex4]; rfl) (by decide) rfl rfl ?_
      refine gb_goto (tgt := 5) dX2_deepen_24 (by decide) ?_
      exact gb_wk (hk5 v1 v2 x3 x4 h r hF) (And.intro rfl (And.intro rfl (And.intro rfl (And.intro rfl trivial))))
def lpX2_deepen_5 (n : Nat) (v1 : Int32) (v2 : Int32) (v3 : Int32) (v4 : Int32) (h : gb_H) : Option (Int32 × gb_H) := gb_lp (σ := Int32 × Int32 × Int32 × Int32 × gb_H) (fun k s => fbX2_deepen_5 (fun v1 v2 v3 v4 h => k (v1, v2, v3, v4, h)) s.1 s.2.1 s.2.2.1 s.2.2.2.1 s.2.2.2.2) n (v1, v2, v3, v4, h)
theorem lpX2_deepen_5_ok {X : gb_X}  (n : Nat) (v1 : Int32) (v2 : Int32) (v3 : Int32) (v4 : Int32) (h : gb_H) (r : Int32 × gb_H) (hF : lpX2_deepen_5 n v1 v2 v3 v4 h = some r) : gb_Ev X 2 mX2_deepen 5 [none, some (.int v1), some (.int v2), some (.int v3), some (.int v4)] [] h (gb_wI r) := by
  exact gb_lpE (σ := Int32 × Int32 × Int32 × Int32 × gb_H) (P := fun s r => gb_Ev X 2 mX2_deepen 5 [none, some (.int s.1), some (.int s.2.1), some (.int s.2.2.1), some (.int s.2.2.2.1)] [] s.2.2.2.2 (gb_wI r)) (fun k hk s r hs => fbX2_deepen_5_ok (fun v1 v2 v3 v4 h r e => hk (v1, v2, v3, v4, h) r e) _ _ _ _ _ r hs) n (v1, v2, v3, v4, h) r hF
def fnX2_deepen (p0 : Int32) (p1 : Int32) (p2 : Int32) (h : gb_H) : Option (Int32 × gb_H) :=
  lpX2_deepen_5 gb_FU p1 p2 p0 (0 : Int32) h
theorem fnX2_deepen_ok {X : gb_X}  {p0 : Int32} {p1 : Int32} {p2 : Int32} (h : gb_H) (r : Int32 × gb_H) (hF : fnX2_deepen p0 p1 p2 h = some r) : gb_Ev X 2 mX2_deepen 0 (gb_L0 [.int p0, .int p1, .int p2]) [] h (gb_wI r) := by
  unfold fnX2_deepen at hF
  refine gb_weak (L' := [some (.int p0), some (.int p1), some (.int p2), none, none]) (And.intro rfl (And.intro rfl (And.intro rfl trivial))) ?_
  refine gb_iload_n dX2_deepen_0 rfl rfl ?_
  refine gb_istore_n (L' := [some (.int p0), some (.int p1), some (.int p2), some (.int p0), none]) dX2_deepen_1 rfl (by decide) rfl rfl ?_
  refine gb_iconst (v := (0 : Int32)) dX2_deepen_2 (by decide) ?_
  refine gb_istore (L' := [some (.int p0), some (.int p1), some (.int p2), some (.int p0), some (.int (0 : Int32))]) dX2_deepen_3 (by decide) rfl rfl ?_
  exact gb_wk (lpX2_deepen_5_ok gb_FU p1 p2 p0 (0 : Int32) h r hF) (And.intro rfl (And.intro rfl (And.intro rfl (And.intro rfl trivial))))
def fbX2_depthFor_4 (k4 : Nat → Int32 → Int32 → Int32 → gb_H → Option (Int32 × gb_H)) (v0 : Nat) (v1 : Int32) (v2 : Int32) (v3 : Int32) (h : gb_H) : Option (Int32 × gb_H) :=
  gb_gd (gb_k h v0 2) <|
  if (gb_I h v0 1) ≤ v3 then
    some (v2, h)
  else
    gb_gd (gb_k h v0 2) <|
    gb_rd (gb_R h v0 0) fun a4 =>
    gb_gd (gb_k h a4 35) <|
    gb_gd (gb_in h a4 v3) <|
    gb_rd (gb_R h a4 v3.toNatClampNeg) fun a7 =>
    gb_gd (gb_k h a7 5) <|
    gb_bd (fnX5_base a7 h) fun x9 h10 =>
    gb_bd (fnX2_deepen v2 x9 v1 h10) fun x11 h12 =>
    gb_lt (v3 + (1 : Int32)) fun x13 =>
    k4 v0 v1 x11 x13 h12
theorem fbX2_depthFor_4_ok {X : gb_X} {k4 : Nat → Int32 → Int32 → Int32 → gb_H → Option (Int32 × gb_H)} (hk4 : ∀ v0 v1 v2 v3 h r, k4 v0 v1 v2 v3 h = some r → gb_Ev X 3 mX2_depthFor 4 [some (.ref v0), some (.int v1), some (.int v2), some (.int v3)] [] h (gb_wI r)) (v0 : Nat) (v1 : Int32) (v2 : Int32) (v3 : Int32) (h : gb_H) (r : Int32 × gb_H) (hF : fbX2_depthFor_4 k4 v0 v1 v2 v3 h = some r) : gb_Ev X 3 mX2_depthFor 4 [some (.ref v0), some (.int v1), some (.int v2), some (.int v3)] [] h (gb_wI r) := by
  unfold fbX2_depthFor_4 at hF
  refine gb_iload_n dX2_depthFor_4 rfl rfl ?_
  refine gb_aload_n dX2_depthFor_5 rfl rfl ?_
  obtain ⟨g1, hF⟩ := gb_gdE hF
  refine gb_getI fX2_18 dX2_depthFor_6 (gb_kE g1) ?_
  refine gb_icmp_ge (tgt := 33) dX2_depthFor_9 (by decide) (fun c2 => ?_) (fun c2 => ?_)
  · replace hF := gb_ifT c2 hF
    refine gb_iload_n dX2_depthFor_33 rfl rfl ?_
    cases hF
    exact gb_iret dX2_depthFor_34 rfl
  · replace hF := gb_ifF c2 hF
    refine gb_iload_n dX2_depthFor_12 rfl rfl ?_
    refine gb_aload_n dX2_depthFor_13 rfl rfl ?_
    obtain ⟨g3, hF⟩ := gb_gdE hF
    obtain ⟨a4, ea4, hF⟩ := gb_rdE hF
    refine gb_getR fX2_11 dX2_depthFor_14 (gb_kE g3) ea4 ?_
    refine gb_iload_n dX2_depthFor_17 rfl rfl ?_
    obtain ⟨g5, hF⟩ := gb_gdE hF
    obtain ⟨g6, hF⟩ := gb_gdE hF
    obtain ⟨a7, ea7, hF⟩ := gb_rdE hF
    refine gb_aald dX2_depthFor_18 (gb_kE g5) (by decide) (gb_inE g6) ea7 ?_
    obtain ⟨g8, hF⟩ := gb_gdE hF
    obtain ⟨x9, h10, cx9, hF⟩ := gb_bdE hF
    refine gb_cV (As := []) (S := [.int v2]) (v := some (.int x9)) (h1 := h10) (S2 := [.int x9, .int v2]) cf5 dX2_depthFor_19 mtX5_base lX2_29 inX5_base seX5_base (gb_kE g8) (fnX5_base_ok _ _ cx9) (by decide) rfl (Nat.le_of_ble_eq_true rfl) (Nat.le_of_ble_eq_true rfl) rfl rfl ?_
    refine gb_iload_n dX2_depthFor_22 rfl rfl ?_
    obtain ⟨x11, h12, cx11, hF⟩ := gb_bdE hF
    refine gb_cS (As := [.int v2, .int x9, .int v1]) (S := []) (v := some (.int x11)) (h1 := h12) (S2 := [.int x11]) dX2_depthFor_23 mtX2_deepen lX2_33 stX2_deepen (fnX2_deepen_ok _ _ cx11) (by decide) rfl (Nat.le_of_ble_eq_true rfl) (Nat.le_of_ble_eq_true rfl) rfl rfl ?_
    refine gb_istore_n (L' := [some (.ref v0), some (.int v1), some (.int x11), some (.int v3)]) dX2_depthFor_26 rfl (by decide) rfl rfl ?_
    obtain ⟨x13, ex13, hF⟩ := gb_ltE hF
    refine gb_iinc (v := x13) (L' := [some (.ref v0), some (.int v1), some (.int x11), some (.int x13)]) dX2_depthFor_27 rfl (by rw [ex13]; rfl) (by decide) rfl rfl ?_
    refine gb_goto (tgt := 4) dX2_depthFor_30 (by decide) ?_
    exact gb_wk (hk4 v0 v1 x11 x13 h12 r hF) (And.intro rfl (And.intro rfl (And.intro rfl (And.intro rfl trivial))))
def lpX2_depthFor_4 (n : Nat) (v0 : Nat) (v1 : Int32) (v2 : Int32) (v3 : Int32) (h : gb_H) : Option (Int32 × gb_H) := gb_lp (σ := Nat × Int32 × Int32 × Int32 × gb_H) (fun k s => fbX2_depthFor_4 (fun v0 v1 v2 v3 h => k (v0, v1, v2, v3, h)) s.1 s.2.1 s.2.2.1 s.2.2.2.1 s.2.2.2.2) n (v0, v1, v2, v3, h)
theorem lpX2_depthFor_4_ok {X : gb_X}  (n : Nat) (v0 : Nat) (v1 : Int32) (v2 : Int32) (v3 : Int32) (h : gb_H) (r : Int32 × gb_H) (hF : lpX2_depthFor_4 n v0 v1 v2 v3 h = some r) : gb_Ev X 3 mX2_depthFor 4 [some (.ref v0), some (.int v1), some (.int v2), some (.int v3)] [] h (gb_wI r) := by
  exact gb_lpE (σ := Nat × Int32 × Int32 × Int32 × gb_H) (P := fun s r => gb_Ev X 3 mX2_depthFor 4 [some (.ref s.1), some (.int s.2.1), some (.int s.2.2.1), some (.int s.2.2.2.1)] [] s.2.2.2.2 (gb_wI r)) (fun k hk s r hs => fbX2_depthFor_4_ok (fun v0 v1 v2 v3 h r e => hk (v0, v1, v2, v3, h) r e) _ _ _ _ _ r hs) n (v0, v1, v2, v3, h) r hF
def fnX2_depthFor (p0 : Nat) (p1 : Int32) (h : gb_H) : Option (Int32 × gb_H) :=
  lpX2_depthFor_4 gb_FU p0 p1 (1 : Int32) (0 : Int32) h
theorem fnX2_depthFor_ok {X : gb_X}  {p0 : Nat} {p1 : Int32} (h : gb_H) (r : Int32 × gb_H) (hF : fnX2_depthFor p0 p1 h = some r) : gb_Ev X 3 mX2_depthFor 0 (gb_L0 [.ref p0, .int p1]) [] h (gb_wI r) := by
  unfold fnX2_depthFor at hF
  refine gb_weak (L' := [some (.ref p0), some (.int p1), none, none]) (And.intro rfl (And.intro rfl trivial)) ?_
  refine gb_iconst (v := (1 : Int32)) dX2_depthFor_0 (by decide) ?_
  refine gb_istore_n (L' := [some (.ref p0), some (.int p1), some (.int (1 : Int32)), none]) dX2_depthFor_1 rfl (by decide) rfl rfl ?_
  refine gb_iconst (v := (0 : Int32)) dX2_depthFor_2 (by decide) ?_
  refine gb_istore_n (L' := [some (.ref p0), some (.int p1), some (.int (1 : Int32)), some (.int (0 : Int32))]) dX2_depthFor_3 rfl (by decide) rfl rfl ?_
  exact gb_wk (lpX2_depthFor_4_ok gb_FU p0 p1 (1 : Int32) (0 : Int32) h r hF) (And.intro rfl (And.intro rfl (And.intro rfl (And.intro rfl trivial))))
def fnX0_keyOf (p0 : Int32) (p1 : Int32) (p2 : Int32) (h : gb_H) : Option (Int32 × gb_H) :=
  gb_lt (if p1 < p0 then p1 else p0) fun x1 =>
  gb_lt (if p2 < x1 then p2 else x1) fun x2 =>
  gb_lt (if p0 < p1 then p1 else p0) fun x3 =>
  gb_lt (if x3 < p2 then p2 else x3) fun x4 =>
  some ((x2 ||| (((((p0 + p1) + p2) - x2) - x4) <<< ((5 : Int32) &&& 31))) ||| (x4 <<< ((10 : Int32) &&& 31)), h)
theorem fnX0_keyOf_ok {X : gb_X}  {p0 : Int32} {p1 : Int32} {p2 : Int32} (h : gb_H) (r : Int32 × gb_H) (hF : fnX0_keyOf p0 p1 p2 h = some r) : gb_Ev X 2 mX0_keyOf 0 (gb_L0 [.int p0, .int p1, .int p2]) [] h (gb_wI r) := by
  unfold fnX0_keyOf at hF
  refine gb_weak (L' := [some (.int p0), some (.int p1), some (.int p2), none, none]) (And.intro rfl (And.intro rfl (And.intro rfl trivial))) ?_
  refine gb_iload_n dX0_keyOf_0 rfl rfl ?_
  refine gb_iload_n dX0_keyOf_1 rfl rfl ?_
  refine gb_mmin dX0_keyOf_2 lmX0_32 gb_sdmin gb_mini gb_cdmin (by decide) (Nat.le_of_ble_eq_true rfl) ?_
  refine gb_iload_n dX0_keyOf_5 rfl rfl ?_
  obtain ⟨x1, ex1, hF⟩ := gb_ltE hF
  refine gb_topI2 ex1 ?_
  refine gb_mmin dX0_keyOf_6 lmX0_32 gb_sdmin gb_mini gb_cdmin (by decide) (Nat.le_of_ble_eq_true rfl) ?_
  obtain ⟨x2, ex2, hF⟩ := gb_ltE hF
  refine gb_topI ex2 ?_
  refine gb_istore_n (L' := [some (.int p0), some (.int p1), some (.int p2), some (.int x2), none]) dX0_keyOf_9 rfl (by decide) rfl rfl ?_
  refine gb_iload_n dX0_keyOf_10 rfl rfl ?_
  refine gb_iload_n dX0_keyOf_11 rfl rfl ?_
  refine gb_mmax dX0_keyOf_12 lmX0_38 gb_sdmax gb_mini gb_cdmax (by decide) (Nat.le_of_ble_eq_true rfl) ?_
  refine gb_iload_n dX0_keyOf_15 rfl rfl ?_
  obtain ⟨x3, ex3, hF⟩ := gb_ltE hF
  refine gb_topI2 ex3 ?_
  refine gb_mmax dX0_keyOf_16 lmX0_38 gb_sdmax gb_mini gb_cdmax (by decide) (Nat.le_of_ble_eq_true rfl) ?_
  obtain ⟨x4, ex4, hF⟩ := gb_ltE hF
  refine gb_topI ex4 ?_
  refine gb_istore (L' := [some (.int p0), some (.int p1), some (.int p2), some (.int x2), some (.int x4)]) dX0_keyOf_19 (by decide) rfl rfl ?_
  refine gb_iload_n dX0_keyOf_21 rfl rfl ?_
  refine gb_iload_n dX0_keyOf_22 rfl rfl ?_
  refine gb_iload_n dX0_keyOf_23 rfl rfl ?_
  refine gb_iadd dX0_keyOf_24 ?_
  refine gb_iload_n dX0_keyOf_25 rfl rfl ?_
  refine gb_iadd dX0_keyOf_26 ?_
  refine gb_iload_n dX0_keyOf_27 rfl rfl ?_
  refine gb_isub dX0_keyOf_28 ?_
  refine gb_iload dX0_keyOf_29 rfl ?_
  refine gb_isub dX0_keyOf_31 ?_
  refine gb_iconst (v := (5 : Int32)) dX0_keyOf_32 (by decide) ?_
  refine gb_ishl dX0_keyOf_33 ?_
  refine gb_ior dX0_keyOf_34 ?_
  refine gb_iload dX0_keyOf_35 rfl ?_
  refine gb_bipush (v := (10 : Int32)) dX0_keyOf_37 (by decide) ?_
  refine gb_ishl dX0_keyOf_39 ?_
  refine gb_ior dX0_keyOf_40 ?_
  cases hF
  exact gb_iret dX0_keyOf_41 rfl
def fnX0_low (p0 : Int32) (h : gb_H) : Option (Int32 × gb_H) :=
  some (p0 &&& (31 : Int32), h)
theorem fnX0_low_ok {X : gb_X}  {p0 : Int32} (h : gb_H) (r : Int32 × gb_H) (hF : fnX0_low p0 h = some r) : gb_Ev X 1 mX0_low 0 (gb_L0 [.int p0]) [] h (gb_wI r) := by
  unfold fnX0_low at hF
  refine gb_weak (L' := [some (.int p0)]) (And.intro rfl trivial) ?_
  refine gb_iload_n dX0_low_0 rfl rfl ?_
  refine gb_bipush (v := (31 : Int32)) dX0_low_1 (by decide) ?_
  refine gb_iand dX0_low_3 ?_
  cases hF
  exact gb_iret dX0_low_4 rfl
def fnX0_mid (p0 : Int32) (h : gb_H) : Option (Int32 × gb_H) :=
  some ((p0 >>> ((5 : Int32) &&& 31)) &&& (31 : Int32), h)
theorem fnX0_mid_ok {X : gb_X}  {p0 : Int32} (h : gb_H) (r : Int32 × gb_H) (hF : fnX0_mid p0 h = some r) : gb_Ev X 1 mX0_mid 0 (gb_L0 [.int p0]) [] h (gb_wI r) := by
  unfold fnX0_mid at hF
  refine gb_weak (L' := [some (.int p0)]) (And.intro rfl trivial) ?_
  refine gb_iload_n dX0_mid_0 rfl rfl ?_
  refine gb_iconst (v := (5 : Int32)) dX0_mid_1 (by decide) ?_
  refine gb_ishr dX0_mid_2 ?_
  refine gb_bipush (v := (31 : Int32)) dX0_mid_3 (by decide) ?_
  refine gb_iand dX0_mid_5 ?_
  cases hF
  exact gb_iret dX0_mid_6 rfl
def fnX0_high (p0 : Int32) (h : gb_H) : Option (Int32 × gb_H) :=
  some ((p0 >>> ((10 : Int32) &&& 31)) &&& (31 : Int32), h)
theorem fnX0_high_ok {X : gb_X}  {p0 : Int32} (h : gb_H) (r : Int32 × gb_H) (hF : fnX0_high p0 h = some r) : gb_Ev X 1 mX0_high 0 (gb_L0 [.int p0]) [] h (gb_wI r) := by
  unfold fnX0_high at hF
  refine gb_weak (L' := [some (.int p0)]) (And.intro rfl trivial) ?_
  refine gb_iload_n dX0_high_0 rfl rfl ?_
  refine gb_bipush (v := (10 : Int32)) dX0_high_1 (by decide) ?_
  refine gb_ishr dX0_high_3 ?_
  refine gb_bipush (v := (31 : Int32)) dX0_high_4 (by decide) ?_
  refine gb_iand dX0_high_6 ?_
  cases hF
  exact gb_iret dX0_high_7 rfl
def fbX0_orders_37 (v3 : Int32) (h : gb_H) : Option (Int32 × gb_H) :=
  some (v3, h)
theorem fbX0_orders_37_ok {X : gb_X} (v3 : Int32) (h : gb_H) (r : Int32 × gb_H) (hF : fbX0_orders_37 v3 h = some r) : gb_Ev X 2 mX0_orders 37 [none, none, none, some (.int v3)] [] h (gb_wI r) := by
  unfold fbX0_orders_37 at hF
  refine gb_iload_n dX0_orders_37 rfl rfl ?_
  cases hF
  exact gb_iret dX0_orders_38 rfl
def fbX0_orders_50 (s0 : Int32) (h : gb_H) : Option (Int32 × gb_H) :=
  some (s0, h)
theorem fbX0_orders_50_ok {X : gb_X} (s0 : Int32) (h : gb_H) (r : Int32 × gb_H) (hF : fbX0_orders_50 s0 h = some r) : gb_Ev X 2 mX0_orders 50 [none, none, none, none] [.int s0] h (gb_wI r) := by
  unfold fbX0_orders_50 at hF
  cases hF
  exact gb_iret dX0_orders_50 rfl
def fbX0_orders_27 (v1 : Int32) (v2 : Int32) (s0 : Int32) (h : gb_H) : Option (Int32 × gb_H) :=
  if v1 = 0 then
    fbX0_orders_37 s0 h
  else
    if v1 = v2 then
      if s0 = (2 : Int32) then
        fbX0_orders_50 (6 : Int32) h
      else
        fbX0_orders_50 (2 : Int32) h
    else
      fbX0_orders_37 s0 h
theorem fbX0_orders_27_ok {X : gb_X} (v1 : Int32) (v2 : Int32) (s0 : Int32) (h : gb_H) (r : Int32 × gb_H) (hF : fbX0_orders_27 v1 v2 s0 h = some r) : gb_Ev X 2 mX0_orders 27 [none, some (.int v1), some (.int v2), none] [.int s0] h (gb_wI r) := by
  unfold fbX0_orders_27 at hF
  refine gb_istore_n (L' := [none, some (.int v1), some (.int v2), some (.int s0)]) dX0_orders_27 rfl (by decide) rfl rfl ?_
  refine gb_iload_n dX0_orders_28 rfl rfl ?_
  refine gb_if_eq (tgt := 37) dX0_orders_29 (by decide) (fun c1 => ?_) (fun c1 => ?_)
  · replace hF := gb_ifT c1 hF
    exact gb_wk (fbX0_orders_37_ok s0 h r hF) (And.intro rfl trivial)
  · replace hF := gb_ifF c1 hF
    refine gb_iload_n dX0_orders_32 rfl rfl ?_
    refine gb_iload_n dX0_orders_33 rfl rfl ?_
    refine gb_icmp_eq (tgt := 39) dX0_orders_34 (by decide) (fun c2 => ?_) (fun c2 => ?_)
    · replace hF := gb_ifT c2 hF
      refine gb_iload_n dX0_orders_39 rfl rfl ?_
      refine gb_iconst (v := (2 : Int32)) dX0_orders_40 (by decide) ?_
      refine gb_icmp_ne (tgt := 49) dX0_orders_41 (by decide) (fun c3 => ?_) (fun c3 => ?_)
      · replace hF := gb_ifF c3 hF
        refine gb_iconst (v := (2 : Int32)) dX0_orders_49 (by decide) ?_
        exact gb_wk (fbX0_orders_50_ok (2 : Int32) h r hF) trivial
      · replace hF := gb_ifT c3 hF
        refine gb_bipush (v := (6 : Int32)) dX0_orders_44 (by decide) ?_
        refine gb_goto (tgt := 50) dX0_orders_46 (by decide) ?_
        exact gb_wk (fbX0_orders_50_ok (6 : Int32) h r hF) trivial
    · replace hF := gb_ifF c2 hF
      exact gb_wk (fbX0_orders_37_ok s0 h r hF) (And.intro rfl trivial)
def fbX0_orders_26 (v1 : Int32) (v2 : Int32) (h : gb_H) : Option (Int32 × gb_H) :=
  fbX0_orders_27 v1 v2 (1 : Int32) h
theorem fbX0_orders_26_ok {X : gb_X} (v1 : Int32) (v2 : Int32) (h : gb_H) (r : Int32 × gb_H) (hF : fbX0_orders_26 v1 v2 h = some r) : gb_Ev X 2 mX0_orders 26 [none, some (.int v1), some (.int v2), none] [] h (gb_wI r) := by
  unfold fbX0_orders_26 at hF
  refine gb_iconst (v := (1 : Int32)) dX0_orders_26 (by decide) ?_
  exact gb_wk (fbX0_orders_27_ok v1 v2 (1 : Int32) h r hF) (And.intro rfl (And.intro rfl trivial))
def fnX0_orders (p0 : Int32) (h : gb_H) : Option (Int32 × gb_H) :=
  gb_bd (fnX0_low p0 h) fun x1 h2 =>
  gb_bd (fnX0_mid p0 h2) fun x3 h4 =>
  if x3 = 0 then
    fbX0_orders_26 x1 x3 h4
  else
    gb_bd (fnX0_high p0 h4) fun x6 h7 =>
    if x3 = x6 then
      fbX0_orders_27 x1 x3 (2 : Int32) h7
    else
      fbX0_orders_26 x1 x3 h7
theorem fnX0_orders_ok {X : gb_X}  {p0 : Int32} (h : gb_H) (r : Int32 × gb_H) (hF : fnX0_orders p0 h = some r) : gb_Ev X 2 mX0_orders 0 (gb_L0 [.int p0]) [] h (gb_wI r) := by
  unfold fnX0_orders at hF
  refine gb_weak (L' := [some (.int p0), none, none, none]) (And.intro rfl trivial) ?_
  refine gb_iload_n dX0_orders_0 rfl rfl ?_
  obtain ⟨x1, h2, cx1, hF⟩ := gb_bdE hF
  refine gb_cS (As := [.int p0]) (S := []) (v := some (.int x1)) (h1 := h2) (S2 := [.int x1]) dX0_orders_1 mtX0_low lX0_41 stX0_low (fnX0_low_ok _ _ cx1) (by decide) rfl (Nat.le_of_ble_eq_true rfl) (Nat.le_of_ble_eq_true rfl) rfl rfl ?_
  refine gb_istore_n (L' := [some (.int p0), some (.int x1), none, none]) dX0_orders_4 rfl (by decide) rfl rfl ?_
  refine gb_iload_n dX0_orders_5 rfl rfl ?_
  obtain ⟨x3, h4, cx3, hF⟩ := gb_bdE hF
  refine gb_cS (As := [.int p0]) (S := []) (v := some (.int x3)) (h1 := h4) (S2 := [.int x3]) dX0_orders_6 mtX0_mid lX0_45 stX0_mid (fnX0_mid_ok _ _ cx3) (by decide) rfl (Nat.le_of_ble_eq_true rfl) (Nat.le_of_ble_eq_true rfl) rfl rfl ?_
  refine gb_istore_n (L' := [some (.int p0), some (.int x1), some (.int x3), none]) dX0_orders_9 rfl (by decide) rfl rfl ?_
  refine gb_iload_n dX0_orders_10 rfl rfl ?_
  refine gb_if_eq (tgt := 26) dX0_orders_11 (by decide) (fun c5 => ?_) (fun c5 => ?_)
  · replace hF := gb_ifT c5 hF
    exact gb_wk (fbX0_orders_26_ok x1 x3 h4 r hF) (And.intro rfl (And.intro rfl trivial))
  · replace hF := gb_ifF c5 hF
    refine gb_iload_n dX0_orders_14 rfl rfl ?_
    refine gb_iload_n dX0_orders_15 rfl rfl ?_
    obtain ⟨x6, h7, cx6, hF⟩ := gb_bdE hF
    refine gb_cS (As := [.int p0]) (S := [.int x3]) (v := some (.int x6)) (h1 := h7) (S2 := [.int x6, .int x3]) dX0_orders_16 mtX0_high lX0_48 stX0_high (fnX0_high_ok _ _ cx6) (by decide) rfl (Nat.le_of_ble_eq_true rfl) (Nat.le_of_ble_eq_true rfl) rfl rfl ?_
    refine gb_icmp_ne (tgt := 26) dX0_orders_19 (by decide) (fun c8 => ?_) (fun c8 => ?_)
    · replace hF := gb_ifF c8 hF
      exact gb_wk (fbX0_orders_26_ok x1 x3 h7 r hF) (And.intro rfl (And.intro rfl trivial))
    · replace hF := gb_ifT c8 hF
      refine gb_iconst (v := (2 : Int32)) dX0_orders_22 (by decide) ?_
      refine gb_goto (tgt := 27) dX0_orders_23 (by decide) ?_
      exact gb_wk (fbX0_orders_27_ok x1 x3 (2 : Int32) h7 r hF) (And.intro rfl (And.intro rfl trivial))
def fnX0_placeOfKey (p0 : Int32) (h : gb_H) : Option (Int32 × gb_H) :=
  gb_lt (p0 &&& (31 : Int32)) fun x1 =>
  gb_lt ((p0 >>> ((5 : Int32) &&& 31)) &&& (31 : Int32)) fun x2 =>
  gb_lt ((p0 >>> ((10 : Int32) &&& 31)) &&& (31 : Int32)) fun x3 =>
  gb_gd (gb_nz (2 : Int32)) <|
  gb_gd (gb_nz (6 : Int32)) <|
  some ((x1 + ((x2 * (x2 + (1 : Int32))) / (2 : Int32))) + (((x3 * (x3 + (1 : Int32))) * (x3 + (2 : Int32))) / (6 : Int32)), h)
theorem fnX0_placeOfKey_ok {X : gb_X}  {p0 : Int32} (h : gb_H) (r : Int32 × gb_H) (hF : fnX0_placeOfKey p0 h = some r) : gb_Ev X 1 mX0_placeOfKey 0 (gb_L0 [.int p0]) [] h (gb_wI r) := by
  unfold fnX0_placeOfKey at hF
  refine gb_weak (L' := [some (.int p0), none, none, none]) (And.intro rfl trivial) ?_
  refine gb_iload_n dX0_placeOfKey_0 rfl rfl ?_
  refine gb_bipush (v := (31 : Int32)) dX0_placeOfKey_1 (by decide) ?_
  refine gb_iand dX0_placeOfKey_3 ?_
  obtain ⟨x1, ex1, hF⟩ := gb_ltE hF
  refine gb_topI ex1 ?_
  refine gb_istore_n (L' := [some (.int p0), some (.int x1), none, none]) dX0_placeOfKey_4 rfl (by decide) rfl rfl ?_
  refine gb_iload_n dX0_placeOfKey_5 rfl rfl ?_
  refine gb_iconst (v := (5 : Int32)) dX0_placeOfKey_6 (by decide) ?_
  refine gb_ishr dX0_placeOfKey_7 ?_
  refine gb_bipush (v := (31 : Int32)) dX0_placeOfKey_8 (by decide) ?_
  refine gb_iand dX0_placeOfKey_10 ?_
  obtain ⟨x2, ex2, hF⟩ := gb_ltE hF
  refine gb_topI ex2 ?_
  refine gb_istore_n (L' := [some (.int p0), some (.int x1), some (.int x2), none]) dX0_placeOfKey_11 rfl (by decide) rfl rfl ?_
  refine gb_iload_n dX0_placeOfKey_12 rfl rfl ?_
  refine gb_bipush (v := (10 : Int32)) dX0_placeOfKey_13 (by decide) ?_
  refine gb_ishr dX0_placeOfKey_15 ?_
  refine gb_bipush (v := (31 : Int32)) dX0_placeOfKey_16 (by decide) ?_
  refine gb_iand dX0_placeOfKey_18 ?_
  obtain ⟨x3, ex3, hF⟩ := gb_ltE hF
  refine gb_topI ex3 ?_
  refine gb_istore_n (L' := [some (.int p0), some (.int x1), some (.int x2), some (.int x3)]) dX0_placeOfKey_19 rfl (by decide) rfl rfl ?_
  refine gb_iload_n dX0_placeOfKey_20 rfl rfl ?_
  refine gb_iload_n dX0_placeOfKey_21 rfl rfl ?_
  refine gb_iload_n dX0_placeOfKey_22 rfl rfl ?_
  refine gb_iconst (v := (1 : Int32)) dX0_placeOfKey_23 (by decide) ?_
  refine gb_iadd dX0_placeOfKey_24 ?_
  refine gb_imul dX0_placeOfKey_25 ?_
  refine gb_iconst (v := (2 : Int32)) dX0_placeOfKey_26 (by decide) ?_
  obtain ⟨g4, hF⟩ := gb_gdE hF
  refine gb_idiv dX0_placeOfKey_27 (gb_nzE g4) ?_
  refine gb_iadd dX0_placeOfKey_28 ?_
  refine gb_iload_n dX0_placeOfKey_29 rfl rfl ?_
  refine gb_iload_n dX0_placeOfKey_30 rfl rfl ?_
  refine gb_iconst (v := (1 : Int32)) dX0_placeOfKey_31 (by decide) ?_
  refine gb_iadd dX0_placeOfKey_32 ?_
  refine gb_imul dX0_placeOfKey_33 ?_
  refine gb_iload_n dX0_placeOfKey_34 rfl rfl ?_
  refine gb_iconst (v := (2 : Int32)) dX0_placeOfKey_35 (by decide) ?_
  refine gb_iadd dX0_placeOfKey_36 ?_
  refine gb_imul dX0_placeOfKey_37 ?_
  refine gb_bipush (v := (6 : Int32)) dX0_placeOfKey_38 (by decide) ?_
  obtain ⟨g5, hF⟩ := gb_gdE hF
  refine gb_idiv dX0_placeOfKey_40 (gb_nzE g5) ?_
  refine gb_iadd dX0_placeOfKey_41 ?_
  cases hF
  exact gb_iret dX0_placeOfKey_42 rfl
def fbX0_wipe_2 (k2 : Nat → Int32 → gb_H → Option (Unit × gb_H)) (v0 : Nat) (v1 : Int32) (h : gb_H) : Option (Unit × gb_H) :=
  gb_gd (gb_k h v0 0) <|
  if (gb_I h v0 6) ≤ v1 then
    gb_gd (gb_k h v0 0) <|
    gb_lt (gb_sI h v0 6 (0 : Int32)) fun h4 =>
    some ((), h4)
  else
    gb_gd (gb_k h v0 0) <|
    gb_rd (gb_R h v0 0) fun a6 =>
    gb_gd (gb_k h a6 20) <|
    gb_gd (gb_in h a6 v1) <|
    gb_bd (fnX0_placeOfKey (gb_I h a6 v1.toNatClampNeg) h) fun x9 h10 =>
    gb_gd (gb_k h10 v0 0) <|
    gb_rd (gb_R h10 v0 1) fun a12 =>
    gb_gd (gb_k h10 a12 21) <|
    gb_gd (gb_in h10 a12 x9) <|
    gb_lt (gb_sI h10 a12 x9.toNatClampNeg ((0 : Int32) &&& 1)) fun h15 =>
    gb_gd (gb_k h15 v0 0) <|
    gb_rd (gb_R h15 v0 2) fun a17 =>
    gb_gd (gb_k h15 a17 23) <|
    gb_gd (gb_in h15 a17 x9) <|
    gb_lt (gb_sL h15 a17 x9.toNatClampNeg (0 : Int64)) fun h20 =>
    gb_gd (gb_k h20 v0 0) <|
    gb_rd (gb_R h20 v0 3) fun a22 =>
    gb_gd (gb_k h20 a22 23) <|
    gb_gd (gb_in h20 a22 x9) <|
    gb_lt (gb_sL h20 a22 x9.toNatClampNeg (0 : Int64)) fun h25 =>
    gb_gd (gb_k h25 v0 0) <|
    gb_rd (gb_R h25 v0 4) fun a27 =>
    gb_gd (gb_k h25 a27 23) <|
    gb_gd (gb_in h25 a27 x9) <|
    gb_lt (gb_sL h25 a27 x9.toNatClampNeg (0 : Int64)) fun h30 =>
    gb_gd (gb_k h30 v0 0) <|
    gb_rd (gb_R h30 v0 5) fun a32 =>
    gb_gd (gb_k h30 a32 23) <|
    gb_gd (gb_in h30 a32 x9) <|
    gb_lt (gb_sL h30 a32 x9.toNatClampNeg (0 : Int64)) fun h35 =>
    gb_lt (v1 + (1 : Int32)) fun x36 =>
    k2 v0 x36 h35
theorem fbX0_wipe_2_ok {X : gb_X} {k2 : Nat → Int32 → gb_H → Option (Unit × gb_H)} (hk2 : ∀ v0 v1 h r, k2 v0 v1 h = some r → gb_Ev X 2 mX0_wipe 2 [some (.ref v0), some (.int v1), none] [] h (gb_wV r)) (v0 : Nat) (v1 : Int32) (h : gb_H) (r : Unit × gb_H) (hF : fbX0_wipe_2 k2 v0 v1 h = some r) : gb_Ev X 2 mX0_wipe 2 [some (.ref v0), some (.int v1), none] [] h (gb_wV r) := by
  unfold fbX0_wipe_2 at hF
  refine gb_iload_n dX0_wipe_2 rfl rfl ?_
  refine gb_aload_n dX0_wipe_3 rfl rfl ?_
  obtain ⟨g1, hF⟩ := gb_gdE hF
  refine gb_getI fX0_68 dX0_wipe_4 (gb_kE g1) ?_
  refine gb_icmp_ge (tgt := 61) dX0_wipe_7 (by decide) (fun c2 => ?_) (fun c2 => ?_)
  · replace hF := gb_ifT c2 hF
    refine gb_aload_n dX0_wipe_61 rfl rfl ?_
    refine gb_iconst (v := (0 : Int32)) dX0_wipe_62 (by decide) ?_
    obtain ⟨g3, hF⟩ := gb_gdE hF
    obtain ⟨h4, eh4, hF⟩ := gb_ltE hF
    refine gb_putI fX0_68 (gb_nff nf0_6) dX0_wipe_63 (gb_kE g3) (fun _ => ⟨rfl, rfl⟩) (gb_hp eh4 ?_)
    cases hF
    exact gb_vret dX0_wipe_66 rfl
  · replace hF := gb_ifF c2 hF
    refine gb_aload_n dX0_wipe_10 rfl rfl ?_
    obtain ⟨g5, hF⟩ := gb_gdE hF
    obtain ⟨a6, ea6, hF⟩ := gb_rdE hF
    refine gb_getR fX0_9 dX0_wipe_11 (gb_kE g5) ea6 ?_
    refine gb_iload_n dX0_wipe_14 rfl rfl ?_
    obtain ⟨g7, hF⟩ := gb_gdE hF
    obtain ⟨g8, hF⟩ := gb_gdE hF
    refine gb_iald dX0_wipe_15 (gb_kE g7) (gb_inE g8) ?_
    obtain ⟨x9, h10, cx9, hF⟩ := gb_bdE hF
    refine gb_cS (As := [.int (gb_I h a6 v1.toNatClampNeg)]) (S := []) (v := some (.int x9)) (h1 := h10) (S2 := [.int x9]) dX0_wipe_16 mtX0_placeOfKey lX0_58 stX0_placeOfKey (fnX0_placeOfKey_ok _ _ cx9) (by decide) rfl (Nat.le_of_ble_eq_true rfl) (Nat.le_of_ble_eq_true rfl) rfl rfl ?_
    refine gb_istore_n (L' := [some (.ref v0), some (.int v1), some (.int x9)]) dX0_wipe_19 rfl (by decide) rfl rfl ?_
    refine gb_aload_n dX0_wipe_20 rfl rfl ?_
    obtain ⟨g11, hF⟩ := gb_gdE hF
    obtain ⟨a12, ea12, hF⟩ := gb_rdE hF
    refine gb_getR fX0_15 dX0_wipe_21 (gb_kE g11) ea12 ?_
    refine gb_iload_n dX0_wipe_24 rfl rfl ?_
    refine gb_iconst (v := (0 : Int32)) dX0_wipe_25 (by decide) ?_
    obtain ⟨g13, hF⟩ := gb_gdE hF
    obtain ⟨g14, hF⟩ := gb_gdE hF
    obtain ⟨h15, eh15, hF⟩ := gb_ltE hF
    refine gb_zast dX0_wipe_26 (gb_kE g13) (gb_inE g14) (gb_hp eh15 ?_)
    refine gb_aload_n dX0_wipe_27 rfl rfl ?_
    obtain ⟨g16, hF⟩ := gb_gdE hF
    obtain ⟨a17, ea17, hF⟩ := gb_rdE hF
    refine gb_getR fX0_19 dX0_wipe_28 (gb_kE g16) ea17 ?_
    refine gb_iload_n dX0_wipe_31 rfl rfl ?_
    refine gb_lconst (v := (0 : Int64)) dX0_wipe_32 (by decide) ?_
    obtain ⟨g18, hF⟩ := gb_gdE hF
    obtain ⟨g19, hF⟩ := gb_gdE hF
    obtain ⟨h20, eh20, hF⟩ := gb_ltE hF
    refine gb_last dX0_wipe_33 (gb_kE g18) (gb_inE g19) (gb_hp eh20 ?_)
    refine gb_aload_n dX0_wipe_34 rfl rfl ?_
    obtain ⟨g21, hF⟩ := gb_gdE hF
    obtain ⟨a22, ea22, hF⟩ := gb_rdE hF
    refine gb_getR fX0_23 dX0_wipe_35 (gb_kE g21) ea22 ?_
    refine gb_iload_n dX0_wipe_38 rfl rfl ?_
    refine gb_lconst (v := (0 : Int64)) dX0_wipe_39 (by decide) ?_
    obtain ⟨g23, hF⟩ := gb_gdE hF
    obtain ⟨g24, hF⟩ := gb_gdE hF
    obtain ⟨h25, eh25, hF⟩ := gb_ltE hF
    refine gb_last dX0_wipe_40 (gb_kE g23) (gb_inE g24) (gb_hp eh25 ?_)
    refine gb_aload_n dX0_wipe_41 rfl rfl ?_
    obtain ⟨g26, hF⟩ := gb_gdE hF
    obtain ⟨a27, ea27, hF⟩ := gb_rdE hF
    refine gb_getR fX0_26 dX0_wipe_42 (gb_kE g26) ea27 ?_
    refine gb_iload_n dX0_wipe_45 rfl rfl ?_
    refine gb_lconst (v := (0 : Int64)) dX0_wipe_46 (by decide) ?_
    obtain ⟨g28, hF⟩ := gb_gdE hF
    obtain ⟨g29, hF⟩ := gb_gdE hF
    obtain ⟨h30, eh30, hF⟩ := gb_ltE hF
    refine gb_last dX0_wipe_47 (gb_kE g28) (gb_inE g29) (gb_hp eh30 ?_)
    refine gb_aload_n dX0_wipe_48 rfl rfl ?_
    obtain ⟨g31, hF⟩ := gb_gdE hF
    obtain ⟨a32, ea32, hF⟩ := gb_rdE hF
    refine gb_getR fX0_29 dX0_wipe_49 (gb_kE g31) ea32 ?_
    refine gb_iload_n dX0_wipe_52 rfl rfl ?_
    refine gb_lconst (v := (0 : Int64)) dX0_wipe_53 (by decide) ?_
    obtain ⟨g33, hF⟩ := gb_gdE hF
    obtain ⟨g34, hF⟩ := gb_gdE hF
    obtain ⟨h35, eh35, hF⟩ := gb_ltE hF
    refine gb_last dX0_wipe_54 (gb_kE g33) (gb_inE g34) (gb_hp eh35 ?_)
    obtain ⟨x36, ex36, hF⟩ := gb_ltE hF
    refine gb_iinc (v := x36) (L' := [some (.ref v0), some (.int x36), some (.int x9)]) dX0_wipe_55 rfl (by rw [ex36]; rfl) (by decide) rfl rfl ?_
    refine gb_goto (tgt := 2) dX0_wipe_58 (by decide) ?_
    exact gb_wk (hk2 v0 x36 h35 r hF) (And.intro rfl (And.intro rfl trivial))
def lpX0_wipe_2 (n : Nat) (v0 : Nat) (v1 : Int32) (h : gb_H) : Option (Unit × gb_H) := gb_lp (σ := Nat × Int32 × gb_H) (fun k s => fbX0_wipe_2 (fun v0 v1 h => k (v0, v1, h)) s.1 s.2.1 s.2.2) n (v0, v1, h)
theorem lpX0_wipe_2_ok {X : gb_X}  (n : Nat) (v0 : Nat) (v1 : Int32) (h : gb_H) (r : Unit × gb_H) (hF : lpX0_wipe_2 n v0 v1 h = some r) : gb_Ev X 2 mX0_wipe 2 [some (.ref v0), some (.int v1), none] [] h (gb_wV r) := by
  exact gb_lpE (σ := Nat × Int32 × gb_H) (P := fun s r => gb_Ev X 2 mX0_wipe 2 [some (.ref s.1), some (.int s.2.1), none] [] s.2.2 (gb_wV r)) (fun k hk s r hs => fbX0_wipe_2_ok (fun v0 v1 h r e => hk (v0, v1, h) r e) _ _ _ r hs) n (v0, v1, h) r hF
def fnX0_wipe (p0 : Nat) (h : gb_H) : Option (Unit × gb_H) :=
  lpX0_wipe_2 gb_FU p0 (0 : Int32) h
theorem fnX0_wipe_ok {X : gb_X}  {p0 : Nat} (h : gb_H) (r : Unit × gb_H) (hF : fnX0_wipe p0 h = some r) : gb_Ev X 2 mX0_wipe 0 (gb_L0 [.ref p0]) [] h (gb_wV r) := by
  unfold fnX0_wipe at hF
  refine gb_weak (L' := [some (.ref p0), none, none]) (And.intro rfl trivial) ?_
  refine gb_iconst (v := (0 : Int32)) dX0_wipe_0 (by decide) ?_
  refine gb_istore_n (L' := [some (.ref p0), some (.int (0 : Int32)), none]) dX0_wipe_1 rfl (by decide) rfl rfl ?_
  exact gb_wk (lpX0_wipe_2_ok gb_FU p0 (0 : Int32) h r hF) (And.intro rfl (And.intro rfl trivial))
def fbX0_add_13 (h : gb_H) : Option (Unit × gb_H) :=
  some ((), h)
theorem fbX0_add_13_ok {X : gb_X} (h : gb_H) (r : Unit × gb_H) (hF : fbX0_add_13 h = some r) : gb_Ev X 1 mX0_add 13 [none, none, none, none, none, none, none, none, none, none, none] [] h (gb_wV r) := by
  unfold fbX0_add_13 at hF
  cases hF
  exact gb_vret dX0_add_13 rfl
def fbX0_add_50 (v0 : Nat) (v2 : Int32) (v3 : Int64) (v5 : Int64) (v7 : Int64) (v9 : Int64) (h : gb_H) : Option (Unit × gb_H) :=
  gb_gd (gb_k h v0 0) <|
  gb_rd (gb_R h v0 2) fun a2 =>
  gb_gd (gb_k h a2 23) <|
  gb_gd (gb_in h a2 v2) <|
  gb_gd (gb_k h a2 23) <|
  gb_gd (gb_in h a2 v2) <|
  gb_lt (gb_sL h a2 v2.toNatClampNeg ((gb_L h a2 v2.toNatClampNeg) + v3)) fun h7 =>
  gb_gd (gb_k h7 v0 0) <|
  gb_rd (gb_R h7 v0 3) fun a9 =>
  gb_gd (gb_k h7 a9 23) <|
  gb_gd (gb_in h7 a9 v2) <|
  gb_gd (gb_k h7 a9 23) <|
  gb_gd (gb_in h7 a9 v2) <|
  gb_lt (gb_sL h7 a9 v2.toNatClampNeg ((gb_L h7 a9 v2.toNatClampNeg) + v5)) fun h14 =>
  gb_gd (gb_k h14 v0 0) <|
  gb_rd (gb_R h14 v0 4) fun a16 =>
  gb_gd (gb_k h14 a16 23) <|
  gb_gd (gb_in h14 a16 v2) <|
  gb_gd (gb_k h14 a16 23) <|
  gb_gd (gb_in h14 a16 v2) <|
  gb_lt (gb_sL h14 a16 v2.toNatClampNeg ((gb_L h14 a16 v2.toNatClampNeg) + v7)) fun h21 =>
  gb_gd (gb_k h21 v0 0) <|
  gb_rd (gb_R h21 v0 5) fun a23 =>
  gb_gd (gb_k h21 a23 23) <|
  gb_gd (gb_in h21 a23 v2) <|
  gb_gd (gb_k h21 a23 23) <|
  gb_gd (gb_in h21 a23 v2) <|
  gb_lt (gb_sL h21 a23 v2.toNatClampNeg ((gb_L h21 a23 v2.toNatClampNeg) + v9)) fun h28 =>
  some ((), h28)
theorem fbX0_add_50_ok {X : gb_X} (v0 : Nat) (v2 : Int32) (v3 : Int64) (v5 : Int64) (v7 : Int64) (v9 : Int64) (h : gb_H) (r : Unit × gb_H) (hF : fbX0_add_50 v0 v2 v3 v5 v7 v9 h = some r) : gb_Ev X 1 mX0_add 50 [some (.ref v0), none, some (.int v2), some (.long v3), none, some (.long v5), none, some (.long v7), none, some (.long v9), none] [] h (gb_wV r) := by
  unfold fbX0_add_50 at hF
  refine gb_aload_n dX0_add_50 rfl rfl ?_
  obtain ⟨g1, hF⟩ := gb_gdE hF
  obtain ⟨a2, ea2, hF⟩ := gb_rdE hF
  refine gb_getR fX0_19 dX0_add_51 (gb_kE g1) ea2 ?_
  refine gb_iload_n dX0_add_54 rfl rfl ?_
  refine gb_dup2 dX0_add_55 rfl rfl ?_
  obtain ⟨g3, hF⟩ := gb_gdE hF
  obtain ⟨g4, hF⟩ := gb_gdE hF
  refine gb_lald dX0_add_56 (gb_kE g3) (gb_inE g4) ?_
  refine gb_lload_n dX0_add_57 rfl rfl ?_
  refine gb_ladd dX0_add_58 ?_
  obtain ⟨g5, hF⟩ := gb_gdE hF
  obtain ⟨g6, hF⟩ := gb_gdE hF
  obtain ⟨h7, eh7, hF⟩ := gb_ltE hF
  refine gb_last dX0_add_59 (gb_kE g5) (gb_inE g6) (gb_hp eh7 ?_)
  refine gb_aload_n dX0_add_60 rfl rfl ?_
  obtain ⟨g8, hF⟩ := gb_gdE hF
  obtain ⟨a9, ea9, hF⟩ := gb_rdE hF
  refine gb_getR fX0_23 dX0_add_61 (gb_kE g8) ea9 ?_
  refine gb_iload_n dX0_add_64 rfl rfl ?_
  refine gb_dup2 dX0_add_65 rfl rfl ?_
  obtain ⟨g10, hF⟩ := gb_gdE hF
  obtain ⟨g11, hF⟩ := gb_gdE hF
  refine gb_lald dX0_add_66 (gb_kE g10) (gb_inE g11) ?_
  refine gb_lload dX0_add_67 rfl ?_
  refine gb_ladd dX0_add_69 ?_
  obtain ⟨g12, hF⟩ := gb_gdE hF
  obtain ⟨g13, hF⟩ := gb_gdE hF
  obtain ⟨h14, eh14, hF⟩ := gb_ltE hF
  refine gb_last dX0_add_70 (gb_kE g12) (gb_inE g13) (gb_hp eh14 ?_)
  refine gb_aload_n dX0_add_71 rfl rfl ?_
  obtain ⟨g15, hF⟩ := gb_gdE hF
  obtain ⟨a16, ea16, hF⟩ := gb_rdE hF
  refine gb_getR fX0_26 dX0_add_72 (gb_kE g15) ea16 ?_
  refine gb_iload_n dX0_add_75 rfl rfl ?_
  refine gb_dup2 dX0_add_76 rfl rfl ?_
  obtain ⟨g17, hF⟩ := gb_gdE hF
  obtain ⟨g18, hF⟩ := gb_gdE hF
  refine gb_lald dX0_add_77 (gb_kE g17) (gb_inE g18) ?_
  refine gb_lload dX0_add_78 rfl ?_
  refine gb_ladd dX0_add_80 ?_
  obtain ⟨g19, hF⟩ := gb_gdE hF
  obtain ⟨g20, hF⟩ := gb_gdE hF
  obtain ⟨h21, eh21, hF⟩ := gb_ltE hF
  refine gb_last dX0_add_81 (gb_kE g19) (gb_inE g20) (gb_hp eh21 ?_)
  refine gb_aload_n dX0_add_82 rfl rfl ?_
  obtain ⟨g22, hF⟩ := gb_gdE hF
  obtain ⟨a23, ea23, hF⟩ := gb_rdE hF
  refine gb_getR fX0_29 dX0_add_83 (gb_kE g22) ea23 ?_
  refine gb_iload_n dX0_add_86 rfl rfl ?_
  refine gb_dup2 dX0_add_87 rfl rfl ?_
  obtain ⟨g24, hF⟩ := gb_gdE hF
  obtain ⟨g25, hF⟩ := gb_gdE hF
  refine gb_lald dX0_add_88 (gb_kE g24) (gb_inE g25) ?_
  refine gb_lload dX0_add_89 rfl ?_
  refine gb_ladd dX0_add_91 ?_
  obtain ⟨g26, hF⟩ := gb_gdE hF
  obtain ⟨g27, hF⟩ := gb_gdE hF
  obtain ⟨h28, eh28, hF⟩ := gb_ltE hF
  refine gb_last dX0_add_92 (gb_kE g26) (gb_inE g27) (gb_hp eh28 ?_)
  cases hF
  exact gb_vret dX0_add_93 rfl
def fnX0_add (p0 : Nat) (p1 : Int32) (p2 : Int32) (p3 : Int64) (p4 : Int64) (p5 : Int64) (p6 : Int64) (h : gb_H) : Option (Unit × gb_H) :=
  if p2 < 0 then
    fbX0_add_13 h
  else
    gb_gd (gb_k h p0 0) <|
    gb_rd (gb_R h p0 1) fun a3 =>
    gb_gd (gb_k h a3 21) <|
    if p2 < (Int32.ofNat (gb_kd h a3).2) then
      gb_gd (gb_k h p0 0) <|
      gb_rd (gb_R h p0 1) fun a7 =>
      gb_gd (gb_k h a7 21) <|
      gb_gd (gb_in h a7 p2) <|
      if (gb_I h a7 p2.toNatClampNeg) = 0 then
        gb_gd (gb_k h p0 0) <|
        gb_rd (gb_R h p0 1) fun a12 =>
        gb_gd (gb_k h a12 21) <|
        gb_gd (gb_in h a12 p2) <|
        gb_lt (gb_sI h a12 p2.toNatClampNeg ((1 : Int32) &&& 1)) fun h15 =>
        gb_gd (gb_k h15 p0 0) <|
        gb_rd (gb_R h15 p0 0) fun a17 =>
        gb_gd (gb_k h15 p0 0) <|
        gb_lt (gb_I h15 p0 6) fun x19 =>
        gb_gd (gb_k h15 a17 20) <|
        gb_gd (gb_in h15 a17 x19) <|
        gb_lt (gb_sI h15 a17 x19.toNatClampNeg p1) fun h22 =>
        gb_gd (gb_k h22 p0 0) <|
        gb_gd (gb_k h22 p0 0) <|
        gb_lt (gb_sI h22 p0 6 ((gb_I h22 p0 6) + (1 : Int32))) fun h25 =>
        fbX0_add_50 p0 p2 p3 p4 p5 p6 h25
      else
        fbX0_add_50 p0 p2 p3 p4 p5 p6 h
    else
      fbX0_add_13 h
theorem fnX0_add_ok {X : gb_X}  {p0 : Nat} {p1 : Int32} {p2 : Int32} {p3 : Int64} {p4 : Int64} {p5 : Int64} {p6 : Int64} (h : gb_H) (r : Unit × gb_H) (hF : fnX0_add p0 p1 p2 p3 p4 p5 p6 h = some r) : gb_Ev X 1 mX0_add 0 (gb_L0 [.ref p0, .int p1, .int p2, .long p3, .long p4, .long p5, .long p6]) [] h (gb_wV r) := by
  unfold fnX0_add at hF
  refine gb_weak (L' := [some (.ref p0), some (.int p1), some (.int p2), some (.long p3), none, some (.long p4), none, some (.long p5), none, some (.long p6), none]) (And.intro rfl (And.intro rfl (And.intro rfl (And.intro rfl (And.intro rfl (And.intro rfl (And.intro rfl trivial))))))) ?_
  refine gb_iload_n dX0_add_0 rfl rfl ?_
  refine gb_if_lt (tgt := 13) dX0_add_1 (by decide) (fun c1 => ?_) (fun c1 => ?_)
  · replace hF := gb_ifT c1 hF
    exact gb_wk (fbX0_add_13_ok h r hF) trivial
  · replace hF := gb_ifF c1 hF
    refine gb_iload_n dX0_add_4 rfl rfl ?_
    refine gb_aload_n dX0_add_5 rfl rfl ?_
    obtain ⟨g2, hF⟩ := gb_gdE hF
    obtain ⟨a3, ea3, hF⟩ := gb_rdE hF
    refine gb_getR fX0_15 dX0_add_6 (gb_kE g2) ea3 ?_
    obtain ⟨g4, hF⟩ := gb_gdE hF
    refine gb_alen dX0_add_9 (gb_kE g4) (by decide) ?_
    refine gb_icmp_lt (tgt := 14) dX0_add_10 (by decide) (fun c5 => ?_) (fun c5 => ?_)
    · replace hF := gb_ifT c5 hF
      refine gb_aload_n dX0_add_14 rfl rfl ?_
      obtain ⟨g6, hF⟩ := gb_gdE hF
      obtain ⟨a7, ea7, hF⟩ := gb_rdE hF
      refine gb_getR fX0_15 dX0_add_15 (gb_kE g6) ea7 ?_
      refine gb_iload_n dX0_add_18 rfl rfl ?_
      obtain ⟨g8, hF⟩ := gb_gdE hF
      obtain ⟨g9, hF⟩ := gb_gdE hF
      refine gb_zald dX0_add_19 (gb_kE g8) (gb_inE g9) ?_
      refine gb_if_ne (tgt := 50) dX0_add_20 (by decide) (fun c10 => ?_) (fun c10 => ?_)
      · replace hF := gb_ifF c10 hF
        exact gb_wk (fbX0_add_50_ok p0 p2 p3 p4 p5 p6 h r hF) (And.intro rfl (And.intro rfl (And.intro rfl (And.intro rfl (And.intro rfl (And.intro rfl trivial))))))
      · replace hF := gb_ifT c10 hF
        refine gb_aload_n dX0_add_23 rfl rfl ?_
        obtain ⟨g11, hF⟩ := gb_gdE hF
        obtain ⟨a12, ea12, hF⟩ := gb_rdE hF
        refine gb_getR fX0_15 dX0_add_24 (gb_kE g11) ea12 ?_
        refine gb_iload_n dX0_add_27 rfl rfl ?_
        refine gb_iconst (v := (1 : Int32)) dX0_add_28 (by decide) ?_
        obtain ⟨g13, hF⟩ := gb_gdE hF
        obtain ⟨g14, hF⟩ := gb_gdE hF
        obtain ⟨h15, eh15, hF⟩ := gb_ltE hF
        refine gb_zast dX0_add_29 (gb_kE g13) (gb_inE g14) (gb_hp eh15 ?_)
        refine gb_aload_n dX0_add_30 rfl rfl ?_
        obtain ⟨g16, hF⟩ := gb_gdE hF
        obtain ⟨a17, ea17, hF⟩ := gb_rdE hF
        refine gb_getR fX0_9 dX0_add_31 (gb_kE g16) ea17 ?_
        refine gb_aload_n dX0_add_34 rfl rfl ?_
        obtain ⟨g18, hF⟩ := gb_gdE hF
        refine gb_getI fX0_68 dX0_add_35 (gb_kE g18) ?_
        refine gb_iload_n dX0_add_38 rfl rfl ?_
        obtain ⟨x19, ex19, hF⟩ := gb_ltE hF
        refine gb_topI2 ex19 ?_
        obtain ⟨g20, hF⟩ := gb_gdE hF
        obtain ⟨g21, hF⟩ := gb_gdE hF
        obtain ⟨h22, eh22, hF⟩ := gb_ltE hF
        refine gb_iast dX0_add_39 (gb_kE g20) (gb_inE g21) (gb_hp eh22 ?_)
        refine gb_aload_n dX0_add_40 rfl rfl ?_
        refine gb_dup dX0_add_41 rfl ?_
        obtain ⟨g23, hF⟩ := gb_gdE hF
        refine gb_getI fX0_68 dX0_add_42 (gb_kE g23) ?_
        refine gb_iconst (v := (1 : Int32)) dX0_add_45 (by decide) ?_
        refine gb_iadd dX0_add_46 ?_
        obtain ⟨g24, hF⟩ := gb_gdE hF
        obtain ⟨h25, eh25, hF⟩ := gb_ltE hF
        refine gb_putI fX0_68 (gb_nff nf0_6) dX0_add_47 (gb_kE g24) (fun _ => ⟨rfl, rfl⟩) (gb_hp eh25 ?_)
        exact gb_wk (fbX0_add_50_ok p0 p2 p3 p4 p5 p6 h25 r hF) (And.intro rfl (And.intro rfl (And.intro rfl (And.intro rfl (And.intro rfl (And.intro rfl trivial))))))
    · replace hF := gb_ifF c5 hF
      exact gb_wk (fbX0_add_13_ok h r hF) trivial
def fnX0_begin (p0 : Nat) (p1 : Int32) (h : gb_H) : Option (Unit × gb_H) :=
  gb_gd (gb_k h p0 0) <|
  gb_bd (fnX0_wipe p0 h) fun _ h3 =>
  gb_bd (fnX0_placeOfKey p1 h3) fun x4 h5 =>
  gb_gd (gb_k h5 p0 0) <|
  gb_bd (fnX0_add p0 p1 x4 (1 : Int64) (0 : Int64) (0 : Int64) (0 : Int64) h5) fun _ h8 =>
  some ((), h8)
theorem fnX0_begin_ok {X : gb_X}  {p0 : Nat} {p1 : Int32} (h : gb_H) (r : Unit × gb_H) (hF : fnX0_begin p0 p1 h = some r) : gb_Ev X 3 mX0_begin 0 (gb_L0 [.ref p0, .int p1]) [] h (gb_wV r) := by
  unfold fnX0_begin at hF
  refine gb_weak (L' := [some (.ref p0), some (.int p1)]) (And.intro rfl (And.intro rfl trivial)) ?_
  refine gb_aload_n dX0_begin_0 rfl rfl ?_
  obtain ⟨g1, hF⟩ := gb_gdE hF
  obtain ⟨x2, h3, cx2, hF⟩ := gb_bdE hF
  refine gb_cV (As := []) (S := []) (v := none) (h1 := h3) (S2 := []) cf0 dX0_begin_1 mtX0_wipe lX0_61 inX0_wipe seX0_wipe (gb_kE g1) (fnX0_wipe_ok _ _ cx2) (by decide) rfl (Nat.le_of_ble_eq_true rfl) (Nat.le_of_ble_eq_true rfl) rfl rfl ?_
  refine gb_aload_n dX0_begin_4 rfl rfl ?_
  refine gb_iload_n dX0_begin_5 rfl rfl ?_
  refine gb_iload_n dX0_begin_6 rfl rfl ?_
  obtain ⟨x4, h5, cx4, hF⟩ := gb_bdE hF
  refine gb_cS (As := [.int p1]) (S := [.int p1, .ref p0]) (v := some (.int x4)) (h1 := h5) (S2 := [.int x4, .int p1, .ref p0]) dX0_begin_7 mtX0_placeOfKey lX0_58 stX0_placeOfKey (fnX0_placeOfKey_ok _ _ cx4) (by decide) rfl (Nat.le_of_ble_eq_true rfl) (Nat.le_of_ble_eq_true rfl) rfl rfl ?_
  refine gb_lconst (v := (1 : Int64)) dX0_begin_10 (by decide) ?_
  refine gb_lconst (v := (0 : Int64)) dX0_begin_11 (by decide) ?_
  refine gb_lconst (v := (0 : Int64)) dX0_begin_12 (by decide) ?_
  refine gb_lconst (v := (0 : Int64)) dX0_begin_13 (by decide) ?_
  obtain ⟨g6, hF⟩ := gb_gdE hF
  obtain ⟨x7, h8, cx7, hF⟩ := gb_bdE hF
  refine gb_cV (As := [.int p1, .int x4, .long (1 : Int64), .long (0 : Int64), .long (0 : Int64), .long (0 : Int64)]) (S := []) (v := none) (h1 := h8) (S2 := []) cf0 dX0_begin_14 mtX0_add lX0_64 inX0_add seX0_add (gb_kE g6) (fnX0_add_ok _ _ cx7) (by decide) rfl (Nat.le_of_ble_eq_true rfl) (Nat.le_of_ble_eq_true rfl) rfl rfl ?_
  cases hF
  exact gb_vret dX0_begin_17 rfl
def fnX4_lead (p0 : Nat) (p1 : Int32) (p2 : Int32) (p3 : Int32) (p4 : Int32) (p5 : Int32) (h : gb_H) : Option (Unit × gb_H) :=
  gb_gd (gb_k h p0 4) <|
  gb_rd (gb_R h p0 0) fun a2 =>
  gb_gd (gb_k h a2 20) <|
  gb_gd (gb_in h a2 p1) <|
  gb_lt (((2 : Int32) * p1) + (gb_I h a2 p1.toNatClampNeg)) fun x5 =>
  gb_gd (gb_k h p0 4) <|
  gb_rd (gb_R h p0 0) fun a7 =>
  gb_gd (gb_k h a7 20) <|
  gb_gd (gb_in h a7 p1) <|
  gb_gd (gb_k h a7 20) <|
  gb_gd (gb_in h a7 p1) <|
  gb_lt (gb_sI h a7 p1.toNatClampNeg ((gb_I h a7 p1.toNatClampNeg) + (1 : Int32))) fun h12 =>
  gb_gd (gb_k h12 p0 4) <|
  gb_rd (gb_R h12 p0 1) fun a14 =>
  gb_gd (gb_k h12 a14 20) <|
  gb_gd (gb_in h12 a14 x5) <|
  gb_lt (gb_sI h12 a14 x5.toNatClampNeg p2) fun h17 =>
  gb_gd (gb_k h17 p0 4) <|
  gb_rd (gb_R h17 p0 2) fun a19 =>
  gb_gd (gb_k h17 a19 20) <|
  gb_gd (gb_in h17 a19 x5) <|
  gb_lt (gb_sI h17 a19 x5.toNatClampNeg p3) fun h22 =>
  gb_gd (gb_k h22 p0 4) <|
  gb_rd (gb_R h22 p0 3) fun a24 =>
  gb_gd (gb_k h22 a24 20) <|
  gb_gd (gb_in h22 a24 x5) <|
  gb_lt (gb_sI h22 a24 x5.toNatClampNeg p4) fun h27 =>
  gb_gd (gb_k h27 p0 4) <|
  gb_rd (gb_R h27 p0 4) fun a29 =>
  gb_gd (gb_k h27 a29 20) <|
  gb_gd (gb_in h27 a29 x5) <|
  gb_lt (gb_sI h27 a29 x5.toNatClampNeg p5) fun h32 =>
  some ((), h32)
theorem fnX4_lead_ok {X : gb_X}  {p0 : Nat} {p1 : Int32} {p2 : Int32} {p3 : Int32} {p4 : Int32} {p5 : Int32} (h : gb_H) (r : Unit × gb_H) (hF : fnX4_lead p0 p1 p2 p3 p4 p5 h = some r) : gb_Ev X 1 mX4_lead 0 (gb_L0 [.ref p0, .int p1, .int p2, .int p3, .int p4, .int p5]) [] h (gb_wV r) := by
  unfold fnX4_lead at hF
  refine gb_weak (L' := [some (.ref p0), some (.int p1), some (.int p2), some (.int p3), some (.int p4), some (.int p5), none]) (And.intro rfl (And.intro rfl (And.intro rfl (And.intro rfl (And.intro rfl (And.intro rfl trivial)))))) ?_
  refine gb_iconst (v := (2 : Int32)) dX4_lead_0 (by decide) ?_
  refine gb_iload_n dX4_lead_1 rfl rfl ?_
  refine gb_imul dX4_lead_2 ?_
  refine gb_aload_n dX4_lead_3 rfl rfl ?_
  obtain ⟨g1, hF⟩ := gb_gdE hF
  obtain ⟨a2, ea2, hF⟩ := gb_rdE hF
  refine gb_getR fX4_9 dX4_lead_4 (gb_kE g1) ea2 ?_
  refine gb_iload_n dX4_lead_7 rfl rfl ?_
  obtain ⟨g3, hF⟩ := gb_gdE hF
  obtain ⟨g4, hF⟩ := gb_gdE hF
  refine gb_iald dX4_lead_8 (gb_kE g3) (gb_inE g4) ?_
  refine gb_iadd dX4_lead_9 ?_
  obtain ⟨x5, ex5, hF⟩ := gb_ltE hF
  refine gb_topI ex5 ?_
  refine gb_istore (L' := [some (.ref p0), some (.int p1), some (.int p2), some (.int p3), some (.int p4), some (.int p5), some (.int x5)]) dX4_lead_10 (by decide) rfl rfl ?_
  refine gb_aload_n dX4_lead_12 rfl rfl ?_
  obtain ⟨g6, hF⟩ := gb_gdE hF
  obtain ⟨a7, ea7, hF⟩ := gb_rdE hF
  refine gb_getR fX4_9 dX4_lead_13 (gb_kE g6) ea7 ?_
  refine gb_iload_n dX4_lead_16 rfl rfl ?_
  refine gb_dup2 dX4_lead_17 rfl rfl ?_
  obtain ⟨g8, hF⟩ := gb_gdE hF
  obtain ⟨g9, hF⟩ := gb_gdE hF
  refine gb_iald dX4_lead_18 (gb_kE g8) (gb_inE g9) ?_
  refine gb_iconst (v := (1 : Int32)) dX4_lead_19 (by decide) ?_
  refine gb_iadd dX4_lead_20 ?_
  obtain ⟨g10, hF⟩ := gb_gdE hF
  obtain ⟨g11, hF⟩ := gb_gdE hF
  obtain ⟨h12, eh12, hF⟩ := gb_ltE hF
  refine gb_iast dX4_lead_21 (gb_kE g10) (gb_inE g11) (gb_hp eh12 ?_)
  refine gb_aload_n dX4_lead_22 rfl rfl ?_
  obtain ⟨g13, hF⟩ := gb_gdE hF
  obtain ⟨a14, ea14, hF⟩ := gb_rdE hF
  refine gb_getR fX4_15 dX4_lead_23 (gb_kE g13) ea14 ?_
  refine gb_iload dX4_lead_26 rfl ?_
  refine gb_iload_n dX4_lead_28 rfl rfl ?_
  obtain ⟨g15, hF⟩ := gb_gdE hF
  obtain ⟨g16, hF⟩ := gb_gdE hF
  obtain ⟨h17, eh17, hF⟩ := gb_ltE hF
  refine gb_iast dX4_lead_29 (gb_kE g15) (gb_inE g16) (gb_hp eh17 ?_)
  refine gb_aload_n dX4_lead_30 rfl rfl ?_
  obtain ⟨g18, hF⟩ := gb_gdE hF
  obtain ⟨a19, ea19, hF⟩ := gb_rdE hF
  refine gb_getR fX4_18 dX4_lead_31 (gb_kE g18) ea19 ?_
  refine gb_iload dX4_lead_34 rfl ?_
  refine gb_iload_n dX4_lead_36 rfl rfl ?_
  obtain ⟨g20, hF⟩ := gb_gdE hF
  obtain ⟨g21, hF⟩ := gb_gdE hF
  obtain ⟨h22, eh22, hF⟩ := gb_ltE hF
  refine gb_iast dX4_lead_37 (gb_kE g20) (gb_inE g21) (gb_hp eh22 ?_)
  refine gb_aload_n dX4_lead_38 rfl rfl ?_
  obtain ⟨g23, hF⟩ := gb_gdE hF
  obtain ⟨a24, ea24, hF⟩ := gb_rdE hF
  refine gb_getR fX4_21 dX4_lead_39 (gb_kE g23) ea24 ?_
  refine gb_iload dX4_lead_42 rfl ?_
  refine gb_iload dX4_lead_44 rfl ?_
  obtain ⟨g25, hF⟩ := gb_gdE hF
  obtain ⟨g26, hF⟩ := gb_gdE hF
  obtain ⟨h27, eh27, hF⟩ := gb_ltE hF
  refine gb_iast dX4_lead_46 (gb_kE g25) (gb_inE g26) (gb_hp eh27 ?_)
  refine gb_aload_n dX4_lead_47 rfl rfl ?_
  obtain ⟨g28, hF⟩ := gb_gdE hF
  obtain ⟨a29, ea29, hF⟩ := gb_rdE hF
  refine gb_getR fX4_24 dX4_lead_48 (gb_kE g28) ea29 ?_
  refine gb_iload dX4_lead_51 rfl ?_
  refine gb_iload dX4_lead_53 rfl ?_
  obtain ⟨g30, hF⟩ := gb_gdE hF
  obtain ⟨g31, hF⟩ := gb_gdE hF
  obtain ⟨h32, eh32, hF⟩ := gb_ltE hF
  refine gb_iast dX4_lead_55 (gb_kE g30) (gb_inE g31) (gb_hp eh32 ?_)
  cases hF
  exact gb_vret dX4_lead_56 rfl
def fnX4_seatOf (p0 : Int32) (p1 : Int32) (h : gb_H) : Option (Int32 × gb_H) :=
  some ((((2 : Int32) * p0) + p1) + (1 : Int32), h)
theorem fnX4_seatOf_ok {X : gb_X}  {p0 : Int32} {p1 : Int32} (h : gb_H) (r : Int32 × gb_H) (hF : fnX4_seatOf p0 p1 h = some r) : gb_Ev X 1 mX4_seatOf 0 (gb_L0 [.int p0, .int p1]) [] h (gb_wI r) := by
  unfold fnX4_seatOf at hF
  refine gb_weak (L' := [some (.int p0), some (.int p1)]) (And.intro rfl (And.intro rfl trivial)) ?_
  refine gb_iconst (v := (2 : Int32)) dX4_seatOf_0 (by decide) ?_
  refine gb_iload_n dX4_seatOf_1 rfl rfl ?_
  refine gb_imul dX4_seatOf_2 ?_
  refine gb_iload_n dX4_seatOf_3 rfl rfl ?_
  refine gb_iadd dX4_seatOf_4 ?_
  refine gb_iconst (v := (1 : Int32)) dX4_seatOf_5 (by decide) ?_
  refine gb_iadd dX4_seatOf_6 ?_
  cases hF
  exact gb_iret dX4_seatOf_7 rfl
def fbX5_stays_23 (s0 : Int32) (h : gb_H) : Option (Int32 × gb_H) :=
  some (s0, h)
theorem fbX5_stays_23_ok {X : gb_X} (s0 : Int32) (h : gb_H) (r : Int32 × gb_H) (hF : fbX5_stays_23 s0 h = some r) : gb_Ev X 1 mX5_stays 23 [none] [.int s0] h (gb_wI r) := by
  unfold fbX5_stays_23 at hF
  cases hF
  exact gb_iret dX5_stays_23 rfl
def fnX5_stays (p0 : Nat) (h : gb_H) : Option (Int32 × gb_H) :=
  gb_gd (gb_k h p0 5) <|
  if (gb_I h p0 3) = (1 : Int32) then
    some ((3 : Int32), h)
  else
    gb_gd (gb_k h p0 5) <|
    if (gb_I h p0 3) = (2 : Int32) then
      fbX5_stays_23 (4 : Int32) h
    else
      fbX5_stays_23 (1 : Int32) h
theorem fnX5_stays_ok {X : gb_X}  {p0 : Nat} (h : gb_H) (r : Int32 × gb_H) (hF : fnX5_stays p0 h = some r) : gb_Ev X 1 mX5_stays 0 (gb_L0 [.ref p0]) [] h (gb_wI r) := by
  unfold fnX5_stays at hF
  refine gb_weak (L' := [some (.ref p0)]) (And.intro rfl trivial) ?_
  refine gb_aload_n dX5_stays_0 rfl rfl ?_
  obtain ⟨g1, hF⟩ := gb_gdE hF
  refine gb_getI fX5_21 dX5_stays_1 (gb_kE g1) ?_
  refine gb_iconst (v := (1 : Int32)) dX5_stays_4 (by decide) ?_
  refine gb_icmp_ne (tgt := 10) dX5_stays_5 (by decide) (fun c2 => ?_) (fun c2 => ?_)
  · replace hF := gb_ifF c2 hF
    refine gb_aload_n dX5_stays_10 rfl rfl ?_
    obtain ⟨g3, hF⟩ := gb_gdE hF
    refine gb_getI fX5_21 dX5_stays_11 (gb_kE g3) ?_
    refine gb_iconst (v := (2 : Int32)) dX5_stays_14 (by decide) ?_
    refine gb_icmp_ne (tgt := 22) dX5_stays_15 (by decide) (fun c4 => ?_) (fun c4 => ?_)
    · replace hF := gb_ifF c4 hF
      refine gb_iconst (v := (1 : Int32)) dX5_stays_22 (by decide) ?_
      exact gb_wk (fbX5_stays_23_ok (1 : Int32) h r hF) trivial
    · replace hF := gb_ifT c4 hF
      refine gb_iconst (v := (4 : Int32)) dX5_stays_18 (by decide) ?_
      refine gb_goto (tgt := 23) dX5_stays_19 (by decide) ?_
      exact gb_wk (fbX5_stays_23_ok (4 : Int32) h r hF) trivial
  · replace hF := gb_ifT c2 hF
    refine gb_iconst (v := (3 : Int32)) dX5_stays_8 (by decide) ?_
    cases hF
    exact gb_iret dX5_stays_9 rfl
def fbX5_roots_13 (s0 : Int32) (h : gb_H) : Option (Int32 × gb_H) :=
  some (s0, h)
theorem fbX5_roots_13_ok {X : gb_X} (s0 : Int32) (h : gb_H) (r : Int32 × gb_H) (hF : fbX5_roots_13 s0 h = some r) : gb_Ev X 1 mX5_roots 13 [none] [.int s0] h (gb_wI r) := by
  unfold fbX5_roots_13 at hF
  cases hF
  exact gb_iret dX5_roots_13 rfl
def fnX5_roots (p0 : Nat) (h : gb_H) : Option (Int32 × gb_H) :=
  gb_gd (gb_k h p0 5) <|
  if (gb_I h p0 3) = (3 : Int32) then
    fbX5_roots_13 (1 : Int32) h
  else
    fbX5_roots_13 (0 : Int32) h
theorem fnX5_roots_ok {X : gb_X}  {p0 : Nat} (h : gb_H) (r : Int32 × gb_H) (hF : fnX5_roots p0 h = some r) : gb_Ev X 1 mX5_roots 0 (gb_L0 [.ref p0]) [] h (gb_wI r) := by
  unfold fnX5_roots at hF
  refine gb_weak (L' := [some (.ref p0)]) (And.intro rfl trivial) ?_
  refine gb_aload_n dX5_roots_0 rfl rfl ?_
  obtain ⟨g1, hF⟩ := gb_gdE hF
  refine gb_getI fX5_21 dX5_roots_1 (gb_kE g1) ?_
  refine gb_iconst (v := (3 : Int32)) dX5_roots_4 (by decide) ?_
  refine gb_icmp_ne (tgt := 12) dX5_roots_5 (by decide) (fun c2 => ?_) (fun c2 => ?_)
  · replace hF := gb_ifF c2 hF
    refine gb_iconst (v := (0 : Int32)) dX5_roots_12 (by decide) ?_
    exact gb_wk (fbX5_roots_13_ok (0 : Int32) h r hF) trivial
  · replace hF := gb_ifT c2 hF
    refine gb_iconst (v := (1 : Int32)) dX5_roots_8 (by decide) ?_
    refine gb_goto (tgt := 13) dX5_roots_9 (by decide) ?_
    exact gb_wk (fbX5_roots_13_ok (1 : Int32) h r hF) trivial
def fbX5_goes_23 (s0 : Int32) (h : gb_H) : Option (Int32 × gb_H) :=
  some (s0, h)
theorem fbX5_goes_23_ok {X : gb_X} (s0 : Int32) (h : gb_H) (r : Int32 × gb_H) (hF : fbX5_goes_23 s0 h = some r) : gb_Ev X 1 mX5_goes 23 [none] [.int s0] h (gb_wI r) := by
  unfold fbX5_goes_23 at hF
  cases hF
  exact gb_iret dX5_goes_23 rfl
def fnX5_goes (p0 : Nat) (h : gb_H) : Option (Int32 × gb_H) :=
  gb_gd (gb_k h p0 5) <|
  if (gb_I h p0 3) = (1 : Int32) then
    some ((4 : Int32), h)
  else
    gb_gd (gb_k h p0 5) <|
    if (gb_I h p0 3) = (2 : Int32) then
      fbX5_goes_23 (3 : Int32) h
    else
      fbX5_goes_23 (1 : Int32) h
theorem fnX5_goes_ok {X : gb_X}  {p0 : Nat} (h : gb_H) (r : Int32 × gb_H) (hF : fnX5_goes p0 h = some r) : gb_Ev X 1 mX5_goes 0 (gb_L0 [.ref p0]) [] h (gb_wI r) := by
  unfold fnX5_goes at hF
  refine gb_weak (L' := [some (.ref p0)]) (And.intro rfl trivial) ?_
  refine gb_aload_n dX5_goes_0 rfl rfl ?_
  obtain ⟨g1, hF⟩ := gb_gdE hF
  refine gb_getI fX5_21 dX5_goes_1 (gb_kE g1) ?_
  refine gb_iconst (v := (1 : Int32)) dX5_goes_4 (by decide) ?_
  refine gb_icmp_ne (tgt := 10) dX5_goes_5 (by decide) (fun c2 => ?_) (fun c2 => ?_)
  · replace hF := gb_ifF c2 hF
    refine gb_aload_n dX5_goes_10 rfl rfl ?_
    obtain ⟨g3, hF⟩ := gb_gdE hF
    refine gb_getI fX5_21 dX5_goes_11 (gb_kE g3) ?_
    refine gb_iconst (v := (2 : Int32)) dX5_goes_14 (by decide) ?_
    refine gb_icmp_ne (tgt := 22) dX5_goes_15 (by decide) (fun c4 => ?_) (fun c4 => ?_)
    · replace hF := gb_ifF c4 hF
      refine gb_iconst (v := (1 : Int32)) dX5_goes_22 (by decide) ?_
      exact gb_wk (fbX5_goes_23_ok (1 : Int32) h r hF) trivial
    · replace hF := gb_ifT c4 hF
      refine gb_iconst (v := (3 : Int32)) dX5_goes_18 (by decide) ?_
      refine gb_goto (tgt := 23) dX5_goes_19 (by decide) ?_
      exact gb_wk (fbX5_goes_23_ok (3 : Int32) h r hF) trivial
  · replace hF := gb_ifT c2 hF
    refine gb_iconst (v := (4 : Int32)) dX5_goes_8 (by decide) ?_
    cases hF
    exact gb_iret dX5_goes_9 rfl
def fnX4_fork (p0 : Nat) (p1 : Nat) (p2 : Int32) (p3 : Int32) (p4 : Int32) (h : gb_H) : Option (Unit × gb_H) :=
  gb_gd (gb_k h p0 4) <|
  gb_rd (gb_R h p0 0) fun a2 =>
  gb_gd (gb_k h a2 20) <|
  gb_gd (gb_in h a2 p2) <|
  gb_lt (gb_sI h a2 p2.toNatClampNeg (0 : Int32)) fun h5 =>
  gb_gd (gb_k h5 p1 5) <|
  gb_bd (fnX5_stays p1 h5) fun x7 h8 =>
  gb_gd (gb_k h8 p1 5) <|
  gb_bd (fnX5_roots p1 h8) fun x10 h11 =>
  gb_gd (gb_k h11 p0 4) <|
  gb_bd (fnX4_lead p0 p2 p2 x7 x10 (0 : Int32) h11) fun _ h14 =>
  gb_gd (gb_k h14 p1 5) <|
  gb_bd (fnX5_goes p1 h14) fun x16 h17 =>
  gb_gd (gb_k h17 p1 5) <|
  gb_bd (fnX5_roots p1 h17) fun x19 h20 =>
  gb_gd (gb_k h20 p0 4) <|
  gb_bd (fnX4_lead p0 p2 p3 x16 x19 p4 h20) fun _ h23 =>
  some ((), h23)
theorem fnX4_fork_ok {X : gb_X}  {p0 : Nat} {p1 : Nat} {p2 : Int32} {p3 : Int32} {p4 : Int32} (h : gb_H) (r : Unit × gb_H) (hF : fnX4_fork p0 p1 p2 p3 p4 h = some r) : gb_Ev X 2 mX4_fork 0 (gb_L0 [.ref p0, .ref p1, .int p2, .int p3, .int p4]) [] h (gb_wV r) := by
  unfold fnX4_fork at hF
  refine gb_weak (L' := [some (.ref p0), some (.ref p1), some (.int p2), some (.int p3), some (.int p4)]) (And.intro rfl (And.intro rfl (And.intro rfl (And.intro rfl (And.intro rfl trivial))))) ?_
  refine gb_aload_n dX4_fork_0 rfl rfl ?_
  obtain ⟨g1, hF⟩ := gb_gdE hF
  obtain ⟨a2, ea2, hF⟩ := gb_rdE hF
  refine gb_getR fX4_9 dX4_fork_1 (gb_kE g1) ea2 ?_
  refine gb_iload_n dX4_fork_4 rfl rfl ?_
  refine gb_iconst (v := (0 : Int32)) dX4_fork_5 (by decide) ?_
  obtain ⟨g3, hF⟩ := gb_gdE hF
  obtain ⟨g4, hF⟩ := gb_gdE hF
  obtain ⟨h5, eh5, hF⟩ := gb_ltE hF
  refine gb_iast dX4_fork_6 (gb_kE g3) (gb_inE g4) (gb_hp eh5 ?_)
  refine gb_aload_n dX4_fork_7 rfl rfl ?_
  refine gb_iload_n dX4_fork_8 rfl rfl ?_
  refine gb_iload_n dX4_fork_9 rfl rfl ?_
  refine gb_aload_n dX4_fork_10 rfl rfl ?_
  obtain ⟨g6, hF⟩ := gb_gdE hF
  obtain ⟨x7, h8, cx7, hF⟩ := gb_bdE hF
  refine gb_cV (As := []) (S := [.int p2, .int p2, .ref p0]) (v := some (.int x7)) (h1 := h8) (S2 := [.int x7, .int p2, .int p2, .ref p0]) cf5 dX4_fork_11 mtX5_stays lX4_68 inX5_stays seX5_stays (gb_kE g6) (fnX5_stays_ok _ _ cx7) (by decide) rfl (Nat.le_of_ble_eq_true rfl) (Nat.le_of_ble_eq_true rfl) rfl rfl ?_
  refine gb_aload_n dX4_fork_14 rfl rfl ?_
  obtain ⟨g9, hF⟩ := gb_gdE hF
  obtain ⟨x10, h11, cx10, hF⟩ := gb_bdE hF
  refine gb_cV (As := []) (S := [.int x7, .int p2, .int p2, .ref p0]) (v := some (.int x10)) (h1 := h11) (S2 := [.int x10, .int x7, .int p2, .int p2, .ref p0]) cf5 dX4_fork_15 mtX5_roots lX4_71 inX5_roots seX5_roots (gb_kE g9) (fnX5_roots_ok _ _ cx10) (by decide) rfl (Nat.le_of_ble_eq_true rfl) (Nat.le_of_ble_eq_true rfl) rfl rfl ?_
  refine gb_iconst (v := (0 : Int32)) dX4_fork_18 (by decide) ?_
  obtain ⟨g12, hF⟩ := gb_gdE hF
  obtain ⟨x13, h14, cx13, hF⟩ := gb_bdE hF
  refine gb_cV (As := [.int p2, .int p2, .int x7, .int x10, .int (0 : Int32)]) (S := []) (v := none) (h1 := h14) (S2 := []) cf4 dX4_fork_19 mtX4_lead lX4_33 inX4_lead seX4_lead (gb_kE g12) (fnX4_lead_ok _ _ cx13) (by decide) rfl (Nat.le_of_ble_eq_true rfl) (Nat.le_of_ble_eq_true rfl) rfl rfl ?_
  refine gb_aload_n dX4_fork_22 rfl rfl ?_
  refine gb_iload_n dX4_fork_23 rfl rfl ?_
  refine gb_iload_n dX4_fork_24 rfl rfl ?_
  refine gb_aload_n dX4_fork_25 rfl rfl ?_
  obtain ⟨g15, hF⟩ := gb_gdE hF
  obtain ⟨x16, h17, cx16, hF⟩ := gb_bdE hF
  refine gb_cV (As := []) (S := [.int p3, .int p2, .ref p0]) (v := some (.int x16)) (h1 := h17) (S2 := [.int x16, .int p3, .int p2, .ref p0]) cf5 dX4_fork_26 mtX5_goes lX4_73 inX5_goes seX5_goes (gb_kE g15) (fnX5_goes_ok _ _ cx16) (by decide) rfl (Nat.le_of_ble_eq_true rfl) (Nat.le_of_ble_eq_true rfl) rfl rfl ?_
  refine gb_aload_n dX4_fork_29 rfl rfl ?_
  obtain ⟨g18, hF⟩ := gb_gdE hF
  obtain ⟨x19, h20, cx19, hF⟩ := gb_bdE hF
  refine gb_cV (As := []) (S := [.int x16, .int p3, .int p2, .ref p0]) (v := some (.int x19)) (h1 := h20) (S2 := [.int x19, .int x16, .int p3, .int p2, .ref p0]) cf5 dX4_fork_30 mtX5_roots lX4_71 inX5_roots seX5_roots (gb_kE g18) (fnX5_roots_ok _ _ cx19) (by decide) rfl (Nat.le_of_ble_eq_true rfl) (Nat.le_of_ble_eq_true rfl) rfl rfl ?_
  refine gb_iload dX4_fork_33 rfl ?_
  obtain ⟨g21, hF⟩ := gb_gdE hF
  obtain ⟨x22, h23, cx22, hF⟩ := gb_bdE hF
  refine gb_cV (As := [.int p2, .int p3, .int x16, .int x19, .int p4]) (S := []) (v := none) (h1 := h23) (S2 := []) cf4 dX4_fork_35 mtX4_lead lX4_33 inX4_lead seX4_lead (gb_kE g21) (fnX4_lead_ok _ _ cx22) (by decide) rfl (Nat.le_of_ble_eq_true rfl) (Nat.le_of_ble_eq_true rfl) rfl rfl ?_
  cases hF
  exact gb_vret dX4_fork_38 rfl
def fnX4_bend (p0 : Nat) (p1 : Int32) (p2 : Int32) (p3 : Int32) (h : gb_H) : Option (Unit × gb_H) :=
  gb_gd (gb_k h p0 4) <|
  gb_rd (gb_R h p0 0) fun a2 =>
  gb_gd (gb_k h a2 20) <|
  gb_gd (gb_in h a2 p1) <|
  gb_lt (gb_sI h a2 p1.toNatClampNeg (0 : Int32)) fun h5 =>
  gb_gd (gb_k h5 p0 4) <|
  gb_bd (fnX4_lead p0 p1 p2 (1 : Int32) (0 : Int32) p3 h5) fun _ h8 =>
  some ((), h8)
theorem fnX4_bend_ok {X : gb_X}  {p0 : Nat} {p1 : Int32} {p2 : Int32} {p3 : Int32} (h : gb_H) (r : Unit × gb_H) (hF : fnX4_bend p0 p1 p2 p3 h = some r) : gb_Ev X 2 mX4_bend 0 (gb_L0 [.ref p0, .int p1, .int p2, .int p3]) [] h (gb_wV r) := by
  unfold fnX4_bend at hF
  refine gb_weak (L' := [some (.ref p0), some (.int p1), some (.int p2), some (.int p3)]) (And.intro rfl (And.intro rfl (And.intro rfl (And.intro rfl trivial)))) ?_
  refine gb_aload_n dX4_bend_0 rfl rfl ?_
  obtain ⟨g1, hF⟩ := gb_gdE hF
  obtain ⟨a2, ea2, hF⟩ := gb_rdE hF
  refine gb_getR fX4_9 dX4_bend_1 (gb_kE g1) ea2 ?_
  refine gb_iload_n dX4_bend_4 rfl rfl ?_
  refine gb_iconst (v := (0 : Int32)) dX4_bend_5 (by decide) ?_
  obtain ⟨g3, hF⟩ := gb_gdE hF
  obtain ⟨g4, hF⟩ := gb_gdE hF
  obtain ⟨h5, eh5, hF⟩ := gb_ltE hF
  refine gb_iast dX4_bend_6 (gb_kE g3) (gb_inE g4) (gb_hp eh5 ?_)
  refine gb_aload_n dX4_bend_7 rfl rfl ?_
  refine gb_iload_n dX4_bend_8 rfl rfl ?_
  refine gb_iload_n dX4_bend_9 rfl rfl ?_
  refine gb_iconst (v := (1 : Int32)) dX4_bend_10 (by decide) ?_
  refine gb_iconst (v := (0 : Int32)) dX4_bend_11 (by decide) ?_
  refine gb_iload_n dX4_bend_12 rfl rfl ?_
  obtain ⟨g6, hF⟩ := gb_gdE hF
  obtain ⟨x7, h8, cx7, hF⟩ := gb_bdE hF
  refine gb_cV (As := [.int p1, .int p2, .int (1 : Int32), .int (0 : Int32), .int p3]) (S := []) (v := none) (h1 := h8) (S2 := []) cf4 dX4_bend_13 mtX4_lead lX4_33 inX4_lead seX4_lead (gb_kE g6) (fnX4_lead_ok _ _ cx7) (by decide) rfl (Nat.le_of_ble_eq_true rfl) (Nat.le_of_ble_eq_true rfl) rfl rfl ?_
  cases hF
  exact gb_vret dX4_bend_16 rfl
def fbX4_aim_30 (k2 : Nat → Nat → Int32 → gb_H → Option (Unit × gb_H)) (v0 : Nat) (v1 : Nat) (v2 : Int32) (s0 : Nat) (s1 : Int32) (s2 : Int32) (s3 : Int32) (h : gb_H) : Option (Unit × gb_H) :=
  gb_gd (gb_k h s0 4) <|
  gb_bd (fnX4_lead s0 s1 s2 s3 (0 : Int32) (0 : Int32) h) fun _ h3 =>
  gb_lt (v2 + (1 : Int32)) fun x4 =>
  k2 v0 v1 x4 h3
theorem fbX4_aim_30_ok {X : gb_X} {k2 : Nat → Nat → Int32 → gb_H → Option (Unit × gb_H)} (hk2 : ∀ v0 v1 v2 h r, k2 v0 v1 v2 h = some r → gb_Ev X 3 mX4_aim 2 [some (.ref v0), some (.ref v1), some (.int v2), none, none] [] h (gb_wV r)) (v0 : Nat) (v1 : Nat) (v2 : Int32) (s0 : Nat) (s1 : Int32) (s2 : Int32) (s3 : Int32) (h : gb_H) (r : Unit × gb_H) (hF : fbX4_aim_30 k2 v0 v1 v2 s0 s1 s2 s3 h = some r) : gb_Ev X 3 mX4_aim 30 [some (.ref v0), some (.ref v1), some (.int v2), none, none] [.int s3, .int s2, .int s1, .ref s0] h (gb_wV r) := by
  unfold fbX4_aim_30 at hF
  refine gb_iconst (v := (0 : Int32)) dX4_aim_30 (by decide) ?_
  refine gb_iconst (v := (0 : Int32)) dX4_aim_31 (by decide) ?_
  obtain ⟨g1, hF⟩ := gb_gdE hF
  obtain ⟨x2, h3, cx2, hF⟩ := gb_bdE hF
  refine gb_cV (As := [.int s1, .int s2, .int s3, .int (0 : Int32), .int (0 : Int32)]) (S := []) (v := none) (h1 := h3) (S2 := []) cf4 dX4_aim_32 mtX4_lead lX4_33 inX4_lead seX4_lead (gb_kE g1) (fnX4_lead_ok _ _ cx2) (by decide) rfl (Nat.le_of_ble_eq_true rfl) (Nat.le_of_ble_eq_true rfl) rfl rfl ?_
  obtain ⟨x4, ex4, hF⟩ := gb_ltE hF
  refine gb_iinc (v := x4) (L' := [some (.ref v0), some (.ref v1), some (.int x4), none, none]) dX4_aim_35 rfl (by rw [ex4]; rfl) (by decide) rfl rfl ?_
  refine gb_goto (tgt := 2) dX4_aim_38 (by decide) ?_
  exact gb_wk (hk2 v0 v1 x4 h3 r hF) (And.intro rfl (And.intro rfl (And.intro rfl trivial)))
def fbX4_aim_219 (k43 : Nat → Nat → Int32 → gb_H → Option (Unit × gb_H)) (v0 : Nat) (v1 : Nat) (v2 : Int32) (h : gb_H) : Option (Unit × gb_H) :=
  gb_lt (v2 + (1 : Int32)) fun x1 =>
  k43 v0 v1 x1 h
theorem fbX4_aim_219_ok {X : gb_X} {k43 : Nat → Nat → Int32 → gb_H → Option (Unit × gb_H)} (hk43 : ∀ v0 v1 v2 h r, k43 v0 v1 v2 h = some r → gb_Ev X 3 mX4_aim 43 [some (.ref v0), some (.ref v1), some (.int v2), none, none] [] h (gb_wV r)) (v0 : Nat) (v1 : Nat) (v2 : Int32) (h : gb_H) (r : Unit × gb_H) (hF : fbX4_aim_219 k43 v0 v1 v2 h = some r) : gb_Ev X 3 mX4_aim 219 [some (.ref v0), some (.ref v1), some (.int v2), none, none] [] h (gb_wV r) := by
  unfold fbX4_aim_219 at hF
  obtain ⟨x1, ex1, hF⟩ := gb_ltE hF
  refine gb_iinc (v := x1) (L' := [some (.ref v0), some (.ref v1), some (.int x1), none, none]) dX4_aim_219 rfl (by rw [ex1]; rfl) (by decide) rfl rfl ?_
  refine gb_goto (tgt := 43) dX4_aim_222 (by decide) ?_
  exact gb_wk (hk43 v0 v1 x1 h r hF) (And.intro rfl (And.intro rfl (And.intro rfl trivial)))
def fbX4_aim_174 (k43 : Nat → Nat → Int32 → gb_H → Option (Unit × gb_H)) (v0 : Nat) (v1 : Nat) (v2 : Int32) (s0 : Nat) (s1 : Int32) (s2 : Int32) (s3 : Int32) (h : gb_H) : Option (Unit × gb_H) :=
  gb_gd (gb_k h s0 4) <|
  gb_bd (fnX4_bend s0 s1 s2 s3 h) fun _ h3 =>
  fbX4_aim_219 k43 v0 v1 v2 h3
theorem fbX4_aim_174_ok {X : gb_X} {k43 : Nat → Nat → Int32 → gb_H → Option (Unit × gb_H)} (hk43 : ∀ v0 v1 v2 h r, k43 v0 v1 v2 h = some r → gb_Ev X 3 mX4_aim 43 [some (.ref v0), some (.ref v1), some (.int v2), none, none] [] h (gb_wV r)) (v0 : Nat) (v1 : Nat) (v2 : Int32) (s0 : Nat) (s1 : Int32) (s2 : Int32) (s3 : Int32) (h : gb_H) (r : Unit × gb_H) (hF : fbX4_aim_174 k43 v0 v1 v2 s0 s1 s2 s3 h = some r) : gb_Ev X 3 mX4_aim 174 [some (.ref v0), some (.ref v1), some (.int v2), none, none] [.int s3, .int s2, .int s1, .ref s0] h (gb_wV r) := by
  unfold fbX4_aim_174 at hF
  obtain ⟨g1, hF⟩ := gb_gdE hF
  obtain ⟨x2, h3, cx2, hF⟩ := gb_bdE hF
  refine gb_cV (As := [.int s1, .int s2, .int s3]) (S := []) (v := none) (h1 := h3) (S2 := []) cf4 dX4_aim_174 mtX4_bend lX4_61 inX4_bend seX4_bend (gb_kE g1) (fnX4_bend_ok _ _ cx2) (by decide) rfl (Nat.le_of_ble_eq_true rfl) (Nat.le_of_ble_eq_true rfl) rfl rfl ?_
  refine gb_goto (tgt := 219) dX4_aim_177 (by decide) ?_
  exact gb_wk (fbX4_aim_219_ok hk43 v0 v1 v2 h3 r hF) (And.intro rfl (And.intro rfl (And.intro rfl trivial)))
def fbX4_aim_166 (k43 : Nat → Nat → Int32 → gb_H → Option (Unit × gb_H)) (v0 : Nat) (v1 : Nat) (v2 : Int32) (s0 : Nat) (s1 : Int32) (s2 : Int32) (h : gb_H) : Option (Unit × gb_H) :=
  gb_gd (gb_k h v1 5) <|
  fbX4_aim_174 k43 v0 v1 v2 s0 s1 s2 (gb_I h v1 5) h
theorem fbX4_aim_166_ok {X : gb_X} {k43 : Nat → Nat → Int32 → gb_H → Option (Unit × gb_H)} (hk43 : ∀ v0 v1 v2 h r, k43 v0 v1 v2 h = some r → gb_Ev X 3 mX4_aim 43 [some (.ref v0), some (.ref v1), some (.int v2), none, none] [] h (gb_wV r)) (v0 : Nat) (v1 : Nat) (v2 : Int32) (s0 : Nat) (s1 : Int32) (s2 : Int32) (h : gb_H) (r : Unit × gb_H) (hF : fbX4_aim_166 k43 v0 v1 v2 s0 s1 s2 h = some r) : gb_Ev X 3 mX4_aim 166 [some (.ref v0), some (.ref v1), some (.int v2), none, none] [.int s2, .int s1, .ref s0] h (gb_wV r) := by
  unfold fbX4_aim_166 at hF
  refine gb_aload_n dX4_aim_166 rfl rfl ?_
  obtain ⟨g1, hF⟩ := gb_gdE hF
  refine gb_getI fX4_58 dX4_aim_167 (gb_kE g1) ?_
  refine gb_goto (tgt := 174) dX4_aim_170 (by decide) ?_
  exact gb_wk (fbX4_aim_174_ok hk43 v0 v1 v2 s0 s1 s2 (gb_I h v1 5) h r hF) (And.intro rfl (And.intro rfl (And.intro rfl trivial)))
def fbX4_aim_43 (k43 : Nat → Nat → Int32 → gb_H → Option (Unit × gb_H)) (v0 : Nat) (v1 : Nat) (v2 : Int32) (h : gb_H) : Option (Unit × gb_H) :=
  if (2 : Int32) ≤ v2 then
    some ((), h)
  else
    gb_gd (gb_k h v1 5) <|
    gb_bd (fnX4_seatOf (gb_I h v1 1) v2 h) fun x3 h4 =>
    gb_gd (gb_k h4 v1 5) <|
    gb_bd (fnX4_seatOf (gb_I h4 v1 2) v2 h4) fun x6 h7 =>
    gb_gd (gb_k h7 v1 5) <|
    gb_lt (gb_I h7 v1 0) fun x9 =>
    if x9 = 0 then
      gb_gd (gb_k h7 v0 4) <|
      gb_bd (fnX4_fork v0 v1 x3 x6 (1 : Int32) h7) fun _ h13 =>
      gb_gd (gb_k h13 v0 4) <|
      gb_bd (fnX4_fork v0 v1 x6 x3 (1 : Int32) h13) fun _ h16 =>
      fbX4_aim_219 k43 v0 v1 v2 h16
    else
      if x9 = 1 then
        gb_gd (gb_k h7 v1 5) <|
        gb_bd (fnX4_seatOf (gb_I h7 v1 1) ((1 : Int32) - v2) h7) fun x19 h20 =>
        gb_gd (gb_k h20 v0 4) <|
        gb_bd (fnX4_fork v0 v1 x3 x19 ((2 : Int32) * v2) h20) fun _ h23 =>
        fbX4_aim_219 k43 v0 v1 v2 h23
      else
        if x9 = 2 then
          gb_gd (gb_k h7 v1 5) <|
          if (gb_I h7 v1 4) = (-1 : Int32) then
            fbX4_aim_166 k43 v0 v1 v2 v0 x3 x3 h7
          else
            gb_gd (gb_k h7 v1 5) <|
            if (gb_I h7 v1 4) = v2 then
              fbX4_aim_166 k43 v0 v1 v2 v0 x3 x3 h7
            else
              fbX4_aim_174 k43 v0 v1 v2 v0 x3 x3 (0 : Int32) h7
        else
          if x9 = 3 then
            gb_gd (gb_k h7 v0 4) <|
            gb_bd (fnX4_bend v0 x3 x6 (0 : Int32) h7) fun _ h32 =>
            gb_gd (gb_k h32 v0 4) <|
            gb_bd (fnX4_bend v0 x6 x3 (0 : Int32) h32) fun _ h35 =>
            fbX4_aim_219 k43 v0 v1 v2 h35
          else
            if x9 = 4 then
              gb_gd (gb_k h7 v1 5) <|
              gb_bd (fnX4_seatOf ((5 : Int32) + (gb_I h7 v1 8)) v2 h7) fun x38 h39 =>
              gb_gd (gb_k h39 v0 4) <|
              gb_bd (fnX4_fork v0 v1 x3 x38 (1 : Int32) h39) fun _ h42 =>
              fbX4_aim_219 k43 v0 v1 v2 h42
            else
              fbX4_aim_219 k43 v0 v1 v2 h7
theorem fbX4_aim_43_ok {X : gb_X} {k43 : Nat → Nat → Int32 → gb_H → Option (Unit × gb_H)} (hk43 : ∀ v0 v1 v2 h r, k43 v0 v1 v2 h = some r → gb_Ev X 3 mX4_aim 43 [some (.ref v0), some (.ref v1), some (.int v2), none, none] [] h (gb_wV r)) (v0 : Nat) (v1 : Nat) (v2 : Int32) (h : gb_H) (r : Unit × gb_H) (hF : fbX4_aim_43 k43 v0 v1 v2 h = some r) : gb_Ev X 3 mX4_aim 43 [some (.ref v0), some (.ref v1), some (.int v2), none, none] [] h (gb_wV r) := by
  unfold fbX4_aim_43 at hF
  refine gb_iload_n dX4_aim_43 rfl rfl ?_
  refine gb_iconst (v := (2 : Int32)) dX4_aim_44 (by decide) ?_
  refine gb_icmp_ge (tgt := 225) dX4_aim_45 (by decide) (fun c1 => ?_) (fun c1 => ?_)
  · replace hF := gb_ifT c1 hF
    cases hF
    exact gb_vret dX4_aim_225 rfl
  · replace hF := gb_ifF c1 hF
    refine gb_aload_n dX4_aim_48 rfl rfl ?_
    obtain ⟨g2, hF⟩ := gb_gdE hF
    refine gb_getI fX4_37 dX4_aim_49 (gb_kE g2) ?_
    refine gb_iload_n dX4_aim_52 rfl rfl ?_
    obtain ⟨x3, h4, cx3, hF⟩ := gb_bdE hF
    refine gb_cS (As := [.int (gb_I h v1 1), .int v2]) (S := []) (v := some (.int x3)) (h1 := h4) (S2 := [.int x3]) dX4_aim_53 mtX4_seatOf lX4_41 stX4_seatOf (fnX4_seatOf_ok _ _ cx3) (by decide) rfl (Nat.le_of_ble_eq_true rfl) (Nat.le_of_ble_eq_true rfl) rfl rfl ?_
    refine gb_istore_n (L' := [some (.ref v0), some (.ref v1), some (.int v2), some (.int x3), none]) dX4_aim_56 rfl (by decide) rfl rfl ?_
    refine gb_aload_n dX4_aim_57 rfl rfl ?_
    obtain ⟨g5, hF⟩ := gb_gdE hF
    refine gb_getI fX4_45 dX4_aim_58 (gb_kE g5) ?_
    refine gb_iload_n dX4_aim_61 rfl rfl ?_
    obtain ⟨x6, h7, cx6, hF⟩ := gb_bdE hF
    refine gb_cS (As := [.int (gb_I h4 v1 2), .int v2]) (S := []) (v := some (.int x6)) (h1 := h7) (S2 := [.int x6]) dX4_aim_62 mtX4_seatOf lX4_41 stX4_seatOf (fnX4_seatOf_ok _ _ cx6) (by decide) rfl (Nat.le_of_ble_eq_true rfl) (Nat.le_of_ble_eq_true rfl) rfl rfl ?_
    refine gb_istore (L' := [some (.ref v0), some (.ref v1), some (.int v2), some (.int x3), some (.int x6)]) dX4_aim_65 (by decide) rfl rfl ?_
    refine gb_aload_n dX4_aim_67 rfl rfl ?_
    obtain ⟨g8, hF⟩ := gb_gdE hF
    refine gb_getI fX4_48 dX4_aim_68 (gb_kE g8) ?_
    obtain ⟨x9, ex9, hF⟩ := gb_ltE hF
    refine gb_topI ex9 ?_
    rcases Classical.em (x9 = 0) with c10 | c10
    · replace hF := gb_ifT c10 hF
      refine gb_tswIn (tgt := 104) (x := x9) dX4_aim_71 (by rw [c10]; decide) (by rw [c10]; decide) (by rw [c10]; rfl) (by decide) ?_
      refine gb_aload_n dX4_aim_104 rfl rfl ?_
      refine gb_aload_n dX4_aim_105 rfl rfl ?_
      refine gb_iload_n dX4_aim_106 rfl rfl ?_
      refine gb_iload dX4_aim_107 rfl ?_
      refine gb_iconst (v := (1 : Int32)) dX4_aim_109 (by decide) ?_
      obtain ⟨g11, hF⟩ := gb_gdE hF
      obtain ⟨x12, h13, cx12, hF⟩ := gb_bdE hF
      refine gb_cV (As := [.ref v1, .int x3, .int x6, .int (1 : Int32)]) (S := []) (v := none) (h1 := h13) (S2 := []) cf4 dX4_aim_110 mtX4_fork lX4_51 inX4_fork seX4_fork (gb_kE g11) (fnX4_fork_ok _ _ cx12) (by decide) rfl (Nat.le_of_ble_eq_true rfl) (Nat.le_of_ble_eq_true rfl) rfl rfl ?_
      refine gb_aload_n dX4_aim_113 rfl rfl ?_
      refine gb_aload_n dX4_aim_114 rfl rfl ?_
      refine gb_iload dX4_aim_115 rfl ?_
      refine gb_iload_n dX4_aim_117 rfl rfl ?_
      refine gb_iconst (v := (1 : Int32)) dX4_aim_118 (by decide) ?_
      obtain ⟨g14, hF⟩ := gb_gdE hF
      obtain ⟨x15, h16, cx15, hF⟩ := gb_bdE hF
      refine gb_cV (As := [.ref v1, .int x6, .int x3, .int (1 : Int32)]) (S := []) (v := none) (h1 := h16) (S2 := []) cf4 dX4_aim_119 mtX4_fork lX4_51 inX4_fork seX4_fork (gb_kE g14) (fnX4_fork_ok _ _ cx15) (by decide) rfl (Nat.le_of_ble_eq_true rfl) (Nat.le_of_ble_eq_true rfl) rfl rfl ?_
      refine gb_goto (tgt := 219) dX4_aim_122 (by decide) ?_
      exact gb_wk (fbX4_aim_219_ok hk43 v0 v1 v2 h16 r hF) (And.intro rfl (And.intro rfl (And.intro rfl trivial)))
    · replace hF := gb_ifF c10 hF
      rcases Classical.em (x9 = 1) with c17 | c17
      · replace hF := gb_ifT c17 hF
        refine gb_tswIn (tgt := 125) (x := x9) dX4_aim_71 (by rw [c17]; decide) (by rw [c17]; decide) (by rw [c17]; rfl) (by decide) ?_
        refine gb_aload_n dX4_aim_125 rfl rfl ?_
        refine gb_aload_n dX4_aim_126 rfl rfl ?_
        refine gb_iload_n dX4_aim_127 rfl rfl ?_
        refine gb_aload_n dX4_aim_128 rfl rfl ?_
        obtain ⟨g18, hF⟩ := gb_gdE hF
        refine gb_getI fX4_37 dX4_aim_129 (gb_kE g18) ?_
        refine gb_iconst (v := (1 : Int32)) dX4_aim_132 (by decide) ?_
        refine gb_iload_n dX4_aim_133 rfl rfl ?_
        refine gb_isub dX4_aim_134 ?_
        obtain ⟨x19, h20, cx19, hF⟩ := gb_bdE hF
        refine gb_cS (As := [.int (gb_I h7 v1 1), .int ((1 : Int32) - v2)]) (S := [.int x3, .ref v1, .ref v0]) (v := some (.int x19)) (h1 := h20) (S2 := [.int x19, .int x3, .ref v1, .ref v0]) dX4_aim_135 mtX4_seatOf lX4_41 stX4_seatOf (fnX4_seatOf_ok _ _ cx19) (by decide) rfl (Nat.le_of_ble_eq_true rfl) (Nat.le_of_ble_eq_true rfl) rfl rfl ?_
        refine gb_iconst (v := (2 : Int32)) dX4_aim_138 (by decide) ?_
        refine gb_iload_n dX4_aim_139 rfl rfl ?_
        refine gb_imul dX4_aim_140 ?_
        obtain ⟨g21, hF⟩ := gb_gdE hF
        obtain ⟨x22, h23, cx22, hF⟩ := gb_bdE hF
        refine gb_cV (As := [.ref v1, .int x3, .int x19, .int ((2 : Int32) * v2)]) (S := []) (v := none) (h1 := h23) (S2 := []) cf4 dX4_aim_141 mtX4_fork lX4_51 inX4_fork seX4_fork (gb_kE g21) (fnX4_fork_ok _ _ cx22) (by decide) rfl (Nat.le_of_ble_eq_true rfl) (Nat.le_of_ble_eq_true rfl) rfl rfl ?_
        refine gb_goto (tgt := 219) dX4_aim_144 (by decide) ?_
        exact gb_wk (fbX4_aim_219_ok hk43 v0 v1 v2 h23 r hF) (And.intro rfl (And.intro rfl (And.intro rfl trivial)))
      · replace hF := gb_ifF c17 hF
        rcases Classical.em (x9 = 2) with c24 | c24
        · replace hF := gb_ifT c24 hF
          refine gb_tswIn (tgt := 147) (x := x9) dX4_aim_71 (by rw [c24]; decide) (by rw [c24]; decide) (by rw [c24]; rfl) (by decide) ?_
          refine gb_aload_n dX4_aim_147 rfl rfl ?_
          refine gb_iload_n dX4_aim_148 rfl rfl ?_
          refine gb_iload_n dX4_aim_149 rfl rfl ?_
          refine gb_aload_n dX4_aim_150 rfl rfl ?_
          obtain ⟨g25, hF⟩ := gb_gdE hF
          refine gb_getI fX4_55 dX4_aim_151 (gb_kE g25) ?_
          refine gb_iconst (v := (-1 : Int32)) dX4_aim_154 (by decide) ?_
          refine gb_icmp_eq (tgt := 166) dX4_aim_155 (by decide) (fun c26 => ?_) (fun c26 => ?_)
          · replace hF := gb_ifT c26 hF
            exact gb_wk (fbX4_aim_166_ok hk43 v0 v1 v2 v0 x3 x3 h7 r hF) (And.intro rfl (And.intro rfl (And.intro rfl trivial)))
          · replace hF := gb_ifF c26 hF
            refine gb_aload_n dX4_aim_158 rfl rfl ?_
            obtain ⟨g27, hF⟩ := gb_gdE hF
            refine gb_getI fX4_55 dX4_aim_159 (gb_kE g27) ?_
            refine gb_iload_n dX4_aim_162 rfl rfl ?_
            refine gb_icmp_ne (tgt := 173) dX4_aim_163 (by decide) (fun c28 => ?_) (fun c28 => ?_)
            · replace hF := gb_ifF c28 hF
              refine gb_iconst (v := (0 : Int32)) dX4_aim_173 (by decide) ?_
              exact gb_wk (fbX4_aim_174_ok hk43 v0 v1 v2 v0 x3 x3 (0 : Int32) h7 r hF) (And.intro rfl (And.intro rfl (And.intro rfl trivial)))
            · replace hF := gb_ifT c28 hF
              exact gb_wk (fbX4_aim_166_ok hk43 v0 v1 v2 v0 x3 x3 h7 r hF) (And.intro rfl (And.intro rfl (And.intro rfl trivial)))
        · replace hF := gb_ifF c24 hF
          rcases Classical.em (x9 = 3) with c29 | c29
          · replace hF := gb_ifT c29 hF
            refine gb_tswIn (tgt := 180) (x := x9) dX4_aim_71 (by rw [c29]; decide) (by rw [c29]; decide) (by rw [c29]; rfl) (by decide) ?_
            refine gb_aload_n dX4_aim_180 rfl rfl ?_
            refine gb_iload_n dX4_aim_181 rfl rfl ?_
            refine gb_iload dX4_aim_182 rfl ?_
            refine gb_iconst (v := (0 : Int32)) dX4_aim_184 (by decide) ?_
            obtain ⟨g30, hF⟩ := gb_gdE hF
            obtain ⟨x31, h32, cx31, hF⟩ := gb_bdE hF
            refine gb_cV (As := [.int x3, .int x6, .int (0 : Int32)]) (S := []) (v := none) (h1 := h32) (S2 := []) cf4 dX4_aim_185 mtX4_bend lX4_61 inX4_bend seX4_bend (gb_kE g30) (fnX4_bend_ok _ _ cx31) (by decide) rfl (Nat.le_of_ble_eq_true rfl) (Nat.le_of_ble_eq_true rfl) rfl rfl ?_
            refine gb_aload_n dX4_aim_188 rfl rfl ?_
            refine gb_iload dX4_aim_189 rfl ?_
            refine gb_iload_n dX4_aim_191 rfl rfl ?_
            refine gb_iconst (v := (0 : Int32)) dX4_aim_192 (by decide) ?_
            obtain ⟨g33, hF⟩ := gb_gdE hF
            obtain ⟨x34, h35, cx34, hF⟩ := gb_bdE hF
            refine gb_cV (As := [.int x6, .int x3, .int (0 : Int32)]) (S := []) (v := none) (h1 := h35) (S2 := []) cf4 dX4_aim_193 mtX4_bend lX4_61 inX4_bend seX4_bend (gb_kE g33) (fnX4_bend_ok _ _ cx34) (by decide) rfl (Nat.le_of_ble_eq_true rfl) (Nat.le_of_ble_eq_true rfl) rfl rfl ?_
            refine gb_goto (tgt := 219) dX4_aim_196 (by decide) ?_
            exact gb_wk (fbX4_aim_219_ok hk43 v0 v1 v2 h35 r hF) (And.intro rfl (And.intro rfl (And.intro rfl trivial)))
          · replace hF := gb_ifF c29 hF
            rcases Classical.em (x9 = 4) with c36 | c36
            · replace hF := gb_ifT c36 hF
              refine gb_tswIn (tgt := 199) (x := x9) dX4_aim_71 (by rw [c36]; decide) (by rw [c36]; decide) (by rw [c36]; rfl) (by decide) ?_
              refine gb_aload_n dX4_aim_199 rfl rfl ?_
              refine gb_aload_n dX4_aim_200 rfl rfl ?_
              refine gb_iload_n dX4_aim_201 rfl rfl ?_
              refine gb_iconst (v := (5 : Int32)) dX4_aim_202 (by decide) ?_
              refine gb_aload_n dX4_aim_203 rfl rfl ?_
              obtain ⟨g37, hF⟩ := gb_gdE hF
              refine gb_getI fX4_65 dX4_aim_204 (gb_kE g37) ?_
              refine gb_iadd dX4_aim_207 ?_
              refine gb_iload_n dX4_aim_208 rfl rfl ?_
              obtain ⟨x38, h39, cx38, hF⟩ := gb_bdE hF
              refine gb_cS (As := [.int ((5 : Int32) + (gb_I h7 v1 8)), .int v2]) (S := [.int x3, .ref v1, .ref v0]) (v := some (.int x38)) (h1 := h39) (S2 := [.int x38, .int x3, .ref v1, .ref v0]) dX4_aim_209 mtX4_seatOf lX4_41 stX4_seatOf (fnX4_seatOf_ok _ _ cx38) (by decide) rfl (Nat.le_of_ble_eq_true rfl) (Nat.le_of_ble_eq_true rfl) rfl rfl ?_
              refine gb_iconst (v := (1 : Int32)) dX4_aim_212 (by decide) ?_
              obtain ⟨g40, hF⟩ := gb_gdE hF
              obtain ⟨x41, h42, cx41, hF⟩ := gb_bdE hF
              refine gb_cV (As := [.ref v1, .int x3, .int x38, .int (1 : Int32)]) (S := []) (v := none) (h1 := h42) (S2 := []) cf4 dX4_aim_213 mtX4_fork lX4_51 inX4_fork seX4_fork (gb_kE g40) (fnX4_fork_ok _ _ cx41) (by decide) rfl (Nat.le_of_ble_eq_true rfl) (Nat.le_of_ble_eq_true rfl) rfl rfl ?_
              refine gb_goto (tgt := 219) dX4_aim_216 (by decide) ?_
              exact gb_wk (fbX4_aim_219_ok hk43 v0 v1 v2 h42 r hF) (And.intro rfl (And.intro rfl (And.intro rfl trivial)))
            · replace hF := gb_ifF c36 hF
              refine gb_tswOut (tgt := 219) dX4_aim_71 (gb_swo5 c10 c17 c24 c29 c36) (by decide) ?_
              exact gb_wk (fbX4_aim_219_ok hk43 v0 v1 v2 h7 r hF) (And.intro rfl (And.intro rfl (And.intro rfl trivial)))
def lpX4_aim_43 (n : Nat) (v0 : Nat) (v1 : Nat) (v2 : Int32) (h : gb_H) : Option (Unit × gb_H) := gb_lp (σ := Nat × Nat × Int32 × gb_H) (fun k s => fbX4_aim_43 (fun v0 v1 v2 h => k (v0, v1, v2, h)) s.1 s.2.1 s.2.2.1 s.2.2.2) n (v0, v1, v2, h)
theorem lpX4_aim_43_ok {X : gb_X}  (n : Nat) (v0 : Nat) (v1 : Nat) (v2 : Int32) (h : gb_H) (r : Unit × gb_H) (hF : lpX4_aim_43 n v0 v1 v2 h = some r) : gb_Ev X 3 mX4_aim 43 [some (.ref v0), some (.ref v1), some (.int v2), none, none] [] h (gb_wV r) := by
  exact gb_lpE (σ := Nat × Nat × Int32 × gb_H) (P := fun s r => gb_Ev X 3 mX4_aim 43 [some (.ref s.1), some (.ref s.2.1), some (.int s.2.2.1), none, none] [] s.2.2.2 (gb_wV r)) (fun k hk s r hs => fbX4_aim_43_ok (fun v0 v1 v2 h r e => hk (v0, v1, v2, h) r e) _ _ _ _ r hs) n (v0, v1, v2, h) r hF
def fbX4_aim_2 (k2 : Nat → Nat → Int32 → gb_H → Option (Unit × gb_H)) (v0 : Nat) (v1 : Nat) (v2 : Int32) (h : gb_H) : Option (Unit × gb_H) :=
  if (17 : Int32) ≤ v2 then
    lpX4_aim_43 gb_FU v0 v1 (0 : Int32) h
  else
    gb_gd (gb_k h v0 4) <|
    gb_rd (gb_R h v0 0) fun a3 =>
    gb_gd (gb_k h a3 20) <|
    gb_gd (gb_in h a3 v2) <|
    gb_lt (gb_sI h a3 v2.toNatClampNeg (0 : Int32)) fun h6 =>
    if v2 = 0 then
      fbX4_aim_30 k2 v0 v1 v2 v0 v2 v2 (1 : Int32) h6
    else
      gb_gd (gb_k h6 v1 5) <|
      gb_bd (fnX5_base v1 h6) fun x9 h10 =>
      fbX4_aim_30 k2 v0 v1 v2 v0 v2 v2 x9 h10
theorem fbX4_aim_2_ok {X : gb_X} {k2 : Nat → Nat → Int32 → gb_H → Option (Unit × gb_H)} (hk2 : ∀ v0 v1 v2 h r, k2 v0 v1 v2 h = some r → gb_Ev X 3 mX4_aim 2 [some (.ref v0), some (.ref v1), some (.int v2), none, none] [] h (gb_wV r)) (v0 : Nat) (v1 : Nat) (v2 : Int32) (h : gb_H) (r : Unit × gb_H) (hF : fbX4_aim_2 k2 v0 v1 v2 h = some r) : gb_Ev X 3 mX4_aim 2 [some (.ref v0), some (.ref v1), some (.int v2), none, none] [] h (gb_wV r) := by
  unfold fbX4_aim_2 at hF
  refine gb_iload_n dX4_aim_2 rfl rfl ?_
  refine gb_bipush (v := (17 : Int32)) dX4_aim_3 (by decide) ?_
  refine gb_icmp_ge (tgt := 41) dX4_aim_5 (by decide) (fun c1 => ?_) (fun c1 => ?_)
  · replace hF := gb_ifT c1 hF
    refine gb_iconst (v := (0 : Int32)) dX4_aim_41 (by decide) ?_
    refine gb_istore_n (L' := [some (.ref v0), some (.ref v1), some (.int (0 : Int32)), none, none]) dX4_aim_42 rfl (by decide) rfl rfl ?_
    exact gb_wk (lpX4_aim_43_ok gb_FU v0 v1 (0 : Int32) h r hF) (And.intro rfl (And.intro rfl (And.intro rfl trivial)))
  · replace hF := gb_ifF c1 hF
    refine gb_aload_n dX4_aim_8 rfl rfl ?_
    obtain ⟨g2, hF⟩ := gb_gdE hF
    obtain ⟨a3, ea3, hF⟩ := gb_rdE hF
    refine gb_getR fX4_9 dX4_aim_9 (gb_kE g2) ea3 ?_
    refine gb_iload_n dX4_aim_12 rfl rfl ?_
    refine gb_iconst (v := (0 : Int32)) dX4_aim_13 (by decide) ?_
    obtain ⟨g4, hF⟩ := gb_gdE hF
    obtain ⟨g5, hF⟩ := gb_gdE hF
    obtain ⟨h6, eh6, hF⟩ := gb_ltE hF
    refine gb_iast dX4_aim_14 (gb_kE g4) (gb_inE g5) (gb_hp eh6 ?_)
    refine gb_aload_n dX4_aim_15 rfl rfl ?_
    refine gb_iload_n dX4_aim_16 rfl rfl ?_
    refine gb_iload_n dX4_aim_17 rfl rfl ?_
    refine gb_iload_n dX4_aim_18 rfl rfl ?_
    refine gb_if_ne (tgt := 26) dX4_aim_19 (by decide) (fun c7 => ?_) (fun c7 => ?_)
    · replace hF := gb_ifF c7 hF
      refine gb_aload_n dX4_aim_26 rfl rfl ?_
      obtain ⟨g8, hF⟩ := gb_gdE hF
      obtain ⟨x9, h10, cx9, hF⟩ := gb_bdE hF
      refine gb_cV (As := []) (S := [.int v2, .int v2, .ref v0]) (v := some (.int x9)) (h1 := h10) (S2 := [.int x9, .int v2, .int v2, .ref v0]) cf5 dX4_aim_27 mtX5_base lX4_27 inX5_base seX5_base (gb_kE g8) (fnX5_base_ok _ _ cx9) (by decide) rfl (Nat.le_of_ble_eq_true rfl) (Nat.le_of_ble_eq_true rfl) rfl rfl ?_
      exact gb_wk (fbX4_aim_30_ok hk2 v0 v1 v2 v0 v2 v2 x9 h10 r hF) (And.intro rfl (And.intro rfl (And.intro rfl trivial)))
    · replace hF := gb_ifT c7 hF
      refine gb_iconst (v := (1 : Int32)) dX4_aim_22 (by decide) ?_
      refine gb_goto (tgt := 30) dX4_aim_23 (by decide) ?_
      exact gb_wk (fbX4_aim_30_ok hk2 v0 v1 v2 v0 v2 v2 (1 : Int32) h6 r hF) (And.intro rfl (And.intro rfl (And.intro rfl trivial)))
def lpX4_aim_2 (n : Nat) (v0 : Nat) (v1 : Nat) (v2 : Int32) (h : gb_H) : Option (Unit × gb_H) := gb_lp (σ := Nat × Nat × Int32 × gb_H) (fun k s => fbX4_aim_2 (fun v0 v1 v2 h => k (v0, v1, v2, h)) s.1 s.2.1 s.2.2.1 s.2.2.2) n (v0, v1, v2, h)
theorem lpX4_aim_2_ok {X : gb_X}  (n : Nat) (v0 : Nat) (v1 : Nat) (v2 : Int32) (h : gb_H) (r : Unit × gb_H) (hF : lpX4_aim_2 n v0 v1 v2 h = some r) : gb_Ev X 3 mX4_aim 2 [some (.ref v0), some (.ref v1), some (.int v2), none, none] [] h (gb_wV r) := by
  exact gb_lpE (σ := Nat × Nat × Int32 × gb_H) (P := fun s r => gb_Ev X 3 mX4_aim 2 [some (.ref s.1), some (.ref s.2.1), some (.int s.2.2.1), none, none] [] s.2.2.2 (gb_wV r)) (fun k hk s r hs => fbX4_aim_2_ok (fun v0 v1 v2 h r e => hk (v0, v1, v2, h) r e) _ _ _ _ r hs) n (v0, v1, v2, h) r hF
def fnX4_aim (p0 : Nat) (p1 : Nat) (h : gb_H) : Option (Unit × gb_H) :=
  lpX4_aim_2 gb_FU p0 p1 (0 : Int32) h
theorem fnX4_aim_ok {X : gb_X}  {p0 : Nat} {p1 : Nat} (h : gb_H) (r : Unit × gb_H) (hF : fnX4_aim p0 p1 h = some r) : gb_Ev X 3 mX4_aim 0 (gb_L0 [.ref p0, .ref p1]) [] h (gb_wV r) := by
  unfold fnX4_aim at hF
  refine gb_weak (L' := [some (.ref p0), some (.ref p1), none, none, none]) (And.intro rfl (And.intro rfl trivial)) ?_
  refine gb_iconst (v := (0 : Int32)) dX4_aim_0 (by decide) ?_
  refine gb_istore_n (L' := [some (.ref p0), some (.ref p1), some (.int (0 : Int32)), none, none]) dX4_aim_1 rfl (by decide) rfl rfl ?_
  exact gb_wk (lpX4_aim_2_ok gb_FU p0 p1 (0 : Int32) h r hF) (And.intro rfl (And.intro rfl (And.intro rfl trivial)))
def fbX0_isZero_49 (s0 : Int32) (h : gb_H) : Option (Int32 × gb_H) :=
  gb_gd (gb_b s0) <|
  some (s0, h)
theorem fbX0_isZero_49_ok {X : gb_X} (s0 : Int32) (h : gb_H) (r : Int32 × gb_H) (hF : fbX0_isZero_49 s0 h = some r) : gb_Ev X 1 mX0_isZero 49 [none, none] [.int s0] h (gb_wI r) := by
  unfold fbX0_isZero_49 at hF
  obtain ⟨g1, hF⟩ := gb_gdE hF
  cases hF
  exact gb_zret dX0_isZero_49 rfl (gb_bE g1)
def fbX0_isZero_48 (h : gb_H) : Option (Int32 × gb_H) :=
  fbX0_isZero_49 (0 : Int32) h
theorem fbX0_isZero_48_ok {X : gb_X} (h : gb_H) (r : Int32 × gb_H) (hF : fbX0_isZero_48 h = some r) : gb_Ev X 1 mX0_isZero 48 [none, none] [] h (gb_wI r) := by
  unfold fbX0_isZero_48 at hF
  refine gb_iconst (v := (0 : Int32)) dX0_isZero_48 (by decide) ?_
  exact gb_wk (fbX0_isZero_49_ok (0 : Int32) h r hF) trivial
def fnX0_isZero (p0 : Nat) (p1 : Int32) (h : gb_H) : Option (Int32 × gb_H) :=
  gb_gd (gb_k h p0 0) <|
  gb_rd (gb_R h p0 2) fun a2 =>
  gb_gd (gb_k h a2 23) <|
  gb_gd (gb_in h a2 p1) <|
  if (gb_L h a2 p1.toNatClampNeg) = (0 : Int64) then
    gb_gd (gb_k h p0 0) <|
    gb_rd (gb_R h p0 3) fun a7 =>
    gb_gd (gb_k h a7 23) <|
    gb_gd (gb_in h a7 p1) <|
    if (gb_L h a7 p1.toNatClampNeg) = (0 : Int64) then
      gb_gd (gb_k h p0 0) <|
      gb_rd (gb_R h p0 4) fun a12 =>
      gb_gd (gb_k h a12 23) <|
      gb_gd (gb_in h a12 p1) <|
      if (gb_L h a12 p1.toNatClampNeg) = (0 : Int64) then
        gb_gd (gb_k h p0 0) <|
        gb_rd (gb_R h p0 5) fun a17 =>
        gb_gd (gb_k h a17 23) <|
        gb_gd (gb_in h a17 p1) <|
        if (gb_L h a17 p1.toNatClampNeg) = (0 : Int64) then
          fbX0_isZero_49 (1 : Int32) h
        else
          fbX0_isZero_48 h
      else
        fbX0_isZero_48 h
    else
      fbX0_isZero_48 h
  else
    fbX0_isZero_48 h
theorem fnX0_isZero_ok {X : gb_X}  {p0 : Nat} {p1 : Int32} (h : gb_H) (r : Int32 × gb_H) (hF : fnX0_isZero p0 p1 h = some r) : gb_Ev X 1 mX0_isZero 0 (gb_L0 [.ref p0, .int p1]) [] h (gb_wI r) := by
  unfold fnX0_isZero at hF
  refine gb_weak (L' := [some (.ref p0), some (.int p1)]) (And.intro rfl (And.intro rfl trivial)) ?_
  refine gb_aload_n dX0_isZero_0 rfl rfl ?_
  obtain ⟨g1, hF⟩ := gb_gdE hF
  obtain ⟨a2, ea2, hF⟩ := gb_rdE hF
  refine gb_getR fX0_19 dX0_isZero_1 (gb_kE g1) ea2 ?_
  refine gb_iload_n dX0_isZero_4 rfl rfl ?_
  obtain ⟨g3, hF⟩ := gb_gdE hF
  obtain ⟨g4, hF⟩ := gb_gdE hF
  refine gb_lald dX0_isZero_5 (gb_kE g3) (gb_inE g4) ?_
  refine gb_lconst (v := (0 : Int64)) dX0_isZero_6 (by decide) ?_
  refine gb_lc_ne (tgt := 48) dX0_isZero_7 dX0_isZero_8 (by decide) (fun c5 => ?_) (fun c5 => ?_)
  · replace hF := gb_ifF c5 hF
    exact gb_wk (fbX0_isZero_48_ok h r hF) trivial
  · replace hF := gb_ifT c5 hF
    refine gb_aload_n dX0_isZero_11 rfl rfl ?_
    obtain ⟨g6, hF⟩ := gb_gdE hF
    obtain ⟨a7, ea7, hF⟩ := gb_rdE hF
    refine gb_getR fX0_23 dX0_isZero_12 (gb_kE g6) ea7 ?_
    refine gb_iload_n dX0_isZero_15 rfl rfl ?_
    obtain ⟨g8, hF⟩ := gb_gdE hF
    obtain ⟨g9, hF⟩ := gb_gdE hF
    refine gb_lald dX0_isZero_16 (gb_kE g8) (gb_inE g9) ?_
    refine gb_lconst (v := (0 : Int64)) dX0_isZero_17 (by decide) ?_
    refine gb_lc_ne (tgt := 48) dX0_isZero_18 dX0_isZero_19 (by decide) (fun c10 => ?_) (fun c10 => ?_)
    · replace hF := gb_ifF c10 hF
      exact gb_wk (fbX0_isZero_48_ok h r hF) trivial
    · replace hF := gb_ifT c10 hF
      refine gb_aload_n dX0_isZero_22 rfl rfl ?_
      obtain ⟨g11, hF⟩ := gb_gdE hF
      obtain ⟨a12, ea12, hF⟩ := gb_rdE hF
      refine gb_getR fX0_26 dX0_isZero_23 (gb_kE g11) ea12 ?_
      refine gb_iload_n dX0_isZero_26 rfl rfl ?_
      obtain ⟨g13, hF⟩ := gb_gdE hF
      obtain ⟨g14, hF⟩ := gb_gdE hF
      refine gb_lald dX0_isZero_27 (gb_kE g13) (gb_inE g14) ?_
      refine gb_lconst (v := (0 : Int64)) dX0_isZero_28 (by decide) ?_
      refine gb_lc_ne (tgt := 48) dX0_isZero_29 dX0_isZero_30 (by decide) (fun c15 => ?_) (fun c15 => ?_)
      · replace hF := gb_ifF c15 hF
        exact gb_wk (fbX0_isZero_48_ok h r hF) trivial
      · replace hF := gb_ifT c15 hF
        refine gb_aload_n dX0_isZero_33 rfl rfl ?_
        obtain ⟨g16, hF⟩ := gb_gdE hF
        obtain ⟨a17, ea17, hF⟩ := gb_rdE hF
        refine gb_getR fX0_29 dX0_isZero_34 (gb_kE g16) ea17 ?_
        refine gb_iload_n dX0_isZero_37 rfl rfl ?_
        obtain ⟨g18, hF⟩ := gb_gdE hF
        obtain ⟨g19, hF⟩ := gb_gdE hF
        refine gb_lald dX0_isZero_38 (gb_kE g18) (gb_inE g19) ?_
        refine gb_lconst (v := (0 : Int64)) dX0_isZero_39 (by decide) ?_
        refine gb_lc_ne (tgt := 48) dX0_isZero_40 dX0_isZero_41 (by decide) (fun c20 => ?_) (fun c20 => ?_)
        · replace hF := gb_ifF c20 hF
          exact gb_wk (fbX0_isZero_48_ok h r hF) trivial
        · replace hF := gb_ifT c20 hF
          refine gb_iconst (v := (1 : Int32)) dX0_isZero_44 (by decide) ?_
          refine gb_goto (tgt := 49) dX0_isZero_45 (by decide) ?_
          exact gb_wk (fbX0_isZero_49_ok (1 : Int32) h r hF) trivial
def fbX0_pathOf_15 (s0 : Int32) (h : gb_H) : Option (Int32 × gb_H) :=
  some (s0, h)
theorem fbX0_pathOf_15_ok {X : gb_X} (s0 : Int32) (h : gb_H) (r : Int32 × gb_H) (hF : fbX0_pathOf_15 s0 h = some r) : gb_Ev X 1 mX0_pathOf 15 [none] [.int s0] h (gb_wI r) := by
  unfold fbX0_pathOf_15 at hF
  cases hF
  exact gb_iret dX0_pathOf_15 rfl
def fnX0_pathOf (p0 : Int32) (h : gb_H) : Option (Int32 × gb_H) :=
  if (11 : Int32) ≤ p0 then
    fbX0_pathOf_15 (0 : Int32) h
  else
    gb_gd (gb_nz (2 : Int32)) <|
    fbX0_pathOf_15 ((p0 + (1 : Int32)) / (2 : Int32)) h
theorem fnX0_pathOf_ok {X : gb_X}  {p0 : Int32} (h : gb_H) (r : Int32 × gb_H) (hF : fnX0_pathOf p0 h = some r) : gb_Ev X 1 mX0_pathOf 0 (gb_L0 [.int p0]) [] h (gb_wI r) := by
  unfold fnX0_pathOf at hF
  refine gb_weak (L' := [some (.int p0)]) (And.intro rfl trivial) ?_
  refine gb_iload_n dX0_pathOf_0 rfl rfl ?_
  refine gb_bipush (v := (11 : Int32)) dX0_pathOf_1 (by decide) ?_
  refine gb_icmp_ge (tgt := 14) dX0_pathOf_3 (by decide) (fun c1 => ?_) (fun c1 => ?_)
  · replace hF := gb_ifT c1 hF
    refine gb_iconst (v := (0 : Int32)) dX0_pathOf_14 (by decide) ?_
    exact gb_wk (fbX0_pathOf_15_ok (0 : Int32) h r hF) trivial
  · replace hF := gb_ifF c1 hF
    refine gb_iload_n dX0_pathOf_6 rfl rfl ?_
    refine gb_iconst (v := (1 : Int32)) dX0_pathOf_7 (by decide) ?_
    refine gb_iadd dX0_pathOf_8 ?_
    refine gb_iconst (v := (2 : Int32)) dX0_pathOf_9 (by decide) ?_
    obtain ⟨g2, hF⟩ := gb_gdE hF
    refine gb_idiv dX0_pathOf_10 (gb_nzE g2) ?_
    refine gb_goto (tgt := 15) dX0_pathOf_11 (by decide) ?_
    exact gb_wk (fbX0_pathOf_15_ok ((p0 + (1 : Int32)) / (2 : Int32)) h r hF) trivial
def fbX0_grainsIn_53 (s0 : Int32) (s1 : Int32) (h : gb_H) : Option (Int32 × gb_H) :=
  some (s0 + s1, h)
theorem fbX0_grainsIn_53_ok {X : gb_X} (s0 : Int32) (s1 : Int32) (h : gb_H) (r : Int32 × gb_H) (hF : fbX0_grainsIn_53 s0 s1 h = some r) : gb_Ev X 2 mX0_grainsIn 53 [none, none, none] [.int s1, .int s0] h (gb_wI r) := by
  unfold fbX0_grainsIn_53 at hF
  refine gb_iadd dX0_grainsIn_53 ?_
  cases hF
  exact gb_iret dX0_grainsIn_54 rfl
def fbX0_grainsIn_34 (v0 : Int32) (v1 : Int32) (s0 : Int32) (s1 : Int32) (h : gb_H) : Option (Int32 × gb_H) :=
  gb_lt (s0 + s1) fun x1 =>
  gb_bd (fnX0_high v0 h) fun x2 h3 =>
  gb_bd (fnX0_pathOf x2 h3) fun x4 h5 =>
  if x4 = v1 then
    fbX0_grainsIn_53 x1 (1 : Int32) h5
  else
    fbX0_grainsIn_53 x1 (0 : Int32) h5
theorem fbX0_grainsIn_34_ok {X : gb_X} (v0 : Int32) (v1 : Int32) (s0 : Int32) (s1 : Int32) (h : gb_H) (r : Int32 × gb_H) (hF : fbX0_grainsIn_34 v0 v1 s0 s1 h = some r) : gb_Ev X 2 mX0_grainsIn 34 [some (.int v0), some (.int v1), none] [.int s1, .int s0] h (gb_wI r) := by
  unfold fbX0_grainsIn_34 at hF
  refine gb_iadd dX0_grainsIn_34 ?_
  obtain ⟨x1, ex1, hF⟩ := gb_ltE hF
  refine gb_topI ex1 ?_
  refine gb_istore_n (L' := [some (.int v0), some (.int v1), some (.int x1)]) dX0_grainsIn_35 rfl (by decide) rfl rfl ?_
  refine gb_iload_n dX0_grainsIn_36 rfl rfl ?_
  refine gb_iload_n dX0_grainsIn_37 rfl rfl ?_
  obtain ⟨x2, h3, cx2, hF⟩ := gb_bdE hF
  refine gb_cS (As := [.int v0]) (S := [.int x1]) (v := some (.int x2)) (h1 := h3) (S2 := [.int x2, .int x1]) dX0_grainsIn_38 mtX0_high lX0_48 stX0_high (fnX0_high_ok _ _ cx2) (by decide) rfl (Nat.le_of_ble_eq_true rfl) (Nat.le_of_ble_eq_true rfl) rfl rfl ?_
  obtain ⟨x4, h5, cx4, hF⟩ := gb_bdE hF
  refine gb_cS (As := [.int x2]) (S := [.int x1]) (v := some (.int x4)) (h1 := h5) (S2 := [.int x4, .int x1]) dX0_grainsIn_41 mtX0_pathOf lX0_51 stX0_pathOf (fnX0_pathOf_ok _ _ cx4) (by decide) rfl (Nat.le_of_ble_eq_true rfl) (Nat.le_of_ble_eq_true rfl) rfl rfl ?_
  refine gb_iload_n dX0_grainsIn_44 rfl rfl ?_
  refine gb_icmp_ne (tgt := 52) dX0_grainsIn_45 (by decide) (fun c6 => ?_) (fun c6 => ?_)
  · replace hF := gb_ifF c6 hF
    refine gb_iconst (v := (0 : Int32)) dX0_grainsIn_52 (by decide) ?_
    exact gb_wk (fbX0_grainsIn_53_ok x1 (0 : Int32) h5 r hF) trivial
  · replace hF := gb_ifT c6 hF
    refine gb_iconst (v := (1 : Int32)) dX0_grainsIn_48 (by decide) ?_
    refine gb_goto (tgt := 53) dX0_grainsIn_49 (by decide) ?_
    exact gb_wk (fbX0_grainsIn_53_ok x1 (1 : Int32) h5 r hF) trivial
def fbX0_grainsIn_16 (v0 : Int32) (v1 : Int32) (s0 : Int32) (h : gb_H) : Option (Int32 × gb_H) :=
  gb_bd (fnX0_mid v0 h) fun x1 h2 =>
  gb_bd (fnX0_pathOf x1 h2) fun x3 h4 =>
  if x3 = v1 then
    fbX0_grainsIn_34 v0 v1 s0 (1 : Int32) h4
  else
    fbX0_grainsIn_34 v0 v1 s0 (0 : Int32) h4
theorem fbX0_grainsIn_16_ok {X : gb_X} (v0 : Int32) (v1 : Int32) (s0 : Int32) (h : gb_H) (r : Int32 × gb_H) (hF : fbX0_grainsIn_16 v0 v1 s0 h = some r) : gb_Ev X 2 mX0_grainsIn 16 [some (.int v0), some (.int v1), none] [.int s0] h (gb_wI r) := by
  unfold fbX0_grainsIn_16 at hF
  refine gb_istore_n (L' := [some (.int v0), some (.int v1), some (.int s0)]) dX0_grainsIn_16 rfl (by decide) rfl rfl ?_
  refine gb_iload_n dX0_grainsIn_17 rfl rfl ?_
  refine gb_iload_n dX0_grainsIn_18 rfl rfl ?_
  obtain ⟨x1, h2, cx1, hF⟩ := gb_bdE hF
  refine gb_cS (As := [.int v0]) (S := [.int s0]) (v := some (.int x1)) (h1 := h2) (S2 := [.int x1, .int s0]) dX0_grainsIn_19 mtX0_mid lX0_45 stX0_mid (fnX0_mid_ok _ _ cx1) (by decide) rfl (Nat.le_of_ble_eq_true rfl) (Nat.le_of_ble_eq_true rfl) rfl rfl ?_
  obtain ⟨x3, h4, cx3, hF⟩ := gb_bdE hF
  refine gb_cS (As := [.int x1]) (S := [.int s0]) (v := some (.int x3)) (h1 := h4) (S2 := [.int x3, .int s0]) dX0_grainsIn_22 mtX0_pathOf lX0_51 stX0_pathOf (fnX0_pathOf_ok _ _ cx3) (by decide) rfl (Nat.le_of_ble_eq_true rfl) (Nat.le_of_ble_eq_true rfl) rfl rfl ?_
  refine gb_iload_n dX0_grainsIn_25 rfl rfl ?_
  refine gb_icmp_ne (tgt := 33) dX0_grainsIn_26 (by decide) (fun c5 => ?_) (fun c5 => ?_)
  · replace hF := gb_ifF c5 hF
    refine gb_iconst (v := (0 : Int32)) dX0_grainsIn_33 (by decide) ?_
    exact gb_wk (fbX0_grainsIn_34_ok v0 v1 s0 (0 : Int32) h4 r hF) (And.intro rfl (And.intro rfl trivial))
  · replace hF := gb_ifT c5 hF
    refine gb_iconst (v := (1 : Int32)) dX0_grainsIn_29 (by decide) ?_
    refine gb_goto (tgt := 34) dX0_grainsIn_30 (by decide) ?_
    exact gb_wk (fbX0_grainsIn_34_ok v0 v1 s0 (1 : Int32) h4 r hF) (And.intro rfl (And.intro rfl trivial))
def fnX0_grainsIn (p0 : Int32) (p1 : Int32) (h : gb_H) : Option (Int32 × gb_H) :=
  gb_bd (fnX0_low p0 h) fun x1 h2 =>
  gb_bd (fnX0_pathOf x1 h2) fun x3 h4 =>
  if x3 = p1 then
    fbX0_grainsIn_16 p0 p1 (1 : Int32) h4
  else
    fbX0_grainsIn_16 p0 p1 (0 : Int32) h4
theorem fnX0_grainsIn_ok {X : gb_X}  {p0 : Int32} {p1 : Int32} (h : gb_H) (r : Int32 × gb_H) (hF : fnX0_grainsIn p0 p1 h = some r) : gb_Ev X 2 mX0_grainsIn 0 (gb_L0 [.int p0, .int p1]) [] h (gb_wI r) := by
  unfold fnX0_grainsIn at hF
  refine gb_weak (L' := [some (.int p0), some (.int p1), none]) (And.intro rfl (And.intro rfl trivial)) ?_
  refine gb_iload_n dX0_grainsIn_0 rfl rfl ?_
  obtain ⟨x1, h2, cx1, hF⟩ := gb_bdE hF
  refine gb_cS (As := [.int p0]) (S := []) (v := some (.int x1)) (h1 := h2) (S2 := [.int x1]) dX0_grainsIn_1 mtX0_low lX0_41 stX0_low (fnX0_low_ok _ _ cx1) (by decide) rfl (Nat.le_of_ble_eq_true rfl) (Nat.le_of_ble_eq_true rfl) rfl rfl ?_
  obtain ⟨x3, h4, cx3, hF⟩ := gb_bdE hF
  refine gb_cS (As := [.int x1]) (S := []) (v := some (.int x3)) (h1 := h4) (S2 := [.int x3]) dX0_grainsIn_4 mtX0_pathOf lX0_51 stX0_pathOf (fnX0_pathOf_ok _ _ cx3) (by decide) rfl (Nat.le_of_ble_eq_true rfl) (Nat.le_of_ble_eq_true rfl) rfl rfl ?_
  refine gb_iload_n dX0_grainsIn_7 rfl rfl ?_
  refine gb_icmp_ne (tgt := 15) dX0_grainsIn_8 (by decide) (fun c5 => ?_) (fun c5 => ?_)
  · replace hF := gb_ifF c5 hF
    refine gb_iconst (v := (0 : Int32)) dX0_grainsIn_15 (by decide) ?_
    exact gb_wk (fbX0_grainsIn_16_ok p0 p1 (0 : Int32) h4 r hF) (And.intro rfl (And.intro rfl trivial))
  · replace hF := gb_ifT c5 hF
    refine gb_iconst (v := (1 : Int32)) dX0_grainsIn_11 (by decide) ?_
    refine gb_goto (tgt := 16) dX0_grainsIn_12 (by decide) ?_
    exact gb_wk (fbX0_grainsIn_16_ok p0 p1 (1 : Int32) h4 r hF) (And.intro rfl (And.intro rfl trivial))
def fbX5_actsOn_30 (s0 : Int32) (h : gb_H) : Option (Int32 × gb_H) :=
  gb_gd (gb_b s0) <|
  some (s0, h)
theorem fbX5_actsOn_30_ok {X : gb_X} (s0 : Int32) (h : gb_H) (r : Int32 × gb_H) (hF : fbX5_actsOn_30 s0 h = some r) : gb_Ev X 3 mX5_actsOn 30 [none, none] [.int s0] h (gb_wI r) := by
  unfold fbX5_actsOn_30 at hF
  obtain ⟨g1, hF⟩ := gb_gdE hF
  cases hF
  exact gb_zret dX5_actsOn_30 rfl (gb_bE g1)
def fbX5_actsOn_25 (h : gb_H) : Option (Int32 × gb_H) :=
  fbX5_actsOn_30 (1 : Int32) h
theorem fbX5_actsOn_25_ok {X : gb_X} (h : gb_H) (r : Int32 × gb_H) (hF : fbX5_actsOn_25 h = some r) : gb_Ev X 3 mX5_actsOn 25 [none, none] [] h (gb_wI r) := by
  unfold fbX5_actsOn_25 at hF
  refine gb_iconst (v := (1 : Int32)) dX5_actsOn_25 (by decide) ?_
  refine gb_goto (tgt := 30) dX5_actsOn_26 (by decide) ?_
  exact gb_wk (fbX5_actsOn_30_ok (1 : Int32) h r hF) trivial
def fnX5_actsOn (p0 : Nat) (p1 : Int32) (h : gb_H) : Option (Int32 × gb_H) :=
  gb_gd (gb_k h p0 5) <|
  if (gb_I h p0 6) = (-1 : Int32) then
    fbX5_actsOn_25 h
  else
    gb_gd (gb_k h p0 5) <|
    gb_bd (fnX0_grainsIn p1 ((gb_I h p0 6) + (1 : Int32)) h) fun x4 h5 =>
    gb_gd (gb_k h5 p0 5) <|
    if x4 = (gb_I h5 p0 7) then
      fbX5_actsOn_25 h5
    else
      fbX5_actsOn_30 (0 : Int32) h5
theorem fnX5_actsOn_ok {X : gb_X}  {p0 : Nat} {p1 : Int32} (h : gb_H) (r : Int32 × gb_H) (hF : fnX5_actsOn p0 p1 h = some r) : gb_Ev X 3 mX5_actsOn 0 (gb_L0 [.ref p0, .int p1]) [] h (gb_wI r) := by
  unfold fnX5_actsOn at hF
  refine gb_weak (L' := [some (.ref p0), some (.int p1)]) (And.intro rfl (And.intro rfl trivial)) ?_
  refine gb_aload_n dX5_actsOn_0 rfl rfl ?_
  obtain ⟨g1, hF⟩ := gb_gdE hF
  refine gb_getI fX5_30 dX5_actsOn_1 (gb_kE g1) ?_
  refine gb_iconst (v := (-1 : Int32)) dX5_actsOn_4 (by decide) ?_
  refine gb_icmp_eq (tgt := 25) dX5_actsOn_5 (by decide) (fun c2 => ?_) (fun c2 => ?_)
  · replace hF := gb_ifT c2 hF
    exact gb_wk (fbX5_actsOn_25_ok h r hF) trivial
  · replace hF := gb_ifF c2 hF
    refine gb_iload_n dX5_actsOn_8 rfl rfl ?_
    refine gb_aload_n dX5_actsOn_9 rfl rfl ?_
    obtain ⟨g3, hF⟩ := gb_gdE hF
    refine gb_getI fX5_30 dX5_actsOn_10 (gb_kE g3) ?_
    refine gb_iconst (v := (1 : Int32)) dX5_actsOn_13 (by decide) ?_
    refine gb_iadd dX5_actsOn_14 ?_
    obtain ⟨x4, h5, cx4, hF⟩ := gb_bdE hF
    refine gb_cS (As := [.int p1, .int ((gb_I h p0 6) + (1 : Int32))]) (S := []) (v := some (.int x4)) (h1 := h5) (S2 := [.int x4]) dX5_actsOn_15 mtX0_grainsIn lX5_39 stX0_grainsIn (fnX0_grainsIn_ok _ _ cx4) (by decide) rfl (Nat.le_of_ble_eq_true rfl) (Nat.le_of_ble_eq_true rfl) rfl rfl ?_
    refine gb_aload_n dX5_actsOn_18 rfl rfl ?_
    obtain ⟨g6, hF⟩ := gb_gdE hF
    refine gb_getI fX5_33 dX5_actsOn_19 (gb_kE g6) ?_
    refine gb_icmp_ne (tgt := 29) dX5_actsOn_22 (by decide) (fun c7 => ?_) (fun c7 => ?_)
    · replace hF := gb_ifF c7 hF
      refine gb_iconst (v := (0 : Int32)) dX5_actsOn_29 (by decide) ?_
      exact gb_wk (fbX5_actsOn_30_ok (0 : Int32) h5 r hF) trivial
    · replace hF := gb_ifT c7 hF
      exact gb_wk (fbX5_actsOn_25_ok h5 r hF) trivial
def fbX0_addScaled_269 (h : gb_H) : Option (Unit × gb_H) :=
  some ((), h)
theorem fbX0_addScaled_269_ok {X : gb_X} (h : gb_H) (r : Unit × gb_H) (hF : fbX0_addScaled_269 h = some r) : gb_Ev X 2 mX0_addScaled 269 [none, none, none, none, none, none, none, none, none, none, none, none, none, none, none, none, none, none, none, none] [] h (gb_wV r) := by
  unfold fbX0_addScaled_269 at hF
  cases hF
  exact gb_vret dX0_addScaled_269 rfl
def fbX0_addScaled_159 (v0 : Nat) (v1 : Int32) (v5 : Int32) (v8 : Int32) (v12 : Int64) (v14 : Int64) (v16 : Int64) (s0 : Int64) (s1 : Int64) (h : gb_H) : Option (Unit × gb_H) :=
  gb_lt (s0 * s1) fun x1 =>
  gb_lt (v5 &&& (3 : Int32)) fun x2 =>
  if x2 = 0 then
    gb_gd (gb_k h v0 0) <|
    gb_bd (fnX0_add v0 v1 v8 v12 v14 v16 x1 h) fun _ h6 =>
    fbX0_addScaled_269 h6
  else
    if x2 = 1 then
      gb_gd (gb_k h v0 0) <|
      gb_bd (fnX0_add v0 v1 v8 (-v16) (-x1) v12 v14 h) fun _ h10 =>
      fbX0_addScaled_269 h10
    else
      if x2 = 2 then
        gb_gd (gb_k h v0 0) <|
        gb_bd (fnX0_add v0 v1 v8 (-v12) (-v14) (-v16) (-x1) h) fun _ h14 =>
        fbX0_addScaled_269 h14
      else
        gb_gd (gb_k h v0 0) <|
        gb_bd (fnX0_add v0 v1 v8 v16 x1 (-v12) (-v14) h) fun _ h17 =>
        fbX0_addScaled_269 h17
theorem fbX0_addScaled_159_ok {X : gb_X} (v0 : Nat) (v1 : Int32) (v5 : Int32) (v8 : Int32) (v12 : Int64) (v14 : Int64) (v16 : Int64) (s0 : Int64) (s1 : Int64) (h : gb_H) (r : Unit × gb_H) (hF : fbX0_addScaled_159 v0 v1 v5 v8 v12 v14 v16 s0 s1 h = some r) : gb_Ev X 2 mX0_addScaled 159 [some (.ref v0), some (.int v1), none, none, none, some (.int v5), none, none, some (.int v8), none, none, none, some (.long v12), none, some (.long v14), none, some (.long v16), none, none, none] [.long s1, .long s0] h (gb_wV r) := by
  unfold fbX0_addScaled_159 at hF
  refine gb_lmul dX0_addScaled_159 ?_
  obtain ⟨x1, ex1, hF⟩ := gb_ltE hF
  refine gb_topJ ex1 ?_
  refine gb_lstore (L' := [some (.ref v0), some (.int v1), none, none, none, some (.int v5), none, none, some (.int v8), none, none, none, some (.long v12), none, some (.long v14), none, some (.long v16), none, some (.long x1), none]) dX0_addScaled_160 (by decide) rfl rfl ?_
  refine gb_iload dX0_addScaled_162 rfl ?_
  refine gb_iconst (v := (3 : Int32)) dX0_addScaled_164 (by decide) ?_
  refine gb_iand dX0_addScaled_165 ?_
  obtain ⟨x2, ex2, hF⟩ := gb_ltE hF
  refine gb_topI ex2 ?_
  rcases Classical.em (x2 = 0) with c3 | c3
  · replace hF := gb_ifT c3 hF
    refine gb_tswIn (tgt := 192) (x := x2) dX0_addScaled_166 (by rw [c3]; decide) (by rw [c3]; decide) (by rw [c3]; rfl) (by decide) ?_
    refine gb_aload_n dX0_addScaled_192 rfl rfl ?_
    refine gb_iload_n dX0_addScaled_193 rfl rfl ?_
    refine gb_iload dX0_addScaled_194 rfl ?_
    refine gb_lload dX0_addScaled_196 rfl ?_
    refine gb_lload dX0_addScaled_198 rfl ?_
    refine gb_lload dX0_addScaled_200 rfl ?_
    refine gb_lload dX0_addScaled_202 rfl ?_
    obtain ⟨g4, hF⟩ := gb_gdE hF
    obtain ⟨x5, h6, cx5, hF⟩ := gb_bdE hF
    refine gb_cV (As := [.int v1, .int v8, .long v12, .long v14, .long v16, .long x1]) (S := []) (v := none) (h1 := h6) (S2 := []) cf0 dX0_addScaled_204 mtX0_add lX0_64 inX0_add seX0_add (gb_kE g4) (fnX0_add_ok _ _ cx5) (by decide) rfl (Nat.le_of_ble_eq_true rfl) (Nat.le_of_ble_eq_true rfl) rfl rfl ?_
    refine gb_goto (tgt := 269) dX0_addScaled_207 (by decide) ?_
    exact gb_wk (fbX0_addScaled_269_ok h6 r hF) trivial
  · replace hF := gb_ifF c3 hF
    rcases Classical.em (x2 = 1) with c7 | c7
    · replace hF := gb_ifT c7 hF
      refine gb_tswIn (tgt := 210) (x := x2) dX0_addScaled_166 (by rw [c7]; decide) (by rw [c7]; decide) (by rw [c7]; rfl) (by decide) ?_
      refine gb_aload_n dX0_addScaled_210 rfl rfl ?_
      refine gb_iload_n dX0_addScaled_211 rfl rfl ?_
      refine gb_iload dX0_addScaled_212 rfl ?_
      refine gb_lload dX0_addScaled_214 rfl ?_
      refine gb_lneg dX0_addScaled_216 ?_
      refine gb_lload dX0_addScaled_217 rfl ?_
      refine gb_lneg dX0_addScaled_219 ?_
      refine gb_lload dX0_addScaled_220 rfl ?_
      refine gb_lload dX0_addScaled_222 rfl ?_
      obtain ⟨g8, hF⟩ := gb_gdE hF
      obtain ⟨x9, h10, cx9, hF⟩ := gb_bdE hF
      refine gb_cV (As := [.int v1, .int v8, .long (-v16), .long (-x1), .long v12, .long v14]) (S := []) (v := none) (h1 := h10) (S2 := []) cf0 dX0_addScaled_224 mtX0_add lX0_64 inX0_add seX0_add (gb_kE g8) (fnX0_add_ok _ _ cx9) (by decide) rfl (Nat.le_of_ble_eq_true rfl) (Nat.le_of_ble_eq_true rfl) rfl rfl ?_
      refine gb_goto (tgt := 269) dX0_addScaled_227 (by decide) ?_
      exact gb_wk (fbX0_addScaled_269_ok h10 r hF) trivial
    · replace hF := gb_ifF c7 hF
      rcases Classical.em (x2 = 2) with c11 | c11
      · replace hF := gb_ifT c11 hF
        refine gb_tswIn (tgt := 230) (x := x2) dX0_addScaled_166 (by rw [c11]; decide) (by rw [c11]; decide) (by rw [c11]; rfl) (by decide) ?_
        refine gb_aload_n dX0_addScaled_230 rfl rfl ?_
        refine gb_iload_n dX0_addScaled_231 rfl rfl ?_
        refine gb_iload dX0_addScaled_232 rfl ?_
        refine gb_lload dX0_addScaled_234 rfl ?_
        refine gb_lneg dX0_addScaled_236 ?_
        refine gb_lload dX0_addScaled_237 rfl ?_
        refine gb_lneg dX0_addScaled_239 ?_
        refine gb_lload dX0_addScaled_240 rfl ?_
        refine gb_lneg dX0_addScaled_242 ?_
        refine gb_lload dX0_addScaled_243 rfl ?_
        refine gb_lneg dX0_addScaled_245 ?_
        obtain ⟨g12, hF⟩ := gb_gdE hF
        obtain ⟨x13, h14, cx13, hF⟩ := gb_bdE hF
        refine gb_cV (As := [.int v1, .int v8, .long (-v12), .long (-v14), .long (-v16), .long (-x1)]) (S := []) (v := none) (h1 := h14) (S2 := []) cf0 dX0_addScaled_246 mtX0_add lX0_64 inX0_add seX0_add (gb_kE g12) (fnX0_add_ok _ _ cx13) (by decide) rfl (Nat.le_of_ble_eq_true rfl) (Nat.le_of_ble_eq_true rfl) rfl rfl ?_
        refine gb_goto (tgt := 269) dX0_addScaled_249 (by decide) ?_
        exact gb_wk (fbX0_addScaled_269_ok h14 r hF) trivial
      · replace hF := gb_ifF c11 hF
        refine gb_tswOut (tgt := 252) dX0_addScaled_166 (gb_swo3 c3 c7 c11) (by decide) ?_
        refine gb_aload_n dX0_addScaled_252 rfl rfl ?_
        refine gb_iload_n dX0_addScaled_253 rfl rfl ?_
        refine gb_iload dX0_addScaled_254 rfl ?_
        refine gb_lload dX0_addScaled_256 rfl ?_
        refine gb_lload dX0_addScaled_258 rfl ?_
        refine gb_lload dX0_addScaled_260 rfl ?_
        refine gb_lneg dX0_addScaled_262 ?_
        refine gb_lload dX0_addScaled_263 rfl ?_
        refine gb_lneg dX0_addScaled_265 ?_
        obtain ⟨g15, hF⟩ := gb_gdE hF
        obtain ⟨x16, h17, cx16, hF⟩ := gb_bdE hF
        refine gb_cV (As := [.int v1, .int v8, .long v16, .long x1, .long (-v12), .long (-v14)]) (S := []) (v := none) (h1 := h17) (S2 := []) cf0 dX0_addScaled_266 mtX0_add lX0_64 inX0_add seX0_add (gb_kE g15) (fnX0_add_ok _ _ cx16) (by decide) rfl (Nat.le_of_ble_eq_true rfl) (Nat.le_of_ble_eq_true rfl) rfl rfl ?_
        exact gb_wk (fbX0_addScaled_269_ok h17 r hF) trivial
def fbX0_addScaled_130 (v0 : Nat) (v1 : Int32) (v5 : Int32) (v6 : Nat) (v7 : Int32) (v8 : Int32) (v9 : Int64) (v11 : Int32) (v12 : Int64) (v14 : Int64) (s0 : Int64) (s1 : Int64) (h : gb_H) : Option (Unit × gb_H) :=
  gb_lt (s0 * s1) fun x1 =>
  if v11 = 0 then
    gb_gd (gb_k h v6 0) <|
    gb_rd (gb_R h v6 5) fun a4 =>
    gb_gd (gb_k h a4 23) <|
    gb_gd (gb_in h a4 v7) <|
    fbX0_addScaled_159 v0 v1 v5 v8 v12 v14 x1 v9 (gb_L h a4 v7.toNatClampNeg) h
  else
    gb_gd (gb_k h v6 0) <|
    gb_rd (gb_R h v6 4) fun a8 =>
    gb_gd (gb_k h a8 23) <|
    gb_gd (gb_in h a8 v7) <|
    fbX0_addScaled_159 v0 v1 v5 v8 v12 v14 x1 v9 (gb_L h a8 v7.toNatClampNeg) h
theorem fbX0_addScaled_130_ok {X : gb_X} (v0 : Nat) (v1 : Int32) (v5 : Int32) (v6 : Nat) (v7 : Int32) (v8 : Int32) (v9 : Int64) (v11 : Int32) (v12 : Int64) (v14 : Int64) (s0 : Int64) (s1 : Int64) (h : gb_H) (r : Unit × gb_H) (hF : fbX0_addScaled_130 v0 v1 v5 v6 v7 v8 v9 v11 v12 v14 s0 s1 h = some r) : gb_Ev X 2 mX0_addScaled 130 [some (.ref v0), some (.int v1), none, none, none, some (.int v5), some (.ref v6), some (.int v7), some (.int v8), some (.long v9), none, some (.int v11), some (.long v12), none, some (.long v14), none, none, none, none, none] [.long s1, .long s0] h (gb_wV r) := by
  unfold fbX0_addScaled_130 at hF
  refine gb_lmul dX0_addScaled_130 ?_
  obtain ⟨x1, ex1, hF⟩ := gb_ltE hF
  refine gb_topJ ex1 ?_
  refine gb_lstore (L' := [some (.ref v0), some (.int v1), none, none, none, some (.int v5), some (.ref v6), some (.int v7), some (.int v8), some (.long v9), none, some (.int v11), some (.long v12), none, some (.long v14), none, some (.long x1), none, none, none]) dX0_addScaled_131 (by decide) rfl rfl ?_
  refine gb_lload dX0_addScaled_133 rfl ?_
  refine gb_iload dX0_addScaled_135 rfl ?_
  refine gb_if_eq (tgt := 151) dX0_addScaled_137 (by decide) (fun c2 => ?_) (fun c2 => ?_)
  · replace hF := gb_ifT c2 hF
    refine gb_aload dX0_addScaled_151 rfl ?_
    obtain ⟨g3, hF⟩ := gb_gdE hF
    obtain ⟨a4, ea4, hF⟩ := gb_rdE hF
    refine gb_getR fX0_29 dX0_addScaled_153 (gb_kE g3) ea4 ?_
    refine gb_iload dX0_addScaled_156 rfl ?_
    obtain ⟨g5, hF⟩ := gb_gdE hF
    obtain ⟨g6, hF⟩ := gb_gdE hF
    refine gb_lald dX0_addScaled_158 (gb_kE g5) (gb_inE g6) ?_
    exact gb_wk (fbX0_addScaled_159_ok v0 v1 v5 v8 v12 v14 x1 v9 (gb_L h a4 v7.toNatClampNeg) h r hF) (And.intro rfl (And.intro rfl (And.intro rfl (And.intro rfl (And.intro rfl (And.intro rfl (And.intro rfl trivial)))))))
  · replace hF := gb_ifF c2 hF
    refine gb_aload dX0_addScaled_140 rfl ?_
    obtain ⟨g7, hF⟩ := gb_gdE hF
    obtain ⟨a8, ea8, hF⟩ := gb_rdE hF
    refine gb_getR fX0_26 dX0_addScaled_142 (gb_kE g7) ea8 ?_
    refine gb_iload dX0_addScaled_145 rfl ?_
    obtain ⟨g9, hF⟩ := gb_gdE hF
    obtain ⟨g10, hF⟩ := gb_gdE hF
    refine gb_lald dX0_addScaled_147 (gb_kE g9) (gb_inE g10) ?_
    refine gb_goto (tgt := 159) dX0_addScaled_148 (by decide) ?_
    exact gb_wk (fbX0_addScaled_159_ok v0 v1 v5 v8 v12 v14 x1 v9 (gb_L h a8 v7.toNatClampNeg) h r hF) (And.intro rfl (And.intro rfl (And.intro rfl (And.intro rfl (And.intro rfl (And.intro rfl (And.intro rfl trivial)))))))
def fbX0_addScaled_97 (v0 : Nat) (v1 : Int32) (v5 : Int32) (v6 : Nat) (v7 : Int32) (v8 : Int32) (v9 : Int64) (v11 : Int32) (v12 : Int64) (s0 : Int64) (s1 : Int64) (h : gb_H) : Option (Unit × gb_H) :=
  gb_lt (s0 * s1) fun x1 =>
  if v11 = 0 then
    gb_gd (gb_k h v6 0) <|
    gb_rd (gb_R h v6 4) fun a4 =>
    gb_gd (gb_k h a4 23) <|
    gb_gd (gb_in h a4 v7) <|
    fbX0_addScaled_130 v0 v1 v5 v6 v7 v8 v9 v11 v12 x1 v9 (gb_L h a4 v7.toNatClampNeg) h
  else
    gb_gd (gb_k h v6 0) <|
    gb_rd (gb_R h v6 5) fun a8 =>
    gb_gd (gb_k h a8 23) <|
    gb_gd (gb_in h a8 v7) <|
    fbX0_addScaled_130 v0 v1 v5 v6 v7 v8 v9 v11 v12 x1 v9 ((2 : Int64) * (gb_L h a8 v7.toNatClampNeg)) h
theorem fbX0_addScaled_97_ok {X : gb_X} (v0 : Nat) (v1 : Int32) (v5 : Int32) (v6 : Nat) (v7 : Int32) (v8 : Int32) (v9 : Int64) (v11 : Int32) (v12 : Int64) (s0 : Int64) (s1 : Int64) (h : gb_H) (r : Unit × gb_H) (hF : fbX0_addScaled_97 v0 v1 v5 v6 v7 v8 v9 v11 v12 s0 s1 h = some r) : gb_Ev X 2 mX0_addScaled 97 [some (.ref v0), some (.int v1), none, none, none, some (.int v5), some (.ref v6), some (.int v7), some (.int v8), some (.long v9), none, some (.int v11), some (.long v12), none, none, none, none, none, none, none] [.long s1, .long s0] h (gb_wV r) := by
  unfold fbX0_addScaled_97 at hF
  refine gb_lmul dX0_addScaled_97 ?_
  obtain ⟨x1, ex1, hF⟩ := gb_ltE hF
  refine gb_topJ ex1 ?_
  refine gb_lstore (L' := [some (.ref v0), some (.int v1), none, none, none, some (.int v5), some (.ref v6), some (.int v7), some (.int v8), some (.long v9), none, some (.int v11), some (.long v12), none, some (.long x1), none, none, none, none, none]) dX0_addScaled_98 (by decide) rfl rfl ?_
  refine gb_lload dX0_addScaled_100 rfl ?_
  refine gb_iload dX0_addScaled_102 rfl ?_
  refine gb_if_eq (tgt := 122) dX0_addScaled_104 (by decide) (fun c2 => ?_) (fun c2 => ?_)
  · replace hF := gb_ifT c2 hF
    refine gb_aload dX0_addScaled_122 rfl ?_
    obtain ⟨g3, hF⟩ := gb_gdE hF
    obtain ⟨a4, ea4, hF⟩ := gb_rdE hF
    refine gb_getR fX0_26 dX0_addScaled_124 (gb_kE g3) ea4 ?_
    refine gb_iload dX0_addScaled_127 rfl ?_
    obtain ⟨g5, hF⟩ := gb_gdE hF
    obtain ⟨g6, hF⟩ := gb_gdE hF
    refine gb_lald dX0_addScaled_129 (gb_kE g5) (gb_inE g6) ?_
    exact gb_wk (fbX0_addScaled_130_ok v0 v1 v5 v6 v7 v8 v9 v11 v12 x1 v9 (gb_L h a4 v7.toNatClampNeg) h r hF) (And.intro rfl (And.intro rfl (And.intro rfl (And.intro rfl (And.intro rfl (And.intro rfl (And.intro rfl (And.intro rfl (And.intro rfl (And.intro rfl trivial))))))))))
  · replace hF := gb_ifF c2 hF
    refine gb_ldc2 (v := (2 : Int64)) dX0_addScaled_107 kX0_127 ?_
    refine gb_aload dX0_addScaled_110 rfl ?_
    obtain ⟨g7, hF⟩ := gb_gdE hF
    obtain ⟨a8, ea8, hF⟩ := gb_rdE hF
    refine gb_getR fX0_29 dX0_addScaled_112 (gb_kE g7) ea8 ?_
    refine gb_iload dX0_addScaled_115 rfl ?_
    obtain ⟨g9, hF⟩ := gb_gdE hF
    obtain ⟨g10, hF⟩ := gb_gdE hF
    refine gb_lald dX0_addScaled_117 (gb_kE g9) (gb_inE g10) ?_
    refine gb_lmul dX0_addScaled_118 ?_
    refine gb_goto (tgt := 130) dX0_addScaled_119 (by decide) ?_
    exact gb_wk (fbX0_addScaled_130_ok v0 v1 v5 v6 v7 v8 v9 v11 v12 x1 v9 ((2 : Int64) * (gb_L h a8 v7.toNatClampNeg)) h r hF) (And.intro rfl (And.intro rfl (And.intro rfl (And.intro rfl (And.intro rfl (And.intro rfl (And.intro rfl (And.intro rfl (And.intro rfl (And.intro rfl trivial))))))))))
def fbX0_addScaled_68 (v0 : Nat) (v1 : Int32) (v5 : Int32) (v6 : Nat) (v7 : Int32) (v8 : Int32) (v9 : Int64) (v11 : Int32) (s0 : Int64) (s1 : Int64) (h : gb_H) : Option (Unit × gb_H) :=
  gb_lt (s0 * s1) fun x1 =>
  if v11 = 0 then
    gb_gd (gb_k h v6 0) <|
    gb_rd (gb_R h v6 3) fun a4 =>
    gb_gd (gb_k h a4 23) <|
    gb_gd (gb_in h a4 v7) <|
    fbX0_addScaled_97 v0 v1 v5 v6 v7 v8 v9 v11 x1 v9 (gb_L h a4 v7.toNatClampNeg) h
  else
    gb_gd (gb_k h v6 0) <|
    gb_rd (gb_R h v6 2) fun a8 =>
    gb_gd (gb_k h a8 23) <|
    gb_gd (gb_in h a8 v7) <|
    fbX0_addScaled_97 v0 v1 v5 v6 v7 v8 v9 v11 x1 v9 (gb_L h a8 v7.toNatClampNeg) h
theorem fbX0_addScaled_68_ok {X : gb_X} (v0 : Nat) (v1 : Int32) (v5 : Int32) (v6 : Nat) (v7 : Int32) (v8 : Int32) (v9 : Int64) (v11 : Int32) (s0 : Int64) (s1 : Int64) (h : gb_H) (r : Unit × gb_H) (hF : fbX0_addScaled_68 v0 v1 v5 v6 v7 v8 v9 v11 s0 s1 h = some r) : gb_Ev X 2 mX0_addScaled 68 [some (.ref v0), some (.int v1), none, none, none, some (.int v5), some (.ref v6), some (.int v7), some (.int v8), some (.long v9), none, some (.int v11), none, none, none, none, none, none, none, none] [.long s1, .long s0] h (gb_wV r) := by
  unfold fbX0_addScaled_68 at hF
  refine gb_lmul dX0_addScaled_68 ?_
  obtain ⟨x1, ex1, hF⟩ := gb_ltE hF
  refine gb_topJ ex1 ?_
  refine gb_lstore (L' := [some (.ref v0), some (.int v1), none, none, none, some (.int v5), some (.ref v6), some (.int v7), some (.int v8), some (.long v9), none, some (.int v11), some (.long x1), none, none, none, none, none, none, none]) dX0_addScaled_69 (by decide) rfl rfl ?_
  refine gb_lload dX0_addScaled_71 rfl ?_
  refine gb_iload dX0_addScaled_73 rfl ?_
  refine gb_if_eq (tgt := 89) dX0_addScaled_75 (by decide) (fun c2 => ?_) (fun c2 => ?_)
  · replace hF := gb_ifT c2 hF
    refine gb_aload dX0_addScaled_89 rfl ?_
    obtain ⟨g3, hF⟩ := gb_gdE hF
    obtain ⟨a4, ea4, hF⟩ := gb_rdE hF
    refine gb_getR fX0_23 dX0_addScaled_91 (gb_kE g3) ea4 ?_
    refine gb_iload dX0_addScaled_94 rfl ?_
    obtain ⟨g5, hF⟩ := gb_gdE hF
    obtain ⟨g6, hF⟩ := gb_gdE hF
    refine gb_lald dX0_addScaled_96 (gb_kE g5) (gb_inE g6) ?_
    exact gb_wk (fbX0_addScaled_97_ok v0 v1 v5 v6 v7 v8 v9 v11 x1 v9 (gb_L h a4 v7.toNatClampNeg) h r hF) (And.intro rfl (And.intro rfl (And.intro rfl (And.intro rfl (And.intro rfl (And.intro rfl (And.intro rfl (And.intro rfl (And.intro rfl trivial)))))))))
  · replace hF := gb_ifF c2 hF
    refine gb_aload dX0_addScaled_78 rfl ?_
    obtain ⟨g7, hF⟩ := gb_gdE hF
    obtain ⟨a8, ea8, hF⟩ := gb_rdE hF
    refine gb_getR fX0_19 dX0_addScaled_80 (gb_kE g7) ea8 ?_
    refine gb_iload dX0_addScaled_83 rfl ?_
    obtain ⟨g9, hF⟩ := gb_gdE hF
    obtain ⟨g10, hF⟩ := gb_gdE hF
    refine gb_lald dX0_addScaled_85 (gb_kE g9) (gb_inE g10) ?_
    refine gb_goto (tgt := 97) dX0_addScaled_86 (by decide) ?_
    exact gb_wk (fbX0_addScaled_97_ok v0 v1 v5 v6 v7 v8 v9 v11 x1 v9 (gb_L h a8 v7.toNatClampNeg) h r hF) (And.intro rfl (And.intro rfl (And.intro rfl (And.intro rfl (And.intro rfl (And.intro rfl (And.intro rfl (And.intro rfl (And.intro rfl trivial)))))))))
def fbX0_addScaled_36 (v0 : Nat) (v1 : Int32) (v5 : Int32) (v6 : Nat) (v7 : Int32) (v8 : Int32) (v9 : Int64) (s0 : Int32) (h : gb_H) : Option (Unit × gb_H) :=
  if s0 = 0 then
    gb_gd (gb_k h v6 0) <|
    gb_rd (gb_R h v6 2) fun a3 =>
    gb_gd (gb_k h a3 23) <|
    gb_gd (gb_in h a3 v7) <|
    fbX0_addScaled_68 v0 v1 v5 v6 v7 v8 v9 s0 v9 (gb_L h a3 v7.toNatClampNeg) h
  else
    gb_gd (gb_k h v6 0) <|
    gb_rd (gb_R h v6 3) fun a7 =>
    gb_gd (gb_k h a7 23) <|
    gb_gd (gb_in h a7 v7) <|
    fbX0_addScaled_68 v0 v1 v5 v6 v7 v8 v9 s0 v9 ((2 : Int64) * (gb_L h a7 v7.toNatClampNeg)) h
theorem fbX0_addScaled_36_ok {X : gb_X} (v0 : Nat) (v1 : Int32) (v5 : Int32) (v6 : Nat) (v7 : Int32) (v8 : Int32) (v9 : Int64) (s0 : Int32) (h : gb_H) (r : Unit × gb_H) (hF : fbX0_addScaled_36 v0 v1 v5 v6 v7 v8 v9 s0 h = some r) : gb_Ev X 2 mX0_addScaled 36 [some (.ref v0), some (.int v1), none, none, none, some (.int v5), some (.ref v6), some (.int v7), some (.int v8), some (.long v9), none, none, none, none, none, none, none, none, none, none] [.int s0] h (gb_wV r) := by
  unfold fbX0_addScaled_36 at hF
  refine gb_istore (L' := [some (.ref v0), some (.int v1), none, none, none, some (.int v5), some (.ref v6), some (.int v7), some (.int v8), some (.long v9), none, some (.int s0), none, none, none, none, none, none, none, none]) dX0_addScaled_36 (by decide) rfl rfl ?_
  refine gb_lload dX0_addScaled_38 rfl ?_
  refine gb_iload dX0_addScaled_40 rfl ?_
  refine gb_if_eq (tgt := 60) dX0_addScaled_42 (by decide) (fun c1 => ?_) (fun c1 => ?_)
  · replace hF := gb_ifT c1 hF
    refine gb_aload dX0_addScaled_60 rfl ?_
    obtain ⟨g2, hF⟩ := gb_gdE hF
    obtain ⟨a3, ea3, hF⟩ := gb_rdE hF
    refine gb_getR fX0_19 dX0_addScaled_62 (gb_kE g2) ea3 ?_
    refine gb_iload dX0_addScaled_65 rfl ?_
    obtain ⟨g4, hF⟩ := gb_gdE hF
    obtain ⟨g5, hF⟩ := gb_gdE hF
    refine gb_lald dX0_addScaled_67 (gb_kE g4) (gb_inE g5) ?_
    exact gb_wk (fbX0_addScaled_68_ok v0 v1 v5 v6 v7 v8 v9 s0 v9 (gb_L h a3 v7.toNatClampNeg) h r hF) (And.intro rfl (And.intro rfl (And.intro rfl (And.intro rfl (And.intro rfl (And.intro rfl (And.intro rfl (And.intro rfl trivial))))))))
  · replace hF := gb_ifF c1 hF
    refine gb_ldc2 (v := (2 : Int64)) dX0_addScaled_45 kX0_127 ?_
    refine gb_aload dX0_addScaled_48 rfl ?_
    obtain ⟨g6, hF⟩ := gb_gdE hF
    obtain ⟨a7, ea7, hF⟩ := gb_rdE hF
    refine gb_getR fX0_23 dX0_addScaled_50 (gb_kE g6) ea7 ?_
    refine gb_iload dX0_addScaled_53 rfl ?_
    obtain ⟨g8, hF⟩ := gb_gdE hF
    obtain ⟨g9, hF⟩ := gb_gdE hF
    refine gb_lald dX0_addScaled_55 (gb_kE g8) (gb_inE g9) ?_
    refine gb_lmul dX0_addScaled_56 ?_
    refine gb_goto (tgt := 68) dX0_addScaled_57 (by decide) ?_
    exact gb_wk (fbX0_addScaled_68_ok v0 v1 v5 v6 v7 v8 v9 s0 v9 ((2 : Int64) * (gb_L h a7 v7.toNatClampNeg)) h r hF) (And.intro rfl (And.intro rfl (And.intro rfl (And.intro rfl (And.intro rfl (And.intro rfl (And.intro rfl (And.intro rfl trivial))))))))
def fbX0_addScaled_21 (v0 : Nat) (v1 : Int32) (v4 : Int32) (v5 : Int32) (v6 : Nat) (v7 : Int32) (v8 : Int32) (s0 : Int64) (h : gb_H) : Option (Unit × gb_H) :=
  if (v4 &&& (1 : Int32)) = (1 : Int32) then
    fbX0_addScaled_36 v0 v1 v5 v6 v7 v8 s0 (1 : Int32) h
  else
    fbX0_addScaled_36 v0 v1 v5 v6 v7 v8 s0 (0 : Int32) h
theorem fbX0_addScaled_21_ok {X : gb_X} (v0 : Nat) (v1 : Int32) (v4 : Int32) (v5 : Int32) (v6 : Nat) (v7 : Int32) (v8 : Int32) (s0 : Int64) (h : gb_H) (r : Unit × gb_H) (hF : fbX0_addScaled_21 v0 v1 v4 v5 v6 v7 v8 s0 h = some r) : gb_Ev X 2 mX0_addScaled 21 [some (.ref v0), some (.int v1), none, none, some (.int v4), some (.int v5), some (.ref v6), some (.int v7), some (.int v8), none, none, none, none, none, none, none, none, none, none, none] [.long s0] h (gb_wV r) := by
  unfold fbX0_addScaled_21 at hF
  refine gb_lstore (L' := [some (.ref v0), some (.int v1), none, none, some (.int v4), some (.int v5), some (.ref v6), some (.int v7), some (.int v8), some (.long s0), none, none, none, none, none, none, none, none, none, none]) dX0_addScaled_21 (by decide) rfl rfl ?_
  refine gb_iload dX0_addScaled_23 rfl ?_
  refine gb_iconst (v := (1 : Int32)) dX0_addScaled_25 (by decide) ?_
  refine gb_iand dX0_addScaled_26 ?_
  refine gb_iconst (v := (1 : Int32)) dX0_addScaled_27 (by decide) ?_
  refine gb_icmp_ne (tgt := 35) dX0_addScaled_28 (by decide) (fun c1 => ?_) (fun c1 => ?_)
  · replace hF := gb_ifF c1 hF
    refine gb_iconst (v := (0 : Int32)) dX0_addScaled_35 (by decide) ?_
    exact gb_wk (fbX0_addScaled_36_ok v0 v1 v5 v6 v7 v8 s0 (0 : Int32) h r hF) (And.intro rfl (And.intro rfl (And.intro rfl (And.intro rfl (And.intro rfl (And.intro rfl (And.intro rfl trivial)))))))
  · replace hF := gb_ifT c1 hF
    refine gb_iconst (v := (1 : Int32)) dX0_addScaled_31 (by decide) ?_
    refine gb_goto (tgt := 36) dX0_addScaled_32 (by decide) ?_
    exact gb_wk (fbX0_addScaled_36_ok v0 v1 v5 v6 v7 v8 s0 (1 : Int32) h r hF) (And.intro rfl (And.intro rfl (And.intro rfl (And.intro rfl (And.intro rfl (And.intro rfl (And.intro rfl trivial)))))))
def fnX0_addScaled (p0 : Nat) (p1 : Int32) (p2 : Int64) (p3 : Int32) (p4 : Int32) (p5 : Nat) (p6 : Int32) (h : gb_H) : Option (Unit × gb_H) :=
  gb_bd (fnX0_placeOfKey p1 h) fun x1 h2 =>
  if p3 < (2 : Int32) then
    fbX0_addScaled_21 p0 p1 p3 p4 p5 p6 x1 p2 h2
  else
    fbX0_addScaled_21 p0 p1 p3 p4 p5 p6 x1 ((2 : Int64) * p2) h2
theorem fnX0_addScaled_ok {X : gb_X}  {p0 : Nat} {p1 : Int32} {p2 : Int64} {p3 : Int32} {p4 : Int32} {p5 : Nat} {p6 : Int32} (h : gb_H) (r : Unit × gb_H) (hF : fnX0_addScaled p0 p1 p2 p3 p4 p5 p6 h = some r) : gb_Ev X 2 mX0_addScaled 0 (gb_L0 [.ref p0, .int p1, .long p2, .int p3, .int p4, .ref p5, .int p6]) [] h (gb_wV r) := by
  unfold fnX0_addScaled at hF
  refine gb_weak (L' := [some (.ref p0), some (.int p1), some (.long p2), none, some (.int p3), some (.int p4), some (.ref p5), some (.int p6), none, none, none, none, none, none, none, none, none, none, none, none]) (And.intro rfl (And.intro rfl (And.intro rfl (And.intro rfl (And.intro rfl (And.intro rfl (And.intro rfl trivial))))))) ?_
  refine gb_iload_n dX0_addScaled_0 rfl rfl ?_
  obtain ⟨x1, h2, cx1, hF⟩ := gb_bdE hF
  refine gb_cS (As := [.int p1]) (S := []) (v := some (.int x1)) (h1 := h2) (S2 := [.int x1]) dX0_addScaled_1 mtX0_placeOfKey lX0_58 stX0_placeOfKey (fnX0_placeOfKey_ok _ _ cx1) (by decide) rfl (Nat.le_of_ble_eq_true rfl) (Nat.le_of_ble_eq_true rfl) rfl rfl ?_
  refine gb_istore (L' := [some (.ref p0), some (.int p1), some (.long p2), none, some (.int p3), some (.int p4), some (.ref p5), some (.int p6), some (.int x1), none, none, none, none, none, none, none, none, none, none, none]) dX0_addScaled_4 (by decide) rfl rfl ?_
  refine gb_iload dX0_addScaled_6 rfl ?_
  refine gb_iconst (v := (2 : Int32)) dX0_addScaled_8 (by decide) ?_
  refine gb_icmp_lt (tgt := 20) dX0_addScaled_9 (by decide) (fun c3 => ?_) (fun c3 => ?_)
  · replace hF := gb_ifT c3 hF
    refine gb_lload_n dX0_addScaled_20 rfl rfl ?_
    exact gb_wk (fbX0_addScaled_21_ok p0 p1 p3 p4 p5 p6 x1 p2 h2 r hF) (And.intro rfl (And.intro rfl (And.intro rfl (And.intro rfl (And.intro rfl (And.intro rfl (And.intro rfl trivial)))))))
  · replace hF := gb_ifF c3 hF
    refine gb_ldc2 (v := (2 : Int64)) dX0_addScaled_12 kX0_127 ?_
    refine gb_lload_n dX0_addScaled_15 rfl rfl ?_
    refine gb_lmul dX0_addScaled_16 ?_
    refine gb_goto (tgt := 21) dX0_addScaled_17 (by decide) ?_
    exact gb_wk (fbX0_addScaled_21_ok p0 p1 p3 p4 p5 p6 x1 ((2 : Int64) * p2) h2 r hF) (And.intro rfl (And.intro rfl (And.intro rfl (And.intro rfl (And.intro rfl (And.intro rfl (And.intro rfl trivial)))))))
def fbX0_spread_98 (k76 : Nat → Nat → Nat → Int32 → Int32 → Int32 → Int32 → Int32 → Int32 → Int32 → gb_H → Option (Unit × gb_H)) (k87 : Nat → Nat → Nat → Int32 → Int32 → Int32 → Int32 → Int32 → Int32 → Int32 → Int32 → gb_H → Option (Unit × gb_H)) (k98 : Nat → Nat → Nat → Int32 → Int32 → Int32 → Int32 → Int32 → Int32 → Int32 → Int32 → Int32 → gb_H → Option (Unit × gb_H)) (v0 : Nat) (v2 : Nat) (v3 : Nat) (v4 : Int32) (v6 : Int32) (v7 : Int32) (v8 : Int32) (v9 : Int32) (v10 : Int32) (v11 : Int32) (v12 : Int32) (v13 : Int32) (h : gb_H) : Option (Unit × gb_H) :=
  if v10 ≤ v13 then
    gb_lt (v12 + (1 : Int32)) fun x2 =>
    k87 v0 v2 v3 v4 v6 v7 v8 v9 v10 v11 x2 h
  else
    gb_gd (gb_k h v2 4) <|
    gb_rd (gb_R h v2 1) fun a4 =>
    gb_gd (gb_k h a4 20) <|
    gb_gd (gb_in h a4 v11) <|
    gb_gd (gb_k h v2 4) <|
    gb_rd (gb_R h v2 1) fun a8 =>
    gb_gd (gb_k h a8 20) <|
    gb_gd (gb_in h a8 v12) <|
    gb_gd (gb_k h v2 4) <|
    gb_rd (gb_R h v2 1) fun a12 =>
    gb_gd (gb_k h a12 20) <|
    gb_gd (gb_in h a12 v13) <|
    gb_bd (fnX0_keyOf (gb_I h a4 v11.toNatClampNeg) (gb_I h a8 v12.toNatClampNeg) (gb_I h a12 v13.toNatClampNeg) h) fun x15 h16 =>
    gb_gd (gb_k h16 v2 4) <|
    gb_rd (gb_R h16 v2 2) fun a18 =>
    gb_gd (gb_k h16 a18 20) <|
    gb_gd (gb_in h16 a18 v11) <|
    gb_gd (gb_k h16 v2 4) <|
    gb_rd (gb_R h16 v2 2) fun a22 =>
    gb_gd (gb_k h16 a22 20) <|
    gb_gd (gb_in h16 a22 v12) <|
    gb_gd (gb_k h16 v2 4) <|
    gb_rd (gb_R h16 v2 2) fun a26 =>
    gb_gd (gb_k h16 a26 20) <|
    gb_gd (gb_in h16 a26 v13) <|
    gb_lt ((((gb_I h16 a18 v11.toNatClampNeg) * (gb_I h16 a22 v12.toNatClampNeg)) * (gb_I h16 a26 v13.toNatClampNeg)).toInt64) fun x29 =>
    gb_gd (gb_k h16 v2 4) <|
    gb_rd (gb_R h16 v2 3) fun a31 =>
    gb_gd (gb_k h16 a31 20) <|
    gb_gd (gb_in h16 a31 v11) <|
    gb_gd (gb_k h16 v2 4) <|
    gb_rd (gb_R h16 v2 3) fun a35 =>
    gb_gd (gb_k h16 a35 20) <|
    gb_gd (gb_in h16 a35 v12) <|
    gb_gd (gb_k h16 v2 4) <|
    gb_rd (gb_R h16 v2 3) fun a39 =>
    gb_gd (gb_k h16 a39 20) <|
    gb_gd (gb_in h16 a39 v13) <|
    gb_lt (((gb_I h16 a31 v11.toNatClampNeg) + (gb_I h16 a35 v12.toNatClampNeg)) + (gb_I h16 a39 v13.toNatClampNeg)) fun x42 =>
    gb_gd (gb_k h16 v2 4) <|
    gb_rd (gb_R h16 v2 4) fun a44 =>
    gb_gd (gb_k h16 a44 20) <|
    gb_gd (gb_in h16 a44 v11) <|
    gb_gd (gb_k h16 v2 4) <|
    gb_rd (gb_R h16 v2 4) fun a48 =>
    gb_gd (gb_k h16 a48 20) <|
    gb_gd (gb_in h16 a48 v12) <|
    gb_gd (gb_k h16 v2 4) <|
    gb_rd (gb_R h16 v2 4) fun a52 =>
    gb_gd (gb_k h16 a52 20) <|
    gb_gd (gb_in h16 a52 v13) <|
    gb_lt (((gb_I h16 a44 v11.toNatClampNeg) + (gb_I h16 a48 v12.toNatClampNeg)) + (gb_I h16 a52 v13.toNatClampNeg)) fun x55 =>
    gb_gd (gb_k h16 v3 0) <|
    gb_bd (fnX0_addScaled v3 x15 x29 x42 x55 v0 v4 h16) fun _ h58 =>
    gb_lt (v13 + (1 : Int32)) fun x59 =>
    k98 v0 v2 v3 v4 v6 v7 v8 v9 v10 v11 v12 x59 h58
theorem fbX0_spread_98_ok {X : gb_X} {k76 : Nat → Nat → Nat → Int32 → Int32 → Int32 → Int32 → Int32 → Int32 → Int32 → gb_H → Option (Unit × gb_H)} {k87 : Nat → Nat → Nat → Int32 → Int32 → Int32 → Int32 → Int32 → Int32 → Int32 → Int32 → gb_H → Option (Unit × gb_H)} {k98 : Nat → Nat → Nat → Int32 → Int32 → Int32 → Int32 → Int32 → Int32 → Int32 → Int32 → Int32 → gb_H → Option (Unit × gb_H)} (hk76 : ∀ v0 v2 v3 v4 v6 v7 v8 v9 v10 v11 h r, k76 v0 v2 v3 v4 v6 v7 v8 v9 v10 v11 h = some r → gb_Ev X 3 mX0_spread 76 [some (.ref v0), none, some (.ref v2), some (.ref v3), some (.int v4), none, some (.int v6), some (.int v7), some (.int v8), some (.int v9), some (.int v10), some (.int v11), none, none, none, none, none, none, none] [] h (gb_wV r)) (hk87 : ∀ v0 v2 v3 v4 v6 v7 v8 v9 v10 v11 v12 h r, k87 v0 v2 v3 v4 v6 v7 v8 v9 v10 v11 v12 h = some r → gb_Ev X 3 mX0_spread 87 [some (.ref v0), none, some (.ref v2), some (.ref v3), some (.int v4), none, some (.int v6), some (.int v7), some (.int v8), some (.int v9), some (.int v10), some (.int v11), some (.int v12), none, none, none, none, none, none] [] h (gb_wV r)) (hk98 : ∀ v0 v2 v3 v4 v6 v7 v8 v9 v10 v11 v12 v13 h r, k98 v0 v2 v3 v4 v6 v7 v8 v9 v10 v11 v12 v13 h = some r → gb_Ev X 3 mX0_spread 98 [some (.ref v0), none, some (.ref v2), some (.ref v3), some (.int v4), none, some (.int v6), some (.int v7), some (.int v8), some (.int v9), some (.int v10), some (.int v11), some (.int v12), some (.int v13), none, none, none, none, none] [] h (gb_wV r)) (v0 : Nat) (v2 : Nat) (v3 : Nat) (v4 : Int32) (v6 : Int32) (v7 : Int32) (v8 : Int32) (v9 : Int32) (v10 : Int32) (v11 : Int32) (v12 : Int32) (v13 : Int32) (h : gb_H) (r : Unit × gb_H) (hF : fbX0_spread_98 k76 k87 k98 v0 v2 v3 v4 v6 v7 v8 v9 v10 v11 v12 v13 h = some r) : gb_Ev X 3 mX0_spread 98 [some (.ref v0), none, some (.ref v2), some (.ref v3), some (.int v4), none, some (.int v6), some (.int v7), some (.int v8), some (.int v9), some (.int v10), some (.int v11), some (.int v12), some (.int v13), none, none, none, none, none] [] h (gb_wV r) := by
  unfold fbX0_spread_98 at hF
  refine gb_iload dX0_spread_98 rfl ?_
  refine gb_iload dX0_spread_100 rfl ?_
  refine gb_icmp_ge (tgt := 228) dX0_spread_102 (by decide) (fun c1 => ?_) (fun c1 => ?_)
  · replace hF := gb_ifT c1 hF
    obtain ⟨x2, ex2, hF⟩ := gb_ltE hF
    refine gb_iinc (v := x2) (L' := [some (.ref v0), none, some (.ref v2), some (.ref v3), some (.int v4), none, some (.int v6), some (.int v7), some (.int v8), some (.int v9), some (.int v10), some (.int v11), some (.int x2), some (.int v13), none, none, none, none, none]) dX0_spread_228 rfl (by rw [ex2]; rfl) (by decide) rfl rfl ?_
    refine gb_goto (tgt := 87) dX0_spread_231 (by decide) ?_
    exact gb_wk (hk87 v0 v2 v3 v4 v6 v7 v8 v9 v10 v11 x2 h r hF) (And.intro rfl (And.intro rfl (And.intro rfl (And.intro rfl (And.intro rfl (And.intro rfl (And.intro rfl (And.intro rfl (And.intro rfl (And.intro rfl (And.intro rfl trivial)))))))))))
  · replace hF := gb_ifF c1 hF
    refine gb_aload_n dX0_spread_105 rfl rfl ?_
    obtain ⟨g3, hF⟩ := gb_gdE hF
    obtain ⟨a4, ea4, hF⟩ := gb_rdE hF
    refine gb_getR fX0_115 dX0_spread_106 (gb_kE g3) ea4 ?_
    refine gb_iload dX0_spread_109 rfl ?_
    obtain ⟨g5, hF⟩ := gb_gdE hF
    obtain ⟨g6, hF⟩ := gb_gdE hF
    refine gb_iald dX0_spread_111 (gb_kE g5) (gb_inE g6) ?_
    refine gb_aload_n dX0_spread_112 rfl rfl ?_
    obtain ⟨g7, hF⟩ := gb_gdE hF
    obtain ⟨a8, ea8, hF⟩ := gb_rdE hF
    refine gb_getR fX0_115 dX0_spread_113 (gb_kE g7) ea8 ?_
    refine gb_iload dX0_spread_116 rfl ?_
    obtain ⟨g9, hF⟩ := gb_gdE hF
    obtain ⟨g10, hF⟩ := gb_gdE hF
    refine gb_iald dX0_spread_118 (gb_kE g9) (gb_inE g10) ?_
    refine gb_aload_n dX0_spread_119 rfl rfl ?_
    obtain ⟨g11, hF⟩ := gb_gdE hF
    obtain ⟨a12, ea12, hF⟩ := gb_rdE hF
    refine gb_getR fX0_115 dX0_spread_120 (gb_kE g11) ea12 ?_
    refine gb_iload dX0_spread_123 rfl ?_
    obtain ⟨g13, hF⟩ := gb_gdE hF
    obtain ⟨g14, hF⟩ := gb_gdE hF
    refine gb_iald dX0_spread_125 (gb_kE g13) (gb_inE g14) ?_
    obtain ⟨x15, h16, cx15, hF⟩ := gb_bdE hF
    refine gb_cS (As := [.int (gb_I h a4 v11.toNatClampNeg), .int (gb_I h a8 v12.toNatClampNeg), .int (gb_I h a12 v13.toNatClampNeg)]) (S := []) (v := some (.int x15)) (h1 := h16) (S2 := [.int x15]) dX0_spread_126 mtX0_keyOf lX0_54 stX0_keyOf (fnX0_keyOf_ok _ _ cx15) (by decide) rfl (Nat.le_of_ble_eq_true rfl) (Nat.le_of_ble_eq_true rfl) rfl rfl ?_
    refine gb_istore (L' := [some (.ref v0), none, some (.ref v2), some (.ref v3), some (.int v4), none, some (.int v6), some (.int v7), some (.int v8), some (.int v9), some (.int v10), some (.int v11), some (.int v12), some (.int v13), some (.int x15), none, none, none, none]) dX0_spread_129 (by decide) rfl rfl ?_
    refine gb_aload_n dX0_spread_131 rfl rfl ?_
    obtain ⟨g17, hF⟩ := gb_gdE hF
    obtain ⟨a18, ea18, hF⟩ := gb_rdE hF
    refine gb_getR fX0_118 dX0_spread_132 (gb_kE g17) ea18 ?_
    refine gb_iload dX0_spread_135 rfl ?_
    obtain ⟨g19, hF⟩ := gb_gdE hF
    obtain ⟨g20, hF⟩ := gb_gdE hF
    refine gb_iald dX0_spread_137 (gb_kE g19) (gb_inE g20) ?_
    refine gb_aload_n dX0_spread_138 rfl rfl ?_
    obtain ⟨g21, hF⟩ := gb_gdE hF
    obtain ⟨a22, ea22, hF⟩ := gb_rdE hF
    refine gb_getR fX0_118 dX0_spread_139 (gb_kE g21) ea22 ?_
    refine gb_iload dX0_spread_142 rfl ?_
    obtain ⟨g23, hF⟩ := gb_gdE hF
    obtain ⟨g24, hF⟩ := gb_gdE hF
    refine gb_iald dX0_spread_144 (gb_kE g23) (gb_inE g24) ?_
    refine gb_imul dX0_spread_145 ?_
    refine gb_aload_n dX0_spread_146 rfl rfl ?_
    obtain ⟨g25, hF⟩ := gb_gdE hF
    obtain ⟨a26, ea26, hF⟩ := gb_rdE hF
    refine gb_getR fX0_118 dX0_spread_147 (gb_kE g25) ea26 ?_
    refine gb_iload dX0_spread_150 rfl ?_
    obtain ⟨g27, hF⟩ := gb_gdE hF
    obtain ⟨g28, hF⟩ := gb_gdE hF
    refine gb_iald dX0_spread_152 (gb_kE g27) (gb_inE g28) ?_
    refine gb_imul dX0_spread_153 ?_
    refine gb_i2l dX0_spread_154 ?_
    obtain ⟨x29, ex29, hF⟩ := gb_ltE hF
    refine gb_topJ ex29 ?_
    refine gb_lstore (L' := [some (.ref v0), none, some (.ref v2), some (.ref v3), some (.int v4), none, some (.int v6), some (.int v7), some (.int v8), some (.int v9), some (.int v10), some (.int v11), some (.int v12), some (.int v13), some (.int x15), some (.long x29), none, none, none]) dX0_spread_155 (by decide) rfl rfl ?_
    refine gb_aload_n dX0_spread_157 rfl rfl ?_
    obtain ⟨g30, hF⟩ := gb_gdE hF
    obtain ⟨a31, ea31, hF⟩ := gb_rdE hF
    refine gb_getR fX0_121 dX0_spread_158 (gb_kE g30) ea31 ?_
    refine gb_iload dX0_spread_161 rfl ?_
    obtain ⟨g32, hF⟩ := gb_gdE hF
    obtain ⟨g33, hF⟩ := gb_gdE hF
    refine gb_iald dX0_spread_163 (gb_kE g32) (gb_inE g33) ?_
    refine gb_aload_n dX0_spread_164 rfl rfl ?_
    obtain ⟨g34, hF⟩ := gb_gdE hF
    obtain ⟨a35, ea35, hF⟩ := gb_rdE hF
    refine gb_getR fX0_121 dX0_spread_165 (gb_kE g34) ea35 ?_
    refine gb_iload dX0_spread_168 rfl ?_
    obtain ⟨g36, hF⟩ := gb_gdE hF
    obtain ⟨g37, hF⟩ := gb_gdE hF
    refine gb_iald dX0_spread_170 (gb_kE g36) (gb_inE g37) ?_
    refine gb_iadd dX0_spread_171 ?_
    refine gb_aload_n dX0_spread_172 rfl rfl ?_
    obtain ⟨g38, hF⟩ := gb_gdE hF
    obtain ⟨a39, ea39, hF⟩ := gb_rdE hF
    refine gb_getR fX0_121 dX0_spread_173 (gb_kE g38) ea39 ?_
    refine gb_iload dX0_spread_176 rfl ?_
    obtain ⟨g40, hF⟩ := gb_gdE hF
    obtain ⟨g41, hF⟩ := gb_gdE hF
    refine gb_iald dX0_spread_178 (gb_kE g40) (gb_inE g41) ?_
    refine gb_iadd dX0_spread_179 ?_
    obtain ⟨x42, ex42, hF⟩ := gb_ltE hF
    refine gb_topI ex42 ?_
    refine gb_istore (L' := [some (.ref v0), none, some (.ref v2), some (.ref v3), some (.int v4), none, some (.int v6), some (.int v7), some (.int v8), some (.int v9), some (.int v10), some (.int v11), some (.int v12), some (.int v13), some (.int x15), some (.long x29), none, some (.int x42), none]) dX0_spread_180 (by decide) rfl rfl ?_
    refine gb_aload_n dX0_spread_182 rfl rfl ?_
    obtain ⟨g43, hF⟩ := gb_gdE hF
    obtain ⟨a44, ea44, hF⟩ := gb_rdE hF
    refine gb_getR fX0_124 dX0_spread_183 (gb_kE g43) ea44 ?_
    refine gb_iload dX0_spread_186 rfl ?_
    obtain ⟨g45, hF⟩ := gb_gdE hF
    obtain ⟨g46, hF⟩ := gb_gdE hF
    refine gb_iald dX0_spread_188 (gb_kE g45) (gb_inE g46) ?_
    refine gb_aload_n dX0_spread_189 rfl rfl ?_
    obtain ⟨g47, hF⟩ := gb_gdE hF
    obtain ⟨a48, ea48, hF⟩ := gb_rdE hF
    refine gb_getR fX0_124 dX0_spread_190 (gb_kE g47) ea48 ?_
    refine gb_iload dX0_spread_193 rfl ?_
    obtain ⟨g49, hF⟩ := gb_gdE hF
    obtain ⟨g50, hF⟩ := gb_gdE hF
    refine gb_iald dX0_spread_195 (gb_kE g49) (gb_inE g50) ?_
    refine gb_iadd dX0_spread_196 ?_
    refine gb_aload_n dX0_spread_197 rfl rfl ?_
    obtain ⟨g51, hF⟩ := gb_gdE hF
    obtain ⟨a52, ea52, hF⟩ := gb_rdE hF
    refine gb_getR fX0_124 dX0_spread_198 (gb_kE g51) ea52 ?_
    refine gb_iload dX0_spread_201 rfl ?_
    obtain ⟨g53, hF⟩ := gb_gdE hF
    obtain ⟨g54, hF⟩ := gb_gdE hF
    refine gb_iald dX0_spread_203 (gb_kE g53) (gb_inE g54) ?_
    refine gb_iadd dX0_spread_204 ?_
    obtain ⟨x55, ex55, hF⟩ := gb_ltE hF
    refine gb_topI ex55 ?_
    refine gb_istore (L' := [some (.ref v0), none, some (.ref v2), some (.ref v3), some (.int v4), none, some (.int v6), some (.int v7), some (.int v8), some (.int v9), some (.int v10), some (.int v11), some (.int v12), some (.int v13), some (.int x15), some (.long x29), none, some (.int x42), some (.int x55)]) dX0_spread_205 (by decide) rfl rfl ?_
    refine gb_aload_n dX0_spread_207 rfl rfl ?_
    refine gb_iload dX0_spread_208 rfl ?_
    refine gb_lload dX0_spread_210 rfl ?_
    refine gb_iload dX0_spread_212 rfl ?_
    refine gb_iload dX0_spread_214 rfl ?_
    refine gb_aload_n dX0_spread_216 rfl rfl ?_
    refine gb_iload dX0_spread_217 rfl ?_
    obtain ⟨g56, hF⟩ := gb_gdE hF
    obtain ⟨x57, h58, cx57, hF⟩ := gb_bdE hF
    refine gb_cV (As := [.int x15, .long x29, .int x42, .int x55, .ref v0, .int v4]) (S := []) (v := none) (h1 := h58) (S2 := []) cf0 dX0_spread_219 mtX0_addScaled lX0_93 inX0_addScaled seX0_addScaled (gb_kE g56) (fnX0_addScaled_ok _ _ cx57) (by decide) rfl (Nat.le_of_ble_eq_true rfl) (Nat.le_of_ble_eq_true rfl) rfl rfl ?_
    obtain ⟨x59, ex59, hF⟩ := gb_ltE hF
    refine gb_iinc (v := x59) (L' := [some (.ref v0), none, some (.ref v2), some (.ref v3), some (.int v4), none, some (.int v6), some (.int v7), some (.int v8), some (.int v9), some (.int v10), some (.int v11), some (.int v12), some (.int x59), some (.int x15), some (.long x29), none, some (.int x42), some (.int x55)]) dX0_spread_222 rfl (by rw [ex59]; rfl) (by decide) rfl rfl ?_
    refine gb_goto (tgt := 98) dX0_spread_225 (by decide) ?_
    exact gb_wk (hk98 v0 v2 v3 v4 v6 v7 v8 v9 v10 v11 v12 x59 h58 r hF) (And.intro rfl (And.intro rfl (And.intro rfl (And.intro rfl (And.intro rfl (And.intro rfl (And.intro rfl (And.intro rfl (And.intro rfl (And.intro rfl (And.intro rfl (And.intro rfl trivial))))))))))))
def lpX0_spread_98 (k76 : Nat → Nat → Nat → Int32 → Int32 → Int32 → Int32 → Int32 → Int32 → Int32 → gb_H → Option (Unit × gb_H)) (k87 : Nat → Nat → Nat → Int32 → Int32 → Int32 → Int32 → Int32 → Int32 → Int32 → Int32 → gb_H → Option (Unit × gb_H)) (n : Nat) (v0 : Nat) (v2 : Nat) (v3 : Nat) (v4 : Int32) (v6 : Int32) (v7 : Int32) (v8 : Int32) (v9 : Int32) (v10 : Int32) (v11 : Int32) (v12 : Int32) (v13 : Int32) (h : gb_H) : Option (Unit × gb_H) := gb_lp (σ := Nat × Nat × Nat × Int32 × Int32 × Int32 × Int32 × Int32 × Int32 × Int32 × Int32 × Int32 × gb_H) (fun k s => fbX0_spread_98 k76 k87 (fun v0 v2 v3 v4 v6 v7 v8 v9 v10 v11 v12 v13 h => k (v0, v2, v3, v4, v6, v7, v8, v9, v10, v11, v12, v13, h)) s.1 s.2.1 s.2.2.1 s.2.2.2.1 s.2.2.2.2.1 s.2.2.2.2.2.1 s.2.2.2.2.2.2.1 s.2.2.2.2.2.2.2.1 s.2.2.2.2.2.2.2.2.1 s.2.2.2.2.2.2.2.2.2.1 s.2.2.2.2.2.2.2.2.2.2.1 s.2.2.2.2.2.2.2.2.2.2.2.1 s.2.2.2.2.2.2.2.2.2.2.2.2) n (v0, v2, v3, v4, v6, v7, v8, v9, v10, v11, v12, v13, h)
theorem lpX0_spread_98_ok {X : gb_X}  {k76 : Nat → Nat → Nat → Int32 → Int32 → Int32 → Int32 → Int32 → Int32 → Int32 → gb_H → Option (Unit × gb_H)} {k87 : Nat → Nat → Nat → Int32 → Int32 → Int32 → Int32 → Int32 → Int32 → Int32 → Int32 → gb_H → Option (Unit × gb_H)} (hk76 : ∀ v0 v2 v3 v4 v6 v7 v8 v9 v10 v11 h r, k76 v0 v2 v3 v4 v6 v7 v8 v9 v10 v11 h = some r → gb_Ev X 3 mX0_spread 76 [some (.ref v0), none, some (.ref v2), some (.ref v3), some (.int v4), none, some (.int v6), some (.int v7), some (.int v8), some (.int v9), some (.int v10), some (.int v11), none, none, none, none, none, none, none] [] h (gb_wV r)) (hk87 : ∀ v0 v2 v3 v4 v6 v7 v8 v9 v10 v11 v12 h r, k87 v0 v2 v3 v4 v6 v7 v8 v9 v10 v11 v12 h = some r → gb_Ev X 3 mX0_spread 87 [some (.ref v0), none, some (.ref v2), some (.ref v3), some (.int v4), none, some (.int v6), some (.int v7), some (.int v8), some (.int v9), some (.int v10), some (.int v11), some (.int v12), none, none, none, none, none, none] [] h (gb_wV r)) (n : Nat) (v0 : Nat) (v2 : Nat) (v3 : Nat) (v4 : Int32) (v6 : Int32) (v7 : Int32) (v8 : Int32) (v9 : Int32) (v10 : Int32) (v11 : Int32) (v12 : Int32) (v13 : Int32) (h : gb_H) (r : Unit × gb_H) (hF : lpX0_spread_98 k76 k87 n v0 v2 v3 v4 v6 v7 v8 v9 v10 v11 v12 v13 h = some r) : gb_Ev X 3 mX0_spread 98 [some (.ref v0), none, some (.ref v2), some (.ref v3), some (.int v4), none, some (.int v6), some (.int v7), some (.int v8), some (.int v9), some (.int v10), some (.int v11), some (.int v12), some (.int v13), none, none, none, none, none] [] h (gb_wV r) := by
  exact gb_lpE (σ := Nat × Nat × Nat × Int32 × Int32 × Int32 × Int32 × Int32 × Int32 × Int32 × Int32 × Int32 × gb_H) (P := fun s r => gb_Ev X 3 mX0_spread 98 [some (.ref s.1), none, some (.ref s.2.1), some (.ref s.2.2.1), some (.int s.2.2.2.1), none, some (.int s.2.2.2.2.1), some (.int s.2.2.2.2.2.1), some (.int s.2.2.2.2.2.2.1), some (.int s.2.2.2.2.2.2.2.1), some (.int s.2.2.2.2.2.2.2.2.1), some (.int s.2.2.2.2.2.2.2.2.2.1), some (.int s.2.2.2.2.2.2.2.2.2.2.1), some (.int s.2.2.2.2.2.2.2.2.2.2.2.1), none, none, none, none, none] [] s.2.2.2.2.2.2.2.2.2.2.2.2 (gb_wV r)) (fun k hk s r hs => fbX0_spread_98_ok hk76 hk87 (fun v0 v2 v3 v4 v6 v7 v8 v9 v10 v11 v12 v13 h r e => hk (v0, v2, v3, v4, v6, v7, v8, v9, v10, v11, v12, v13, h) r e) _ _ _ _ _ _ _ _ _ _ _ _ _ r hs) n (v0, v2, v3, v4, v6, v7, v8, v9, v10, v11, v12, v13, h) r hF
def fbX0_spread_87 (k76 : Nat → Nat → Nat → Int32 → Int32 → Int32 → Int32 → Int32 → Int32 → Int32 → gb_H → Option (Unit × gb_H)) (k87 : Nat → Nat → Nat → Int32 → Int32 → Int32 → Int32 → Int32 → Int32 → Int32 → Int32 → gb_H → Option (Unit × gb_H)) (v0 : Nat) (v2 : Nat) (v3 : Nat) (v4 : Int32) (v6 : Int32) (v7 : Int32) (v8 : Int32) (v9 : Int32) (v10 : Int32) (v11 : Int32) (v12 : Int32) (h : gb_H) : Option (Unit × gb_H) :=
  if v9 ≤ v12 then
    gb_lt (v11 + (1 : Int32)) fun x2 =>
    k76 v0 v2 v3 v4 v6 v7 v8 v9 v10 x2 h
  else
    lpX0_spread_98 k76 k87 gb_FU v0 v2 v3 v4 v6 v7 v8 v9 v10 v11 v12 v7 h
theorem fbX0_spread_87_ok {X : gb_X} {k76 : Nat → Nat → Nat → Int32 → Int32 → Int32 → Int32 → Int32 → Int32 → Int32 → gb_H → Option (Unit × gb_H)} {k87 : Nat → Nat → Nat → Int32 → Int32 → Int32 → Int32 → Int32 → Int32 → Int32 → Int32 → gb_H → Option (Unit × gb_H)} (hk76 : ∀ v0 v2 v3 v4 v6 v7 v8 v9 v10 v11 h r, k76 v0 v2 v3 v4 v6 v7 v8 v9 v10 v11 h = some r → gb_Ev X 3 mX0_spread 76 [some (.ref v0), none, some (.ref v2), some (.ref v3), some (.int v4), none, some (.int v6), some (.int v7), some (.int v8), some (.int v9), some (.int v10), some (.int v11), none, none, none, none, none, none, none] [] h (gb_wV r)) (hk87 : ∀ v0 v2 v3 v4 v6 v7 v8 v9 v10 v11 v12 h r, k87 v0 v2 v3 v4 v6 v7 v8 v9 v10 v11 v12 h = some r → gb_Ev X 3 mX0_spread 87 [some (.ref v0), none, some (.ref v2), some (.ref v3), some (.int v4), none, some (.int v6), some (.int v7), some (.int v8), some (.int v9), some (.int v10), some (.int v11), some (.int v12), none, none, none, none, none, none] [] h (gb_wV r)) (v0 : Nat) (v2 : Nat) (v3 : Nat) (v4 : Int32) (v6 : Int32) (v7 : Int32) (v8 : Int32) (v9 : Int32) (v10 : Int32) (v11 : Int32) (v12 : Int32) (h : gb_H) (r : Unit × gb_H) (hF : fbX0_spread_87 k76 k87 v0 v2 v3 v4 v6 v7 v8 v9 v10 v11 v12 h = some r) : gb_Ev X 3 mX0_spread 87 [some (.ref v0), none, some (.ref v2), some (.ref v3), some (.int v4), none, some (.int v6), some (.int v7), some (.int v8), some (.int v9), some (.int v10), some (.int v11), some (.int v12), none, none, none, none, none, none] [] h (gb_wV r) := by
  unfold fbX0_spread_87 at hF
  refine gb_iload dX0_spread_87 rfl ?_
  refine gb_iload dX0_spread_89 rfl ?_
  refine gb_icmp_ge (tgt := 234) dX0_spread_91 (by decide) (fun c1 => ?_) (fun c1 => ?_)
  · replace hF := gb_ifT c1 hF
    obtain ⟨x2, ex2, hF⟩ := gb_ltE hF
    refine gb_iinc (v := x2) (L' := [some (.ref v0), none, some (.ref v2), some (.ref v3), some (.int v4), none, some (.int v6), some (.int v7), some (.int v8), some (.int v9), some (.int v10), some (.int x2), some (.int v12), none, none, none, none, none, none]) dX0_spread_234 rfl (by rw [ex2]; rfl) (by decide) rfl rfl ?_
    refine gb_goto (tgt := 76) dX0_spread_237 (by decide) ?_
    exact gb_wk (hk76 v0 v2 v3 v4 v6 v7 v8 v9 v10 x2 h r hF) (And.intro rfl (And.intro rfl (And.intro rfl (And.intro rfl (And.intro rfl (And.intro rfl (And.intro rfl (And.intro rfl (And.intro rfl (And.intro rfl trivial))))))))))
  · replace hF := gb_ifF c1 hF
    refine gb_iload dX0_spread_94 rfl ?_
    refine gb_istore (L' := [some (.ref v0), none, some (.ref v2), some (.ref v3), some (.int v4), none, some (.int v6), some (.int v7), some (.int v8), some (.int v9), some (.int v10), some (.int v11), some (.int v12), some (.int v7), none, none, none, none, none]) dX0_spread_96 (by decide) rfl rfl ?_
    exact gb_wk (lpX0_spread_98_ok hk76 hk87 gb_FU v0 v2 v3 v4 v6 v7 v8 v9 v10 v11 v12 v7 h r hF) (And.intro rfl (And.intro rfl (And.intro rfl (And.intro rfl (And.intro rfl (And.intro rfl (And.intro rfl (And.intro rfl (And.intro rfl (And.intro rfl (And.intro rfl (And.intro rfl trivial))))))))))))
def lpX0_spread_87 (k76 : Nat → Nat → Nat → Int32 → Int32 → Int32 → Int32 → Int32 → Int32 → Int32 → gb_H → Option (Unit × gb_H)) (n : Nat) (v0 : Nat) (v2 : Nat) (v3 : Nat) (v4 : Int32) (v6 : Int32) (v7 : Int32) (v8 : Int32) (v9 : Int32) (v10 : Int32) (v11 : Int32) (v12 : Int32) (h : gb_H) : Option (Unit × gb_H) := gb_lp (σ := Nat × Nat × Nat × Int32 × Int32 × Int32 × Int32 × Int32 × Int32 × Int32 × Int32 × gb_H) (fun k s => fbX0_spread_87 k76 (fun v0 v2 v3 v4 v6 v7 v8 v9 v10 v11 v12 h => k (v0, v2, v3, v4, v6, v7, v8, v9, v10, v11, v12, h)) s.1 s.2.1 s.2.2.1 s.2.2.2.1 s.2.2.2.2.1 s.2.2.2.2.2.1 s.2.2.2.2.2.2.1 s.2.2.2.2.2.2.2.1 s.2.2.2.2.2.2.2.2.1 s.2.2.2.2.2.2.2.2.2.1 s.2.2.2.2.2.2.2.2.2.2.1 s.2.2.2.2.2.2.2.2.2.2.2) n (v0, v2, v3, v4, v6, v7, v8, v9, v10, v11, v12, h)
theorem lpX0_spread_87_ok {X : gb_X}  {k76 : Nat → Nat → Nat → Int32 → Int32 → Int32 → Int32 → Int32 → Int32 → Int32 → gb_H → Option (Unit × gb_H)} (hk76 : ∀ v0 v2 v3 v4 v6 v7 v8 v9 v10 v11 h r, k76 v0 v2 v3 v4 v6 v7 v8 v9 v10 v11 h = some r → gb_Ev X 3 mX0_spread 76 [some (.ref v0), none, some (.ref v2), some (.ref v3), some (.int v4), none, some (.int v6), some (.int v7), some (.int v8), some (.int v9), some (.int v10), some (.int v11), none, none, none, none, none, none, none] [] h (gb_wV r)) (n : Nat) (v0 : Nat) (v2 : Nat) (v3 : Nat) (v4 : Int32) (v6 : Int32) (v7 : Int32) (v8 : Int32) (v9 : Int32) (v10 : Int32) (v11 : Int32) (v12 : Int32) (h : gb_H) (r : Unit × gb_H) (hF : lpX0_spread_87 k76 n v0 v2 v3 v4 v6 v7 v8 v9 v10 v11 v12 h = some r) : gb_Ev X 3 mX0_spread 87 [some (.ref v0), none, some (.ref v2), some (.ref v3), some (.int v4), none, some (.int v6), some (.int v7), some (.int v8), some (.int v9), some (.int v10), some (.int v11), some (.int v12), none, none, none, none, none, none] [] h (gb_wV r) := by
  exact gb_lpE (σ := Nat × Nat × Nat × Int32 × Int32 × Int32 × Int32 × Int32 × Int32 × Int32 × Int32 × gb_H) (P := fun s r => gb_Ev X 3 mX0_spread 87 [some (.ref s.1), none, some (.ref s.2.1), some (.ref s.2.2.1), some (.int s.2.2.2.1), none, some (.int s.2.2.2.2.1), some (.int s.2.2.2.2.2.1), some (.int s.2.2.2.2.2.2.1), some (.int s.2.2.2.2.2.2.2.1), some (.int s.2.2.2.2.2.2.2.2.1), some (.int s.2.2.2.2.2.2.2.2.2.1), some (.int s.2.2.2.2.2.2.2.2.2.2.1), none, none, none, none, none, none] [] s.2.2.2.2.2.2.2.2.2.2.2 (gb_wV r)) (fun k hk s r hs => fbX0_spread_87_ok hk76 (fun v0 v2 v3 v4 v6 v7 v8 v9 v10 v11 v12 h r e => hk (v0, v2, v3, v4, v6, v7, v8, v9, v10, v11, v12, h) r e) _ _ _ _ _ _ _ _ _ _ _ _ r hs) n (v0, v2, v3, v4, v6, v7, v8, v9, v10, v11, v12, h) r hF
def fbX0_spread_76 (k76 : Nat → Nat → Nat → Int32 → Int32 → Int32 → Int32 → Int32 → Int32 → Int32 → gb_H → Option (Unit × gb_H)) (v0 : Nat) (v2 : Nat) (v3 : Nat) (v4 : Int32) (v6 : Int32) (v7 : Int32) (v8 : Int32) (v9 : Int32) (v10 : Int32) (v11 : Int32) (h : gb_H) : Option (Unit × gb_H) :=
  if v8 ≤ v11 then
    some ((), h)
  else
    lpX0_spread_87 k76 gb_FU v0 v2 v3 v4 v6 v7 v8 v9 v10 v11 v6 h
theorem fbX0_spread_76_ok {X : gb_X} {k76 : Nat → Nat → Nat → Int32 → Int32 → Int32 → Int32 → Int32 → Int32 → Int32 → gb_H → Option (Unit × gb_H)} (hk76 : ∀ v0 v2 v3 v4 v6 v7 v8 v9 v10 v11 h r, k76 v0 v2 v3 v4 v6 v7 v8 v9 v10 v11 h = some r → gb_Ev X 3 mX0_spread 76 [some (.ref v0), none, some (.ref v2), some (.ref v3), some (.int v4), none, some (.int v6), some (.int v7), some (.int v8), some (.int v9), some (.int v10), some (.int v11), none, none, none, none, none, none, none] [] h (gb_wV r)) (v0 : Nat) (v2 : Nat) (v3 : Nat) (v4 : Int32) (v6 : Int32) (v7 : Int32) (v8 : Int32) (v9 : Int32) (v10 : Int32) (v11 : Int32) (h : gb_H) (r : Unit × gb_H) (hF : fbX0_spread_76 k76 v0 v2 v3 v4 v6 v7 v8 v9 v10 v11 h = some r) : gb_Ev X 3 mX0_spread 76 [some (.ref v0), none, some (.ref v2), some (.ref v3), some (.int v4), none, some (.int v6), some (.int v7), some (.int v8), some (.int v9), some (.int v10), some (.int v11), none, none, none, none, none, none, none] [] h (gb_wV r) := by
  unfold fbX0_spread_76 at hF
  refine gb_iload dX0_spread_76 rfl ?_
  refine gb_iload dX0_spread_78 rfl ?_
  refine gb_icmp_ge (tgt := 240) dX0_spread_80 (by decide) (fun c1 => ?_) (fun c1 => ?_)
  · replace hF := gb_ifT c1 hF
    cases hF
    exact gb_vret dX0_spread_240 rfl
  · replace hF := gb_ifF c1 hF
    refine gb_iload dX0_spread_83 rfl ?_
    refine gb_istore (L' := [some (.ref v0), none, some (.ref v2), some (.ref v3), some (.int v4), none, some (.int v6), some (.int v7), some (.int v8), some (.int v9), some (.int v10), some (.int v11), some (.int v6), none, none, none, none, none, none]) dX0_spread_85 (by decide) rfl rfl ?_
    exact gb_wk (lpX0_spread_87_ok hk76 gb_FU v0 v2 v3 v4 v6 v7 v8 v9 v10 v11 v6 h r hF) (And.intro rfl (And.intro rfl (And.intro rfl (And.intro rfl (And.intro rfl (And.intro rfl (And.intro rfl (And.intro rfl (And.intro rfl (And.intro rfl (And.intro rfl trivial)))))))))))
def lpX0_spread_76 (n : Nat) (v0 : Nat) (v2 : Nat) (v3 : Nat) (v4 : Int32) (v6 : Int32) (v7 : Int32) (v8 : Int32) (v9 : Int32) (v10 : Int32) (v11 : Int32) (h : gb_H) : Option (Unit × gb_H) := gb_lp (σ := Nat × Nat × Nat × Int32 × Int32 × Int32 × Int32 × Int32 × Int32 × Int32 × gb_H) (fun k s => fbX0_spread_76 (fun v0 v2 v3 v4 v6 v7 v8 v9 v10 v11 h => k (v0, v2, v3, v4, v6, v7, v8, v9, v10, v11, h)) s.1 s.2.1 s.2.2.1 s.2.2.2.1 s.2.2.2.2.1 s.2.2.2.2.2.1 s.2.2.2.2.2.2.1 s.2.2.2.2.2.2.2.1 s.2.2.2.2.2.2.2.2.1 s.2.2.2.2.2.2.2.2.2.1 s.2.2.2.2.2.2.2.2.2.2) n (v0, v2, v3, v4, v6, v7, v8, v9, v10, v11, h)
theorem lpX0_spread_76_ok {X : gb_X}  (n : Nat) (v0 : Nat) (v2 : Nat) (v3 : Nat) (v4 : Int32) (v6 : Int32) (v7 : Int32) (v8 : Int32) (v9 : Int32) (v10 : Int32) (v11 : Int32) (h : gb_H) (r : Unit × gb_H) (hF : lpX0_spread_76 n v0 v2 v3 v4 v6 v7 v8 v9 v10 v11 h = some r) : gb_Ev X 3 mX0_spread 76 [some (.ref v0), none, some (.ref v2), some (.ref v3), some (.int v4), none, some (.int v6), some (.int v7), some (.int v8), some (.int v9), some (.int v10), some (.int v11), none, none, none, none, none, none, none] [] h (gb_wV r) := by
  exact gb_lpE (σ := Nat × Nat × Nat × Int32 × Int32 × Int32 × Int32 × Int32 × Int32 × Int32 × gb_H) (P := fun s r => gb_Ev X 3 mX0_spread 76 [some (.ref s.1), none, some (.ref s.2.1), some (.ref s.2.2.1), some (.int s.2.2.2.1), none, some (.int s.2.2.2.2.1), some (.int s.2.2.2.2.2.1), some (.int s.2.2.2.2.2.2.1), some (.int s.2.2.2.2.2.2.2.1), some (.int s.2.2.2.2.2.2.2.2.1), some (.int s.2.2.2.2.2.2.2.2.2.1), none, none, none, none, none, none, none] [] s.2.2.2.2.2.2.2.2.2.2 (gb_wV r)) (fun k hk s r hs => fbX0_spread_76_ok (fun v0 v2 v3 v4 v6 v7 v8 v9 v10 v11 h r e => hk (v0, v2, v3, v4, v6, v7, v8, v9, v10, v11, h) r e) _ _ _ _ _ _ _ _ _ _ _ r hs) n (v0, v2, v3, v4, v6, v7, v8, v9, v10, v11, h) r hF
def fnX0_spread (p0 : Nat) (p1 : Int32) (p2 : Nat) (p3 : Nat) (h : gb_H) : Option (Unit × gb_H) :=
  gb_bd (fnX0_placeOfKey p1 h) fun x1 h2 =>
  gb_bd (fnX0_low p1 h2) fun x3 h4 =>
  gb_lt ((2 : Int32) * x3) fun x5 =>
  gb_bd (fnX0_mid p1 h4) fun x6 h7 =>
  gb_lt ((2 : Int32) * x6) fun x8 =>
  gb_bd (fnX0_high p1 h7) fun x9 h10 =>
  gb_lt ((2 : Int32) * x9) fun x11 =>
  gb_gd (gb_k h10 p2 4) <|
  gb_rd (gb_R h10 p2 0) fun a13 =>
  gb_bd (fnX0_low p1 h10) fun x14 h15 =>
  gb_gd (gb_k h15 a13 20) <|
  gb_gd (gb_in h15 a13 x14) <|
  gb_lt (x5 + (gb_I h15 a13 x14.toNatClampNeg)) fun x18 =>
  gb_gd (gb_k h15 p2 4) <|
  gb_rd (gb_R h15 p2 0) fun a20 =>
  gb_bd (fnX0_mid p1 h15) fun x21 h22 =>
  gb_gd (gb_k h22 a20 20) <|
  gb_gd (gb_in h22 a20 x21) <|
  gb_lt (x8 + (gb_I h22 a20 x21.toNatClampNeg)) fun x25 =>
  gb_gd (gb_k h22 p2 4) <|
  gb_rd (gb_R h22 p2 0) fun a27 =>
  gb_bd (fnX0_high p1 h22) fun x28 h29 =>
  gb_gd (gb_k h29 a27 20) <|
  gb_gd (gb_in h29 a27 x28) <|
  gb_lt (x11 + (gb_I h29 a27 x28.toNatClampNeg)) fun x32 =>
  lpX0_spread_76 gb_FU p0 p2 p3 x1 x8 x11 x18 x25 x32 x5 h29
theorem fnX0_spread_ok {X : gb_X}  {p0 : Nat} {p1 : Int32} {p2 : Nat} {p3 : Nat} (h : gb_H) (r : Unit × gb_H) (hF : fnX0_spread p0 p1 p2 p3 h = some r) : gb_Ev X 3 mX0_spread 0 (gb_L0 [.ref p0, .int p1, .ref p2, .ref p3]) [] h (gb_wV r) := by
  unfold fnX0_spread at hF
  refine gb_weak (L' := [some (.ref p0), some (.int p1), some (.ref p2), some (.ref p3), none, none, none, none, none, none, none, none, none, none, none, none, none, none, none]) (And.intro rfl (And.intro rfl (And.intro rfl (And.intro rfl trivial)))) ?_
  refine gb_iload_n dX0_spread_0 rfl rfl ?_
  obtain ⟨x1, h2, cx1, hF⟩ := gb_bdE hF
  refine gb_cS (As := [.int p1]) (S := []) (v := some (.int x1)) (h1 := h2) (S2 := [.int x1]) dX0_spread_1 mtX0_placeOfKey lX0_58 stX0_placeOfKey (fnX0_placeOfKey_ok _ _ cx1) (by decide) rfl (Nat.le_of_ble_eq_true rfl) (Nat.le_of_ble_eq_true rfl) rfl rfl ?_
  refine gb_istore (L' := [some (.ref p0), some (.int p1), some (.ref p2), some (.ref p3), some (.int x1), none, none, none, none, none, none, none, none, none, none, none, none, none, none]) dX0_spread_4 (by decide) rfl rfl ?_
  refine gb_iconst (v := (2 : Int32)) dX0_spread_6 (by decide) ?_
  refine gb_iload_n dX0_spread_7 rfl rfl ?_
  obtain ⟨x3, h4, cx3, hF⟩ := gb_bdE hF
  refine gb_cS (As := [.int p1]) (S := [.int (2 : Int32)]) (v := some (.int x3)) (h1 := h4) (S2 := [.int x3, .int (2 : Int32)]) dX0_spread_8 mtX0_low lX0_41 stX0_low (fnX0_low_ok _ _ cx3) (by decide) rfl (Nat.le_of_ble_eq_true rfl) (Nat.le_of_ble_eq_true rfl) rfl rfl ?_
  refine gb_imul dX0_spread_11 ?_
  obtain ⟨x5, ex5, hF⟩ := gb_ltE hF
  refine gb_topI ex5 ?_
  refine gb_istore (L' := [some (.ref p0), some (.int p1), some (.ref p2), some (.ref p3), some (.int x1), some (.int x5), none, none, none, none, none, none, none, none, none, none, none, none, none]) dX0_spread_12 (by decide) rfl rfl ?_
  refine gb_iconst (v := (2 : Int32)) dX0_spread_14 (by decide) ?_
  refine gb_iload_n dX0_spread_15 rfl rfl ?_
  obtain ⟨x6, h7, cx6, hF⟩ := gb_bdE hF
  refine gb_cS (As := [.int p1]) (S := [.int (2 : Int32)]) (v := some (.int x6)) (h1 := h7) (S2 := [.int x6, .int (2 : Int32)]) dX0_spread_16 mtX0_mid lX0_45 stX0_mid (fnX0_mid_ok _ _ cx6) (by decide) rfl (Nat.le_of_ble_eq_true rfl) (Nat.le_of_ble_eq_true rfl) rfl rfl ?_
  refine gb_imul dX0_spread_19 ?_
  obtain ⟨x8, ex8, hF⟩ := gb_ltE hF
  refine gb_topI ex8 ?_
  refine gb_istore (L' := [some (.ref p0), some (.int p1), some (.ref p2), some (.ref p3), some (.int x1), some (.int x5), some (.int x8), none, none, none, none, none, none, none, none, none, none, none, none]) dX0_spread_20 (by decide) rfl rfl ?_
  refine gb_iconst (v := (2 : Int32)) dX0_spread_22 (by decide) ?_
  refine gb_iload_n dX0_spread_23 rfl rfl ?_
  obtain ⟨x9, h10, cx9, hF⟩ := gb_bdE hF
  refine gb_cS (As := [.int p1]) (S := [.int (2 : Int32)]) (v := some (.int x9)) (h1 := h10) (S2 := [.int x9, .int (2 : Int32)]) dX0_spread_24 mtX0_high lX0_48 stX0_high (fnX0_high_ok _ _ cx9) (by decide) rfl (Nat.le_of_ble_eq_true rfl) (Nat.le_of_ble_eq_true rfl) rfl rfl ?_
  refine gb_imul dX0_spread_27 ?_
  obtain ⟨x11, ex11, hF⟩ := gb_ltE hF
  refine gb_topI ex11 ?_
  refine gb_istore (L' := [some (.ref p0), some (.int p1), some (.ref p2), some (.ref p3), some (.int x1), some (.int x5), some (.int x8), some (.int x11), none, none, none, none, none, none, none, none, none, none, none]) dX0_spread_28 (by decide) rfl rfl ?_
  refine gb_iload dX0_spread_30 rfl ?_
  refine gb_aload_n dX0_spread_32 rfl rfl ?_
  obtain ⟨g12, hF⟩ := gb_gdE hF
  obtain ⟨a13, ea13, hF⟩ := gb_rdE hF
  refine gb_getR fX0_110 dX0_spread_33 (gb_kE g12) ea13 ?_
  refine gb_iload_n dX0_spread_36 rfl rfl ?_
  obtain ⟨x14, h15, cx14, hF⟩ := gb_bdE hF
  refine gb_cS (As := [.int p1]) (S := [.ref a13, .int x5]) (v := some (.int x14)) (h1 := h15) (S2 := [.int x14, .ref a13, .int x5]) dX0_spread_37 mtX0_low lX0_41 stX0_low (fnX0_low_ok _ _ cx14) (by decide) rfl (Nat.le_of_ble_eq_true rfl) (Nat.le_of_ble_eq_true rfl) rfl rfl ?_
  obtain ⟨g16, hF⟩ := gb_gdE hF
  obtain ⟨g17, hF⟩ := gb_gdE hF
  refine gb_iald dX0_spread_40 (gb_kE g16) (gb_inE g17) ?_
  refine gb_iadd dX0_spread_41 ?_
  obtain ⟨x18, ex18, hF⟩ := gb_ltE hF
  refine gb_topI ex18 ?_
  refine gb_istore (L' := [some (.ref p0), some (.int p1), some (.ref p2), some (.ref p3), some (.int x1), some (.int x5), some (.int x8), some (.int x11), some (.int x18), none, none, none, none, none, none, none, none, none, none]) dX0_spread_42 (by decide) rfl rfl ?_
  refine gb_iload dX0_spread_44 rfl ?_
  refine gb_aload_n dX0_spread_46 rfl rfl ?_
  obtain ⟨g19, hF⟩ := gb_gdE hF
  obtain ⟨a20, ea20, hF⟩ := gb_rdE hF
  refine gb_getR fX0_110 dX0_spread_47 (gb_kE g19) ea20 ?_
  refine gb_iload_n dX0_spread_50 rfl rfl ?_
  obtain ⟨x21, h22, cx21, hF⟩ := gb_bdE hF
  refine gb_cS (As := [.int p1]) (S := [.ref a20, .int x8]) (v := some (.int x21)) (h1 := h22) (S2 := [.int x21, .ref a20, .int x8]) dX0_spread_51 mtX0_mid lX0_45 stX0_mid (fnX0_mid_ok _ _ cx21) (by decide) rfl (Nat.le_of_ble_eq_true rfl) (Nat.le_of_ble_eq_true rfl) rfl rfl ?_
  obtain ⟨g23, hF⟩ := gb_gdE hF
  obtain ⟨g24, hF⟩ := gb_gdE hF
  refine gb_iald dX0_spread_54 (gb_kE g23) (gb_inE g24) ?_
  refine gb_iadd dX0_spread_55 ?_
  obtain ⟨x25, ex25, hF⟩ := gb_ltE hF
  refine gb_topI ex25 ?_
  refine gb_istore (L' := [some (.ref p0), some (.int p1), some (.ref p2), some (.ref p3), some (.int x1), some (.int x5), some (.int x8), some (.int x11), some (.int x18), some (.int x25), none, none, none, none, none, none, none, none, none]) dX0_spread_56 (by decide) rfl rfl ?_
  refine gb_iload dX0_spread_58 rfl ?_
  refine gb_aload_n dX0_spread_60 rfl rfl ?_
  obtain ⟨g26, hF⟩ := gb_gdE hF
  obtain ⟨a27, ea27, hF⟩ := gb_rdE hF
  refine gb_getR fX0_110 dX0_spread_61 (gb_kE g26) ea27 ?_
  refine gb_iload_n dX0_spread_64 rfl rfl ?_
  obtain ⟨x28, h29, cx28, hF⟩ := gb_bdE hF
  refine gb_cS (As := [.int p1]) (S := [.ref a27, .int x11]) (v := some (.int x28)) (h1 := h29) (S2 := [.int x28, .ref a27, .int x11]) dX0_spread_65 mtX0_high lX0_48 stX0_high (fnX0_high_ok _ _ cx28) (by decide) rfl (Nat.le_of_ble_eq_true rfl) (Nat.le_of_ble_eq_true rfl) rfl rfl ?_
  obtain ⟨g30, hF⟩ := gb_gdE hF
  obtain ⟨g31, hF⟩ := gb_gdE hF
  refine gb_iald dX0_spread_68 (gb_kE g30) (gb_inE g31) ?_
  refine gb_iadd dX0_spread_69 ?_
  obtain ⟨x32, ex32, hF⟩ := gb_ltE hF
  refine gb_topI ex32 ?_
  refine gb_istore (L' := [some (.ref p0), some (.int p1), some (.ref p2), some (.ref p3), some (.int x1), some (.int x5), some (.int x8), some (.int x11), some (.int x18), some (.int x25), some (.int x32), none, none, none, none, none, none, none, none]) dX0_spread_70 (by decide) rfl rfl ?_
  refine gb_iload dX0_spread_72 rfl ?_
  refine gb_istore (L' := [some (.ref p0), some (.int p1), some (.ref p2), some (.ref p3), some (.int x1), some (.int x5), some (.int x8), some (.int x11), some (.int x18), some (.int x25), some (.int x32), some (.int x5), none, none, none, none, none, none, none]) dX0_spread_74 (by decide) rfl rfl ?_
  exact gb_wk (lpX0_spread_76_ok gb_FU p0 p2 p3 x1 x8 x11 x18 x25 x32 x5 h29 r hF) (And.intro rfl (And.intro rfl (And.intro rfl (And.intro rfl (And.intro rfl (And.intro rfl (And.intro rfl (And.intro rfl (And.intro rfl (And.intro rfl trivial))))))))))
def fbX0_idleFactor_45 (s0 : Int64) (h : gb_H) : Option (Int64 × gb_H) :=
  some (s0, h)
theorem fbX0_idleFactor_45_ok {X : gb_X} (s0 : Int64) (h : gb_H) (r : Int64 × gb_H) (hF : fbX0_idleFactor_45 s0 h = some r) : gb_Ev X 2 mX0_idleFactor 45 [none, none, none, none] [.long s0] h (gb_wJ r) := by
  unfold fbX0_idleFactor_45 at hF
  cases hF
  exact gb_lret dX0_idleFactor_45 rfl
def fbX0_idleFactor_28 (v0 : Int32) (v1 : Int32) (s0 : Int64) (s1 : Int64) (h : gb_H) : Option (Int64 × gb_H) :=
  gb_lt (s0 * s1) fun x1 =>
  gb_bd (fnX0_high v0 h) fun x2 h3 =>
  if x2 = 0 then
    fbX0_idleFactor_45 x1 h3
  else
    fbX0_idleFactor_45 (x1 * (v1.toInt64)) h3
theorem fbX0_idleFactor_28_ok {X : gb_X} (v0 : Int32) (v1 : Int32) (s0 : Int64) (s1 : Int64) (h : gb_H) (r : Int64 × gb_H) (hF : fbX0_idleFactor_28 v0 v1 s0 s1 h = some r) : gb_Ev X 2 mX0_idleFactor 28 [some (.int v0), some (.int v1), none, none] [.long s1, .long s0] h (gb_wJ r) := by
  unfold fbX0_idleFactor_28 at hF
  refine gb_lmul dX0_idleFactor_28 ?_
  obtain ⟨x1, ex1, hF⟩ := gb_ltE hF
  refine gb_topJ ex1 ?_
  refine gb_lstore_n (L' := [some (.int v0), some (.int v1), some (.long x1), none]) dX0_idleFactor_29 rfl (by decide) rfl rfl ?_
  refine gb_iload_n dX0_idleFactor_30 rfl rfl ?_
  obtain ⟨x2, h3, cx2, hF⟩ := gb_bdE hF
  refine gb_cS (As := [.int v0]) (S := []) (v := some (.int x2)) (h1 := h3) (S2 := [.int x2]) dX0_idleFactor_31 mtX0_high lX0_48 stX0_high (fnX0_high_ok _ _ cx2) (by decide) rfl (Nat.le_of_ble_eq_true rfl) (Nat.le_of_ble_eq_true rfl) rfl rfl ?_
  refine gb_if_ne (tgt := 41) dX0_idleFactor_34 (by decide) (fun c4 => ?_) (fun c4 => ?_)
  · replace hF := gb_ifF c4 hF
    refine gb_lload_n dX0_idleFactor_41 rfl rfl ?_
    refine gb_iload_n dX0_idleFactor_42 rfl rfl ?_
    refine gb_i2l dX0_idleFactor_43 ?_
    refine gb_lmul dX0_idleFactor_44 ?_
    exact gb_wk (fbX0_idleFactor_45_ok (x1 * (v1.toInt64)) h3 r hF) trivial
  · replace hF := gb_ifT c4 hF
    refine gb_lload_n dX0_idleFactor_37 rfl rfl ?_
    refine gb_goto (tgt := 45) dX0_idleFactor_38 (by decide) ?_
    exact gb_wk (fbX0_idleFactor_45_ok x1 h3 r hF) trivial
def fbX0_idleFactor_13 (v0 : Int32) (v1 : Int32) (s0 : Int64) (h : gb_H) : Option (Int64 × gb_H) :=
  gb_bd (fnX0_mid v0 h) fun x1 h2 =>
  if x1 = 0 then
    fbX0_idleFactor_28 v0 v1 s0 (1 : Int64) h2
  else
    fbX0_idleFactor_28 v0 v1 s0 (v1.toInt64) h2
theorem fbX0_idleFactor_13_ok {X : gb_X} (v0 : Int32) (v1 : Int32) (s0 : Int64) (h : gb_H) (r : Int64 × gb_H) (hF : fbX0_idleFactor_13 v0 v1 s0 h = some r) : gb_Ev X 2 mX0_idleFactor 13 [some (.int v0), some (.int v1), none, none] [.long s0] h (gb_wJ r) := by
  unfold fbX0_idleFactor_13 at hF
  refine gb_lstore_n (L' := [some (.int v0), some (.int v1), some (.long s0), none]) dX0_idleFactor_13 rfl (by decide) rfl rfl ?_
  refine gb_lload_n dX0_idleFactor_14 rfl rfl ?_
  refine gb_iload_n dX0_idleFactor_15 rfl rfl ?_
  obtain ⟨x1, h2, cx1, hF⟩ := gb_bdE hF
  refine gb_cS (As := [.int v0]) (S := [.long s0]) (v := some (.int x1)) (h1 := h2) (S2 := [.int x1, .long s0]) dX0_idleFactor_16 mtX0_mid lX0_45 stX0_mid (fnX0_mid_ok _ _ cx1) (by decide) rfl (Nat.le_of_ble_eq_true rfl) (Nat.le_of_ble_eq_true rfl) rfl rfl ?_
  refine gb_if_ne (tgt := 26) dX0_idleFactor_19 (by decide) (fun c3 => ?_) (fun c3 => ?_)
  · replace hF := gb_ifF c3 hF
    refine gb_iload_n dX0_idleFactor_26 rfl rfl ?_
    refine gb_i2l dX0_idleFactor_27 ?_
    exact gb_wk (fbX0_idleFactor_28_ok v0 v1 s0 (v1.toInt64) h2 r hF) (And.intro rfl (And.intro rfl trivial))
  · replace hF := gb_ifT c3 hF
    refine gb_lconst (v := (1 : Int64)) dX0_idleFactor_22 (by decide) ?_
    refine gb_goto (tgt := 28) dX0_idleFactor_23 (by decide) ?_
    exact gb_wk (fbX0_idleFactor_28_ok v0 v1 s0 (1 : Int64) h2 r hF) (And.intro rfl (And.intro rfl trivial))
def fnX0_idleFactor (p0 : Int32) (p1 : Int32) (h : gb_H) : Option (Int64 × gb_H) :=
  gb_bd (fnX0_low p0 h) fun x1 h2 =>
  if x1 = 0 then
    fbX0_idleFactor_13 p0 p1 (1 : Int64) h2
  else
    fbX0_idleFactor_13 p0 p1 (p1.toInt64) h2
theorem fnX0_idleFactor_ok {X : gb_X}  {p0 : Int32} {p1 : Int32} (h : gb_H) (r : Int64 × gb_H) (hF : fnX0_idleFactor p0 p1 h = some r) : gb_Ev X 2 mX0_idleFactor 0 (gb_L0 [.int p0, .int p1]) [] h (gb_wJ r) := by
  unfold fnX0_idleFactor at hF
  refine gb_weak (L' := [some (.int p0), some (.int p1), none, none]) (And.intro rfl (And.intro rfl trivial)) ?_
  refine gb_iload_n dX0_idleFactor_0 rfl rfl ?_
  obtain ⟨x1, h2, cx1, hF⟩ := gb_bdE hF
  refine gb_cS (As := [.int p0]) (S := []) (v := some (.int x1)) (h1 := h2) (S2 := [.int x1]) dX0_idleFactor_1 mtX0_low lX0_41 stX0_low (fnX0_low_ok _ _ cx1) (by decide) rfl (Nat.le_of_ble_eq_true rfl) (Nat.le_of_ble_eq_true rfl) rfl rfl ?_
  refine gb_if_ne (tgt := 11) dX0_idleFactor_4 (by decide) (fun c3 => ?_) (fun c3 => ?_)
  · replace hF := gb_ifF c3 hF
    refine gb_iload_n dX0_idleFactor_11 rfl rfl ?_
    refine gb_i2l dX0_idleFactor_12 ?_
    exact gb_wk (fbX0_idleFactor_13_ok p0 p1 (p1.toInt64) h2 r hF) (And.intro rfl (And.intro rfl trivial))
  · replace hF := gb_ifT c3 hF
    refine gb_lconst (v := (1 : Int64)) dX0_idleFactor_7 (by decide) ?_
    refine gb_goto (tgt := 13) dX0_idleFactor_8 (by decide) ?_
    exact gb_wk (fbX0_idleFactor_13_ok p0 p1 (1 : Int64) h2 r hF) (And.intro rfl (And.intro rfl trivial))
def fbX0_send_84 (k7 : Nat → Nat → Nat → Nat → Int32 → gb_H → Option (Unit × gb_H)) (v0 : Nat) (v1 : Nat) (v2 : Nat) (v3 : Nat) (v4 : Int32) (h : gb_H) : Option (Unit × gb_H) :=
  gb_lt (v4 + (1 : Int32)) fun x1 =>
  k7 v0 v1 v2 v3 x1 h
theorem fbX0_send_84_ok {X : gb_X} {k7 : Nat → Nat → Nat → Nat → Int32 → gb_H → Option (Unit × gb_H)} (hk7 : ∀ v0 v1 v2 v3 v4 h r, k7 v0 v1 v2 v3 v4 h = some r → gb_Ev X 4 mX0_send 7 [some (.ref v0), some (.ref v1), some (.ref v2), some (.ref v3), some (.int v4), none, none] [] h (gb_wV r)) (v0 : Nat) (v1 : Nat) (v2 : Nat) (v3 : Nat) (v4 : Int32) (h : gb_H) (r : Unit × gb_H) (hF : fbX0_send_84 k7 v0 v1 v2 v3 v4 h = some r) : gb_Ev X 4 mX0_send 84 [some (.ref v0), some (.ref v1), some (.ref v2), some (.ref v3), some (.int v4), none, none] [] h (gb_wV r) := by
  unfold fbX0_send_84 at hF
  obtain ⟨x1, ex1, hF⟩ := gb_ltE hF
  refine gb_iinc (v := x1) (L' := [some (.ref v0), some (.ref v1), some (.ref v2), some (.ref v3), some (.int x1), none, none]) dX0_send_84 rfl (by rw [ex1]; rfl) (by decide) rfl rfl ?_
  refine gb_goto (tgt := 7) dX0_send_87 (by decide) ?_
  exact gb_wk (hk7 v0 v1 v2 v3 x1 h r hF) (And.intro rfl (And.intro rfl (And.intro rfl (And.intro rfl (And.intro rfl trivial)))))
def fbX0_send_7 (k7 : Nat → Nat → Nat → Nat → Int32 → gb_H → Option (Unit × gb_H)) (v0 : Nat) (v1 : Nat) (v2 : Nat) (v3 : Nat) (v4 : Int32) (h : gb_H) : Option (Unit × gb_H) :=
  gb_gd (gb_k h v0 0) <|
  if (gb_I h v0 6) ≤ v4 then
    some ((), h)
  else
    gb_gd (gb_k h v0 0) <|
    gb_rd (gb_R h v0 0) fun a4 =>
    gb_gd (gb_k h a4 20) <|
    gb_gd (gb_in h a4 v4) <|
    gb_lt (gb_I h a4 v4.toNatClampNeg) fun x7 =>
    gb_bd (fnX0_placeOfKey x7 h) fun x8 h9 =>
    gb_gd (gb_k h9 v0 0) <|
    gb_bd (fnX0_isZero v0 x8 h9) fun x11 h12 =>
    if x11 = 0 then
      gb_gd (gb_k h12 v1 5) <|
      gb_bd (fnX5_actsOn v1 x7 h12) fun x15 h16 =>
      if x15 = 0 then
        gb_gd (gb_k h16 v1 5) <|
        gb_bd (fnX5_base v1 h16) fun x19 h20 =>
        gb_bd (fnX0_idleFactor x7 x19 h20) fun x21 h22 =>
        gb_gd (gb_k h22 v3 0) <|
        gb_bd (fnX0_addScaled v3 x7 x21 (0 : Int32) (0 : Int32) v0 x8 h22) fun _ h25 =>
        fbX0_send_84 k7 v0 v1 v2 v3 v4 h25
      else
        gb_gd (gb_k h16 v0 0) <|
        gb_bd (fnX0_spread v0 x7 v2 v3 h16) fun _ h28 =>
        fbX0_send_84 k7 v0 v1 v2 v3 v4 h28
    else
      fbX0_send_84 k7 v0 v1 v2 v3 v4 h12
theorem fbX0_send_7_ok {X : gb_X} {k7 : Nat → Nat → Nat → Nat → Int32 → gb_H → Option (Unit × gb_H)} (hk7 : ∀ v0 v1 v2 v3 v4 h r, k7 v0 v1 v2 v3 v4 h = some r → gb_Ev X 4 mX0_send 7 [some (.ref v0), some (.ref v1), some (.ref v2), some (.ref v3), some (.int v4), none, none] [] h (gb_wV r)) (v0 : Nat) (v1 : Nat) (v2 : Nat) (v3 : Nat) (v4 : Int32) (h : gb_H) (r : Unit × gb_H) (hF : fbX0_send_7 k7 v0 v1 v2 v3 v4 h = some r) : gb_Ev X 4 mX0_send 7 [some (.ref v0), some (.ref v1), some (.ref v2), some (.ref v3), some (.int v4), none, none] [] h (gb_wV r) := by
  unfold fbX0_send_7 at hF
  refine gb_iload dX0_send_7 rfl ?_
  refine gb_aload_n dX0_send_9 rfl rfl ?_
  obtain ⟨g1, hF⟩ := gb_gdE hF
  refine gb_getI fX0_68 dX0_send_10 (gb_kE g1) ?_
  refine gb_icmp_ge (tgt := 90) dX0_send_13 (by decide) (fun c2 => ?_) (fun c2 => ?_)
  · replace hF := gb_ifT c2 hF
    cases hF
    exact gb_vret dX0_send_90 rfl
  · replace hF := gb_ifF c2 hF
    refine gb_aload_n dX0_send_16 rfl rfl ?_
    obtain ⟨g3, hF⟩ := gb_gdE hF
    obtain ⟨a4, ea4, hF⟩ := gb_rdE hF
    refine gb_getR fX0_9 dX0_send_17 (gb_kE g3) ea4 ?_
    refine gb_iload dX0_send_20 rfl ?_
    obtain ⟨g5, hF⟩ := gb_gdE hF
    obtain ⟨g6, hF⟩ := gb_gdE hF
    refine gb_iald dX0_send_22 (gb_kE g5) (gb_inE g6) ?_
    obtain ⟨x7, ex7, hF⟩ := gb_ltE hF
    refine gb_topI ex7 ?_
    refine gb_istore (L' := [some (.ref v0), some (.ref v1), some (.ref v2), some (.ref v3), some (.int v4), some (.int x7), none]) dX0_send_23 (by decide) rfl rfl ?_
    refine gb_iload dX0_send_25 rfl ?_
    obtain ⟨x8, h9, cx8, hF⟩ := gb_bdE hF
    refine gb_cS (As := [.int x7]) (S := []) (v := some (.int x8)) (h1 := h9) (S2 := [.int x8]) dX0_send_27 mtX0_placeOfKey lX0_58 stX0_placeOfKey (fnX0_placeOfKey_ok _ _ cx8) (by decide) rfl (Nat.le_of_ble_eq_true rfl) (Nat.le_of_ble_eq_true rfl) rfl rfl ?_
    refine gb_istore (L' := [some (.ref v0), some (.ref v1), some (.ref v2), some (.ref v3), some (.int v4), some (.int x7), some (.int x8)]) dX0_send_30 (by decide) rfl rfl ?_
    refine gb_aload_n dX0_send_32 rfl rfl ?_
    refine gb_iload dX0_send_33 rfl ?_
    obtain ⟨g10, hF⟩ := gb_gdE hF
    obtain ⟨x11, h12, cx11, hF⟩ := gb_bdE hF
    refine gb_cV (As := [.int x8]) (S := []) (v := some (.int x11)) (h1 := h12) (S2 := [.int x11]) cf0 dX0_send_35 mtX0_isZero lX0_72 inX0_isZero seX0_isZero (gb_kE g10) (fnX0_isZero_ok _ _ cx11) (by decide) rfl (Nat.le_of_ble_eq_true rfl) (Nat.le_of_ble_eq_true rfl) rfl rfl ?_
    refine gb_if_eq (tgt := 44) dX0_send_38 (by decide) (fun c13 => ?_) (fun c13 => ?_)
    · replace hF := gb_ifT c13 hF
      refine gb_aload_n dX0_send_44 rfl rfl ?_
      refine gb_iload dX0_send_45 rfl ?_
      obtain ⟨g14, hF⟩ := gb_gdE hF
      obtain ⟨x15, h16, cx15, hF⟩ := gb_bdE hF
      refine gb_cV (As := [.int x7]) (S := []) (v := some (.int x15)) (h1 := h16) (S2 := [.int x15]) cf5 dX0_send_47 mtX5_actsOn lX0_76 inX5_actsOn seX5_actsOn (gb_kE g14) (fnX5_actsOn_ok _ _ cx15) (by decide) rfl (Nat.le_of_ble_eq_true rfl) (Nat.le_of_ble_eq_true rfl) rfl rfl ?_
      refine gb_if_eq (tgt := 64) dX0_send_50 (by decide) (fun c17 => ?_) (fun c17 => ?_)
      · replace hF := gb_ifT c17 hF
        refine gb_aload_n dX0_send_64 rfl rfl ?_
        refine gb_iload dX0_send_65 rfl ?_
        refine gb_iload dX0_send_67 rfl ?_
        refine gb_aload_n dX0_send_69 rfl rfl ?_
        obtain ⟨g18, hF⟩ := gb_gdE hF
        obtain ⟨x19, h20, cx19, hF⟩ := gb_bdE hF
        refine gb_cV (As := []) (S := [.int x7, .int x7, .ref v3]) (v := some (.int x19)) (h1 := h20) (S2 := [.int x19, .int x7, .int x7, .ref v3]) cf5 dX0_send_70 mtX5_base lX0_85 inX5_base seX5_base (gb_kE g18) (fnX5_base_ok _ _ cx19) (by decide) rfl (Nat.le_of_ble_eq_true rfl) (Nat.le_of_ble_eq_true rfl) rfl rfl ?_
        obtain ⟨x21, h22, cx21, hF⟩ := gb_bdE hF
        refine gb_cS (As := [.int x7, .int x19]) (S := [.int x7, .ref v3]) (v := some (.long x21)) (h1 := h22) (S2 := [.long x21, .int x7, .ref v3]) dX0_send_73 mtX0_idleFactor lX0_89 stX0_idleFactor (fnX0_idleFactor_ok _ _ cx21) (by decide) rfl (Nat.le_of_ble_eq_true rfl) (Nat.le_of_ble_eq_true rfl) rfl rfl ?_
        refine gb_iconst (v := (0 : Int32)) dX0_send_76 (by decide) ?_
        refine gb_iconst (v := (0 : Int32)) dX0_send_77 (by decide) ?_
        refine gb_aload_n dX0_send_78 rfl rfl ?_
        refine gb_iload dX0_send_79 rfl ?_
        obtain ⟨g23, hF⟩ := gb_gdE hF
        obtain ⟨x24, h25, cx24, hF⟩ := gb_bdE hF
        refine gb_cV (As := [.int x7, .long x21, .int (0 : Int32), .int (0 : Int32), .ref v0, .int x8]) (S := []) (v := none) (h1 := h25) (S2 := []) cf0 dX0_send_81 mtX0_addScaled lX0_93 inX0_addScaled seX0_addScaled (gb_kE g23) (fnX0_addScaled_ok _ _ cx24) (by decide) rfl (Nat.le_of_ble_eq_true rfl) (Nat.le_of_ble_eq_true rfl) rfl rfl ?_
        exact gb_wk (fbX0_send_84_ok hk7 v0 v1 v2 v3 v4 h25 r hF) (And.intro rfl (And.intro rfl (And.intro rfl (And.intro rfl (And.intro rfl trivial)))))
      · replace hF := gb_ifF c17 hF
        refine gb_aload_n dX0_send_53 rfl rfl ?_
        refine gb_iload dX0_send_54 rfl ?_
        refine gb_aload_n dX0_send_56 rfl rfl ?_
        refine gb_aload_n dX0_send_57 rfl rfl ?_
        obtain ⟨g26, hF⟩ := gb_gdE hF
        obtain ⟨x27, h28, cx27, hF⟩ := gb_bdE hF
        refine gb_cV (As := [.int x7, .ref v2, .ref v3]) (S := []) (v := none) (h1 := h28) (S2 := []) cf0 dX0_send_58 mtX0_spread lX0_81 inX0_spread seX0_spread (gb_kE g26) (fnX0_spread_ok _ _ cx27) (by decide) rfl (Nat.le_of_ble_eq_true rfl) (Nat.le_of_ble_eq_true rfl) rfl rfl ?_
        refine gb_goto (tgt := 84) dX0_send_61 (by decide) ?_
        exact gb_wk (fbX0_send_84_ok hk7 v0 v1 v2 v3 v4 h28 r hF) (And.intro rfl (And.intro rfl (And.intro rfl (And.intro rfl (And.intro rfl trivial)))))
    · replace hF := gb_ifF c13 hF
      refine gb_goto (tgt := 84) dX0_send_41 (by decide) ?_
      exact gb_wk (fbX0_send_84_ok hk7 v0 v1 v2 v3 v4 h12 r hF) (And.intro rfl (And.intro rfl (And.intro rfl (And.intro rfl (And.intro rfl trivial)))))
def lpX0_send_7 (n : Nat) (v0 : Nat) (v1 : Nat) (v2 : Nat) (v3 : Nat) (v4 : Int32) (h : gb_H) : Option (Unit × gb_H) := gb_lp (σ := Nat × Nat × Nat × Nat × Int32 × gb_H) (fun k s => fbX0_send_7 (fun v0 v1 v2 v3 v4 h => k (v0, v1, v2, v3, v4, h)) s.1 s.2.1 s.2.2.1 s.2.2.2.1 s.2.2.2.2.1 s.2.2.2.2.2) n (v0, v1, v2, v3, v4, h)
theorem lpX0_send_7_ok {X : gb_X}  (n : Nat) (v0 : Nat) (v1 : Nat) (v2 : Nat) (v3 : Nat) (v4 : Int32) (h : gb_H) (r : Unit × gb_H) (hF : lpX0_send_7 n v0 v1 v2 v3 v4 h = some r) : gb_Ev X 4 mX0_send 7 [some (.ref v0), some (.ref v1), some (.ref v2), some (.ref v3), some (.int v4), none, none] [] h (gb_wV r) := by
  exact gb_lpE (σ := Nat × Nat × Nat × Nat × Int32 × gb_H) (P := fun s r => gb_Ev X 4 mX0_send 7 [some (.ref s.1), some (.ref s.2.1), some (.ref s.2.2.1), some (.ref s.2.2.2.1), some (.int s.2.2.2.2.1), none, none] [] s.2.2.2.2.2 (gb_wV r)) (fun k hk s r hs => fbX0_send_7_ok (fun v0 v1 v2 v3 v4 h r e => hk (v0, v1, v2, v3, v4, h) r e) _ _ _ _ _ _ r hs) n (v0, v1, v2, v3, v4, h) r hF
def fnX0_send (p0 : Nat) (p1 : Nat) (p2 : Nat) (p3 : Nat) (h : gb_H) : Option (Unit × gb_H) :=
  gb_gd (gb_k h p3 0) <|
  gb_bd (fnX0_wipe p3 h) fun _ h3 =>
  lpX0_send_7 gb_FU p0 p1 p2 p3 (0 : Int32) h3
theorem fnX0_send_ok {X : gb_X}  {p0 : Nat} {p1 : Nat} {p2 : Nat} {p3 : Nat} (h : gb_H) (r : Unit × gb_H) (hF : fnX0_send p0 p1 p2 p3 h = some r) : gb_Ev X 4 mX0_send 0 (gb_L0 [.ref p0, .ref p1, .ref p2, .ref p3]) [] h (gb_wV r) := by
  unfold fnX0_send at hF
  refine gb_weak (L' := [some (.ref p0), some (.ref p1), some (.ref p2), some (.ref p3), none, none, none]) (And.intro rfl (And.intro rfl (And.intro rfl (And.intro rfl trivial)))) ?_
  refine gb_aload_n dX0_send_0 rfl rfl ?_
  obtain ⟨g1, hF⟩ := gb_gdE hF
  obtain ⟨x2, h3, cx2, hF⟩ := gb_bdE hF
  refine gb_cV (As := []) (S := []) (v := none) (h1 := h3) (S2 := []) cf0 dX0_send_1 mtX0_wipe lX0_61 inX0_wipe seX0_wipe (gb_kE g1) (fnX0_wipe_ok _ _ cx2) (by decide) rfl (Nat.le_of_ble_eq_true rfl) (Nat.le_of_ble_eq_true rfl) rfl rfl ?_
  refine gb_iconst (v := (0 : Int32)) dX0_send_4 (by decide) ?_
  refine gb_istore (L' := [some (.ref p0), some (.ref p1), some (.ref p2), some (.ref p3), some (.int (0 : Int32)), none, none]) dX0_send_5 (by decide) rfl rfl ?_
  exact gb_wk (lpX0_send_7_ok gb_FU p0 p1 p2 p3 (0 : Int32) h3 r hF) (And.intro rfl (And.intro rfl (And.intro rfl (And.intro rfl (And.intro rfl trivial)))))
def fnX0_weightWhole (p0 : Nat) (p1 : Int32) (h : gb_H) : Option (Int64 × gb_H) :=
  gb_bd (fnX0_placeOfKey p1 h) fun x1 h2 =>
  gb_gd (gb_k h2 p0 0) <|
  gb_rd (gb_R h2 p0 2) fun a4 =>
  gb_gd (gb_k h2 a4 23) <|
  gb_gd (gb_in h2 a4 x1) <|
  gb_gd (gb_k h2 p0 0) <|
  gb_rd (gb_R h2 p0 2) fun a8 =>
  gb_gd (gb_k h2 a8 23) <|
  gb_gd (gb_in h2 a8 x1) <|
  gb_gd (gb_k h2 p0 0) <|
  gb_rd (gb_R h2 p0 3) fun a12 =>
  gb_gd (gb_k h2 a12 23) <|
  gb_gd (gb_in h2 a12 x1) <|
  gb_gd (gb_k h2 p0 0) <|
  gb_rd (gb_R h2 p0 3) fun a16 =>
  gb_gd (gb_k h2 a16 23) <|
  gb_gd (gb_in h2 a16 x1) <|
  gb_gd (gb_k h2 p0 0) <|
  gb_rd (gb_R h2 p0 4) fun a20 =>
  gb_gd (gb_k h2 a20 23) <|
  gb_gd (gb_in h2 a20 x1) <|
  gb_gd (gb_k h2 p0 0) <|
  gb_rd (gb_R h2 p0 4) fun a24 =>
  gb_gd (gb_k h2 a24 23) <|
  gb_gd (gb_in h2 a24 x1) <|
  gb_gd (gb_k h2 p0 0) <|
  gb_rd (gb_R h2 p0 5) fun a28 =>
  gb_gd (gb_k h2 a28 23) <|
  gb_gd (gb_in h2 a28 x1) <|
  gb_gd (gb_k h2 p0 0) <|
  gb_rd (gb_R h2 p0 5) fun a32 =>
  gb_gd (gb_k h2 a32 23) <|
  gb_gd (gb_in h2 a32 x1) <|
  gb_lt (((((gb_L h2 a4 x1.toNatClampNeg) * (gb_L h2 a8 x1.toNatClampNeg)) + (((2 : Int64) * (gb_L h2 a12 x1.toNatClampNeg)) * (gb_L h2 a16 x1.toNatClampNeg))) + ((gb_L h2 a20 x1.toNatClampNeg) * (gb_L h2 a24 x1.toNatClampNeg))) + (((2 : Int64) * (gb_L h2 a28 x1.toNatClampNeg)) * (gb_L h2 a32 x1.toNatClampNeg))) fun x35 =>
  gb_bd (fnX0_orders p1 h2) fun x36 h37 =>
  some (x35 * (x36.toInt64), h37)
theorem fnX0_weightWhole_ok {X : gb_X}  {p0 : Nat} {p1 : Int32} (h : gb_H) (r : Int64 × gb_H) (hF : fnX0_weightWhole p0 p1 h = some r) : gb_Ev X 3 mX0_weightWhole 0 (gb_L0 [.ref p0, .int p1]) [] h (gb_wJ r) := by
  unfold fnX0_weightWhole at hF
  refine gb_weak (L' := [some (.ref p0), some (.int p1), none, none, none]) (And.intro rfl (And.intro rfl trivial)) ?_
  refine gb_iload_n dX0_weightWhole_0 rfl rfl ?_
  obtain ⟨x1, h2, cx1, hF⟩ := gb_bdE hF
  refine gb_cS (As := [.int p1]) (S := []) (v := some (.int x1)) (h1 := h2) (S2 := [.int x1]) dX0_weightWhole_1 mtX0_placeOfKey lX0_58 stX0_placeOfKey (fnX0_placeOfKey_ok _ _ cx1) (by decide) rfl (Nat.le_of_ble_eq_true rfl) (Nat.le_of_ble_eq_true rfl) rfl rfl ?_
  refine gb_istore_n (L' := [some (.ref p0), some (.int p1), some (.int x1), none, none]) dX0_weightWhole_4 rfl (by decide) rfl rfl ?_
  refine gb_aload_n dX0_weightWhole_5 rfl rfl ?_
  obtain ⟨g3, hF⟩ := gb_gdE hF
  obtain ⟨a4, ea4, hF⟩ := gb_rdE hF
  refine gb_getR fX0_19 dX0_weightWhole_6 (gb_kE g3) ea4 ?_
  refine gb_iload_n dX0_weightWhole_9 rfl rfl ?_
  obtain ⟨g5, hF⟩ := gb_gdE hF
  obtain ⟨g6, hF⟩ := gb_gdE hF
  refine gb_lald dX0_weightWhole_10 (gb_kE g5) (gb_inE g6) ?_
  refine gb_aload_n dX0_weightWhole_11 rfl rfl ?_
  obtain ⟨g7, hF⟩ := gb_gdE hF
  obtain ⟨a8, ea8, hF⟩ := gb_rdE hF
  refine gb_getR fX0_19 dX0_weightWhole_12 (gb_kE g7) ea8 ?_
  refine gb_iload_n dX0_weightWhole_15 rfl rfl ?_
  obtain ⟨g9, hF⟩ := gb_gdE hF
  obtain ⟨g10, hF⟩ := gb_gdE hF
  refine gb_lald dX0_weightWhole_16 (gb_kE g9) (gb_inE g10) ?_
  refine gb_lmul dX0_weightWhole_17 ?_
  refine gb_ldc2 (v := (2 : Int64)) dX0_weightWhole_18 kX0_127 ?_
  refine gb_aload_n dX0_weightWhole_21 rfl rfl ?_
  obtain ⟨g11, hF⟩ := gb_gdE hF
  obtain ⟨a12, ea12, hF⟩ := gb_rdE hF
  refine gb_getR fX0_23 dX0_weightWhole_22 (gb_kE g11) ea12 ?_
  refine gb_iload_n dX0_weightWhole_25 rfl rfl ?_
  obtain ⟨g13, hF⟩ := gb_gdE hF
  obtain ⟨g14, hF⟩ := gb_gdE hF
  refine gb_lald dX0_weightWhole_26 (gb_kE g13) (gb_inE g14) ?_
  refine gb_lmul dX0_weightWhole_27 ?_
  refine gb_aload_n dX0_weightWhole_28 rfl rfl ?_
  obtain ⟨g15, hF⟩ := gb_gdE hF
  obtain ⟨a16, ea16, hF⟩ := gb_rdE hF
  refine gb_getR fX0_23 dX0_weightWhole_29 (gb_kE g15) ea16 ?_
  refine gb_iload_n dX0_weightWhole_32 rfl rfl ?_
  obtain ⟨g17, hF⟩ := gb_gdE hF
  obtain ⟨g18, hF⟩ := gb_gdE hF
  refine gb_lald dX0_weightWhole_33 (gb_kE g17) (gb_inE g18) ?_
  refine gb_lmul dX0_weightWhole_34 ?_
  refine gb_ladd dX0_weightWhole_35 ?_
  refine gb_aload_n dX0_weightWhole_36 rfl rfl ?_
  obtain ⟨g19, hF⟩ := gb_gdE hF
  obtain ⟨a20, ea20, hF⟩ := gb_rdE hF
  refine gb_getR fX0_26 dX0_weightWhole_37 (gb_kE g19) ea20 ?_
  refine gb_iload_n dX0_weightWhole_40 rfl rfl ?_
  obtain ⟨g21, hF⟩ := gb_gdE hF
  obtain ⟨g22, hF⟩ := gb_gdE hF
  refine gb_lald dX0_weightWhole_41 (gb_kE g21) (gb_inE g22) ?_
  refine gb_aload_n dX0_weightWhole_42 rfl rfl ?_
  obtain ⟨g23, hF⟩ := gb_gdE hF
  obtain ⟨a24, ea24, hF⟩ := gb_rdE hF
  refine gb_getR fX0_26 dX0_weightWhole_43 (gb_kE g23) ea24 ?_
  refine gb_iload_n dX0_weightWhole_46 rfl rfl ?_
  obtain ⟨g25, hF⟩ := gb_gdE hF
  obtain ⟨g26, hF⟩ := gb_gdE hF
  refine gb_lald dX0_weightWhole_47 (gb_kE g25) (gb_inE g26) ?_
  refine gb_lmul dX0_weightWhole_48 ?_
  refine gb_ladd dX0_weightWhole_49 ?_
  refine gb_ldc2 (v := (2 : Int64)) dX0_weightWhole_50 kX0_127 ?_
  refine gb_aload_n dX0_weightWhole_53 rfl rfl ?_
  obtain ⟨g27, hF⟩ := gb_gdE hF
  obtain ⟨a28, ea28, hF⟩ := gb_rdE hF
  refine gb_getR fX0_29 dX0_weightWhole_54 (gb_kE g27) ea28 ?_
  refine gb_iload_n dX0_weightWhole_57 rfl rfl ?_
  obtain ⟨g29, hF⟩ := gb_gdE hF
  obtain ⟨g30, hF⟩ := gb_gdE hF
  refine gb_lald dX0_weightWhole_58 (gb_kE g29) (gb_inE g30) ?_
  refine gb_lmul dX0_weightWhole_59 ?_
  refine gb_aload_n dX0_weightWhole_60 rfl rfl ?_
  obtain ⟨g31, hF⟩ := gb_gdE hF
  obtain ⟨a32, ea32, hF⟩ := gb_rdE hF
  refine gb_getR fX0_29 dX0_weightWhole_61 (gb_kE g31) ea32 ?_
  refine gb_iload_n dX0_weightWhole_64 rfl rfl ?_
  obtain ⟨g33, hF⟩ := gb_gdE hF
  obtain ⟨g34, hF⟩ := gb_gdE hF
  refine gb_lald dX0_weightWhole_65 (gb_kE g33) (gb_inE g34) ?_
  refine gb_lmul dX0_weightWhole_66 ?_
  refine gb_ladd dX0_weightWhole_67 ?_
  obtain ⟨x35, ex35, hF⟩ := gb_ltE hF
  refine gb_topJ ex35 ?_
  refine gb_lstore_n (L' := [some (.ref p0), some (.int p1), some (.int x1), some (.long x35), none]) dX0_weightWhole_68 rfl (by decide) rfl rfl ?_
  refine gb_lload_n dX0_weightWhole_69 rfl rfl ?_
  refine gb_iload_n dX0_weightWhole_70 rfl rfl ?_
  obtain ⟨x36, h37, cx36, hF⟩ := gb_bdE hF
  refine gb_cS (As := [.int p1]) (S := [.long x35]) (v := some (.int x36)) (h1 := h37) (S2 := [.int x36, .long x35]) dX0_weightWhole_71 mtX0_orders lX0_129 stX0_orders (fnX0_orders_ok _ _ cx36) (by decide) rfl (Nat.le_of_ble_eq_true rfl) (Nat.le_of_ble_eq_true rfl) rfl rfl ?_
  refine gb_i2l dX0_weightWhole_74 ?_
  refine gb_lmul dX0_weightWhole_75 ?_
  cases hF
  exact gb_lret dX0_weightWhole_76 rfl
def fnX0_weightRoot (p0 : Nat) (p1 : Int32) (h : gb_H) : Option (Int64 × gb_H) :=
  gb_bd (fnX0_placeOfKey p1 h) fun x1 h2 =>
  gb_gd (gb_k h2 p0 0) <|
  gb_rd (gb_R h2 p0 2) fun a4 =>
  gb_gd (gb_k h2 a4 23) <|
  gb_gd (gb_in h2 a4 x1) <|
  gb_gd (gb_k h2 p0 0) <|
  gb_rd (gb_R h2 p0 3) fun a8 =>
  gb_gd (gb_k h2 a8 23) <|
  gb_gd (gb_in h2 a8 x1) <|
  gb_gd (gb_k h2 p0 0) <|
  gb_rd (gb_R h2 p0 4) fun a12 =>
  gb_gd (gb_k h2 a12 23) <|
  gb_gd (gb_in h2 a12 x1) <|
  gb_gd (gb_k h2 p0 0) <|
  gb_rd (gb_R h2 p0 5) fun a16 =>
  gb_gd (gb_k h2 a16 23) <|
  gb_gd (gb_in h2 a16 x1) <|
  gb_bd (fnX0_orders p1 h2) fun x19 h20 =>
  some (((2 : Int64) * (((gb_L h2 a4 x1.toNatClampNeg) * (gb_L h2 a8 x1.toNatClampNeg)) + ((gb_L h2 a12 x1.toNatClampNeg) * (gb_L h2 a16 x1.toNatClampNeg)))) * (x19.toInt64), h20)
theorem fnX0_weightRoot_ok {X : gb_X}  {p0 : Nat} {p1 : Int32} (h : gb_H) (r : Int64 × gb_H) (hF : fnX0_weightRoot p0 p1 h = some r) : gb_Ev X 3 mX0_weightRoot 0 (gb_L0 [.ref p0, .int p1]) [] h (gb_wJ r) := by
  unfold fnX0_weightRoot at hF
  refine gb_weak (L' := [some (.ref p0), some (.int p1), none]) (And.intro rfl (And.intro rfl trivial)) ?_
  refine gb_iload_n dX0_weightRoot_0 rfl rfl ?_
  obtain ⟨x1, h2, cx1, hF⟩ := gb_bdE hF
  refine gb_cS (As := [.int p1]) (S := []) (v := some (.int x1)) (h1 := h2) (S2 := [.int x1]) dX0_weightRoot_1 mtX0_placeOfKey lX0_58 stX0_placeOfKey (fnX0_placeOfKey_ok _ _ cx1) (by decide) rfl (Nat.le_of_ble_eq_true rfl) (Nat.le_of_ble_eq_true rfl) rfl rfl ?_
  refine gb_istore_n (L' := [some (.ref p0), some (.int p1), some (.int x1)]) dX0_weightRoot_4 rfl (by decide) rfl rfl ?_
  refine gb_ldc2 (v := (2 : Int64)) dX0_weightRoot_5 kX0_127 ?_
  refine gb_aload_n dX0_weightRoot_8 rfl rfl ?_
  obtain ⟨g3, hF⟩ := gb_gdE hF
  obtain ⟨a4, ea4, hF⟩ := gb_rdE hF
  refine gb_getR fX0_19 dX0_weightRoot_9 (gb_kE g3) ea4 ?_
  refine gb_iload_n dX0_weightRoot_12 rfl rfl ?_
  obtain ⟨g5, hF⟩ := gb_gdE hF
  obtain ⟨g6, hF⟩ := gb_gdE hF
  refine gb_lald dX0_weightRoot_13 (gb_kE g5) (gb_inE g6) ?_
  refine gb_aload_n dX0_weightRoot_14 rfl rfl ?_
  obtain ⟨g7, hF⟩ := gb_gdE hF
  obtain ⟨a8, ea8, hF⟩ := gb_rdE hF
  refine gb_getR fX0_23 dX0_weightRoot_15 (gb_kE g7) ea8 ?_
  refine gb_iload_n dX0_weightRoot_18 rfl rfl ?_
  obtain ⟨g9, hF⟩ := gb_gdE hF
  obtain ⟨g10, hF⟩ := gb_gdE hF
  refine gb_lald dX0_weightRoot_19 (gb_kE g9) (gb_inE g10) ?_
  refine gb_lmul dX0_weightRoot_20 ?_
  refine gb_aload_n dX0_weightRoot_21 rfl rfl ?_
  obtain ⟨g11, hF⟩ := gb_gdE hF
  obtain ⟨a12, ea12, hF⟩ := gb_rdE hF
  refine gb_getR fX0_26 dX0_weightRoot_22 (gb_kE g11) ea12 ?_
  refine gb_iload_n dX0_weightRoot_25 rfl rfl ?_
  obtain ⟨g13, hF⟩ := gb_gdE hF
  obtain ⟨g14, hF⟩ := gb_gdE hF
  refine gb_lald dX0_weightRoot_26 (gb_kE g13) (gb_inE g14) ?_
  refine gb_aload_n dX0_weightRoot_27 rfl rfl ?_
  obtain ⟨g15, hF⟩ := gb_gdE hF
  obtain ⟨a16, ea16, hF⟩ := gb_rdE hF
  refine gb_getR fX0_29 dX0_weightRoot_28 (gb_kE g15) ea16 ?_
  refine gb_iload_n dX0_weightRoot_31 rfl rfl ?_
  obtain ⟨g17, hF⟩ := gb_gdE hF
  obtain ⟨g18, hF⟩ := gb_gdE hF
  refine gb_lald dX0_weightRoot_32 (gb_kE g17) (gb_inE g18) ?_
  refine gb_lmul dX0_weightRoot_33 ?_
  refine gb_ladd dX0_weightRoot_34 ?_
  refine gb_lmul dX0_weightRoot_35 ?_
  refine gb_iload_n dX0_weightRoot_36 rfl rfl ?_
  obtain ⟨x19, h20, cx19, hF⟩ := gb_bdE hF
  refine gb_cS (As := [.int p1]) (S := [.long ((2 : Int64) * (((gb_L h2 a4 x1.toNatClampNeg) * (gb_L h2 a8 x1.toNatClampNeg)) + ((gb_L h2 a12 x1.toNatClampNeg) * (gb_L h2 a16 x1.toNatClampNeg))))]) (v := some (.int x19)) (h1 := h20) (S2 := [.int x19, .long ((2 : Int64) * (((gb_L h2 a4 x1.toNatClampNeg) * (gb_L h2 a8 x1.toNatClampNeg)) + ((gb_L h2 a12 x1.toNatClampNeg) * (gb_L h2 a16 x1.toNatClampNeg))))]) dX0_weightRoot_37 mtX0_orders lX0_129 stX0_orders (fnX0_orders_ok _ _ cx19) (by decide) rfl (Nat.le_of_ble_eq_true rfl) (Nat.le_of_ble_eq_true rfl) rfl rfl ?_
  refine gb_i2l dX0_weightRoot_40 ?_
  refine gb_lmul dX0_weightRoot_41 ?_
  cases hF
  exact gb_lret dX0_weightRoot_42 rfl
def fnX0_rowOfKey (p0 : Int32) (h : gb_H) : Option (Int32 × gb_H) :=
  gb_bd (fnX0_low p0 h) fun x1 h2 =>
  gb_bd (fnX0_pathOf x1 h2) fun x3 h4 =>
  gb_bd (fnX0_mid p0 h4) fun x5 h6 =>
  gb_bd (fnX0_pathOf x5 h6) fun x7 h8 =>
  gb_bd (fnX0_high p0 h8) fun x9 h10 =>
  gb_bd (fnX0_pathOf x9 h10) fun x11 h12 =>
  gb_bd (fnX0_keyOf x3 x7 x11 h12) fun x13 h14 =>
  gb_bd (fnX0_placeOfKey x13 h14) fun x15 h16 =>
  some (x15, h16)
theorem fnX0_rowOfKey_ok {X : gb_X}  {p0 : Int32} (h : gb_H) (r : Int32 × gb_H) (hF : fnX0_rowOfKey p0 h = some r) : gb_Ev X 3 mX0_rowOfKey 0 (gb_L0 [.int p0]) [] h (gb_wI r) := by
  unfold fnX0_rowOfKey at hF
  refine gb_weak (L' := [some (.int p0)]) (And.intro rfl trivial) ?_
  refine gb_iload_n dX0_rowOfKey_0 rfl rfl ?_
  obtain ⟨x1, h2, cx1, hF⟩ := gb_bdE hF
  refine gb_cS (As := [.int p0]) (S := []) (v := some (.int x1)) (h1 := h2) (S2 := [.int x1]) dX0_rowOfKey_1 mtX0_low lX0_41 stX0_low (fnX0_low_ok _ _ cx1) (by decide) rfl (Nat.le_of_ble_eq_true rfl) (Nat.le_of_ble_eq_true rfl) rfl rfl ?_
  obtain ⟨x3, h4, cx3, hF⟩ := gb_bdE hF
  refine gb_cS (As := [.int x1]) (S := []) (v := some (.int x3)) (h1 := h4) (S2 := [.int x3]) dX0_rowOfKey_4 mtX0_pathOf lX0_51 stX0_pathOf (fnX0_pathOf_ok _ _ cx3) (by decide) rfl (Nat.le_of_ble_eq_true rfl) (Nat.le_of_ble_eq_true rfl) rfl rfl ?_
  refine gb_iload_n dX0_rowOfKey_7 rfl rfl ?_
  obtain ⟨x5, h6, cx5, hF⟩ := gb_bdE hF
  refine gb_cS (As := [.int p0]) (S := [.int x3]) (v := some (.int x5)) (h1 := h6) (S2 := [.int x5, .int x3]) dX0_rowOfKey_8 mtX0_mid lX0_45 stX0_mid (fnX0_mid_ok _ _ cx5) (by decide) rfl (Nat.le_of_ble_eq_true rfl) (Nat.le_of_ble_eq_true rfl) rfl rfl ?_
  obtain ⟨x7, h8, cx7, hF⟩ := gb_bdE hF
  refine gb_cS (As := [.int x5]) (S := [.int x3]) (v := some (.int x7)) (h1 := h8) (S2 := [.int x7, .int x3]) dX0_rowOfKey_11 mtX0_pathOf lX0_51 stX0_pathOf (fnX0_pathOf_ok _ _ cx7) (by decide) rfl (Nat.le_of_ble_eq_true rfl) (Nat.le_of_ble_eq_true rfl) rfl rfl ?_
  refine gb_iload_n dX0_rowOfKey_14 rfl rfl ?_
  obtain ⟨x9, h10, cx9, hF⟩ := gb_bdE hF
  refine gb_cS (As := [.int p0]) (S := [.int x7, .int x3]) (v := some (.int x9)) (h1 := h10) (S2 := [.int x9, .int x7, .int x3]) dX0_rowOfKey_15 mtX0_high lX0_48 stX0_high (fnX0_high_ok _ _ cx9) (by decide) rfl (Nat.le_of_ble_eq_true rfl) (Nat.le_of_ble_eq_true rfl) rfl rfl ?_
  obtain ⟨x11, h12, cx11, hF⟩ := gb_bdE hF
  refine gb_cS (As := [.int x9]) (S := [.int x7, .int x3]) (v := some (.int x11)) (h1 := h12) (S2 := [.int x11, .int x7, .int x3]) dX0_rowOfKey_18 mtX0_pathOf lX0_51 stX0_pathOf (fnX0_pathOf_ok _ _ cx11) (by decide) rfl (Nat.le_of_ble_eq_true rfl) (Nat.le_of_ble_eq_true rfl) rfl rfl ?_
  obtain ⟨x13, h14, cx13, hF⟩ := gb_bdE hF
  refine gb_cS (As := [.int x3, .int x7, .int x11]) (S := []) (v := some (.int x13)) (h1 := h14) (S2 := [.int x13]) dX0_rowOfKey_21 mtX0_keyOf lX0_54 stX0_keyOf (fnX0_keyOf_ok _ _ cx13) (by decide) rfl (Nat.le_of_ble_eq_true rfl) (Nat.le_of_ble_eq_true rfl) rfl rfl ?_
  obtain ⟨x15, h16, cx15, hF⟩ := gb_bdE hF
  refine gb_cS (As := [.int x13]) (S := []) (v := some (.int x15)) (h1 := h16) (S2 := [.int x15]) dX0_rowOfKey_24 mtX0_placeOfKey lX0_58 stX0_placeOfKey (fnX0_placeOfKey_ok _ _ cx15) (by decide) rfl (Nat.le_of_ble_eq_true rfl) (Nat.le_of_ble_eq_true rfl) rfl rfl ?_
  cases hF
  exact gb_iret dX0_rowOfKey_27 rfl
def fnX0_pathsOf (p0 : Int32) (h : gb_H) : Option (Int32 × gb_H) :=
  gb_bd (fnX0_low p0 h) fun x1 h2 =>
  gb_bd (fnX0_pathOf x1 h2) fun x3 h4 =>
  gb_bd (fnX0_mid p0 h4) fun x5 h6 =>
  gb_bd (fnX0_pathOf x5 h6) fun x7 h8 =>
  gb_bd (fnX0_high p0 h8) fun x9 h10 =>
  gb_bd (fnX0_pathOf x9 h10) fun x11 h12 =>
  some (((((1 : Int32) <<< (x3 &&& 31)) ||| ((1 : Int32) <<< (x7 &&& 31))) ||| ((1 : Int32) <<< (x11 &&& 31))) >>> ((1 : Int32) &&& 31), h12)
theorem fnX0_pathsOf_ok {X : gb_X}  {p0 : Int32} (h : gb_H) (r : Int32 × gb_H) (hF : fnX0_pathsOf p0 h = some r) : gb_Ev X 2 mX0_pathsOf 0 (gb_L0 [.int p0]) [] h (gb_wI r) := by
  unfold fnX0_pathsOf at hF
  refine gb_weak (L' := [some (.int p0)]) (And.intro rfl trivial) ?_
  refine gb_iconst (v := (1 : Int32)) dX0_pathsOf_0 (by decide) ?_
  refine gb_iload_n dX0_pathsOf_1 rfl rfl ?_
  obtain ⟨x1, h2, cx1, hF⟩ := gb_bdE hF
  refine gb_cS (As := [.int p0]) (S := [.int (1 : Int32)]) (v := some (.int x1)) (h1 := h2) (S2 := [.int x1, .int (1 : Int32)]) dX0_pathsOf_2 mtX0_low lX0_41 stX0_low (fnX0_low_ok _ _ cx1) (by decide) rfl (Nat.le_of_ble_eq_true rfl) (Nat.le_of_ble_eq_true rfl) rfl rfl ?_
  obtain ⟨x3, h4, cx3, hF⟩ := gb_bdE hF
  refine gb_cS (As := [.int x1]) (S := [.int (1 : Int32)]) (v := some (.int x3)) (h1 := h4) (S2 := [.int x3, .int (1 : Int32)]) dX0_pathsOf_5 mtX0_pathOf lX0_51 stX0_pathOf (fnX0_pathOf_ok _ _ cx3) (by decide) rfl (Nat.le_of_ble_eq_true rfl) (Nat.le_of_ble_eq_true rfl) rfl rfl ?_
  refine gb_ishl dX0_pathsOf_8 ?_
  refine gb_iconst (v := (1 : Int32)) dX0_pathsOf_9 (by decide) ?_
  refine gb_iload_n dX0_pathsOf_10 rfl rfl ?_
  obtain ⟨x5, h6, cx5, hF⟩ := gb_bdE hF
  refine gb_cS (As := [.int p0]) (S := [.int (1 : Int32), .int ((1 : Int32) <<< (x3 &&& 31))]) (v := some (.int x5)) (h1 := h6) (S2 := [.int x5, .int (1 : Int32), .int ((1 : Int32) <<< (x3 &&& 31))]) dX0_pathsOf_11 mtX0_mid lX0_45 stX0_mid (fnX0_mid_ok _ _ cx5) (by decide) rfl (Nat.le_of_ble_eq_true rfl) (Nat.le_of_ble_eq_true rfl) rfl rfl ?_
  obtain ⟨x7, h8, cx7, hF⟩ := gb_bdE hF
  refine gb_cS (As := [.int x5]) (S := [.int (1 : Int32), .int ((1 : Int32) <<< (x3 &&& 31))]) (v := some (.int x7)) (h1 := h8) (S2 := [.int x7, .int (1 : Int32), .int ((1 : Int32) <<< (x3 &&& 31))]) dX0_pathsOf_14 mtX0_pathOf lX0_51 stX0_pathOf (fnX0_pathOf_ok _ _ cx7) (by decide) rfl (Nat.le_of_ble_eq_true rfl) (Nat.le_of_ble_eq_true rfl) rfl rfl ?_
  refine gb_ishl dX0_pathsOf_17 ?_
  refine gb_ior dX0_pathsOf_18 ?_
  refine gb_iconst (v := (1 : Int32)) dX0_pathsOf_19 (by decide) ?_
  refine gb_iload_n dX0_pathsOf_20 rfl rfl ?_
  obtain ⟨x9, h10, cx9, hF⟩ := gb_bdE hF
  refine gb_cS (As := [.int p0]) (S := [.int (1 : Int32), .int (((1 : Int32) <<< (x3 &&& 31)) ||| ((1 : Int32) <<< (x7 &&& 31)))]) (v := some (.int x9)) (h1 := h10) (S2 := [.int x9, .int (1 : Int32), .int (((1 : Int32) <<< (x3 &&& 31)) ||| ((1 : Int32) <<< (x7 &&& 31)))]) dX0_pathsOf_21 mtX0_high lX0_48 stX0_high (fnX0_high_ok _ _ cx9) (by decide) rfl (Nat.le_of_ble_eq_true rfl) (Nat.le_of_ble_eq_true rfl) rfl rfl ?_
  obtain ⟨x11, h12, cx11, hF⟩ := gb_bdE hF
  refine gb_cS (As := [.int x9]) (S := [.int (1 : Int32), .int (((1 : Int32) <<< (x3 &&& 31)) ||| ((1 : Int32) <<< (x7 &&& 31)))]) (v := some (.int x11)) (h1 := h12) (S2 := [.int x11, .int (1 : Int32), .int (((1 : Int32) <<< (x3 &&& 31)) ||| ((1 : Int32) <<< (x7 &&& 31)))]) dX0_pathsOf_24 mtX0_pathOf lX0_51 stX0_pathOf (fnX0_pathOf_ok _ _ cx11) (by decide) rfl (Nat.le_of_ble_eq_true rfl) (Nat.le_of_ble_eq_true rfl) rfl rfl ?_
  refine gb_ishl dX0_pathsOf_27 ?_
  refine gb_ior dX0_pathsOf_28 ?_
  refine gb_iconst (v := (1 : Int32)) dX0_pathsOf_29 (by decide) ?_
  refine gb_ishr dX0_pathsOf_30 ?_
  cases hF
  exact gb_iret dX0_pathsOf_31 rfl
def fbX0_shareOfRow_64 (k9 : Nat → Int32 → Int64 → Nat → Int64 → Int64 → Int32 → gb_H → Option (Unit × gb_H)) (v0 : Nat) (v1 : Int32) (v2 : Int64) (v4 : Nat) (v5 : Int64) (v7 : Int64) (v9 : Int32) (h : gb_H) : Option (Unit × gb_H) :=
  gb_lt (v9 + (1 : Int32)) fun x1 =>
  k9 v0 v1 v2 v4 v5 v7 x1 h
theorem fbX0_shareOfRow_64_ok {X : gb_X} {k9 : Nat → Int32 → Int64 → Nat → Int64 → Int64 → Int32 → gb_H → Option (Unit × gb_H)} (hk9 : ∀ v0 v1 v2 v4 v5 v7 v9 h r, k9 v0 v1 v2 v4 v5 v7 v9 h = some r → gb_Ev X 4 mX0_shareOfRow 9 [some (.ref v0), some (.int v1), some (.long v2), none, some (.ref v4), some (.long v5), none, some (.long v7), none, some (.int v9)] [] h (gb_wV r)) (v0 : Nat) (v1 : Int32) (v2 : Int64) (v4 : Nat) (v5 : Int64) (v7 : Int64) (v9 : Int32) (h : gb_H) (r : Unit × gb_H) (hF : fbX0_shareOfRow_64 k9 v0 v1 v2 v4 v5 v7 v9 h = some r) : gb_Ev X 4 mX0_shareOfRow 64 [some (.ref v0), some (.int v1), some (.long v2), none, some (.ref v4), some (.long v5), none, some (.long v7), none, some (.int v9)] [] h (gb_wV r) := by
  unfold fbX0_shareOfRow_64 at hF
  obtain ⟨x1, ex1, hF⟩ := gb_ltE hF
  refine gb_iinc (v := x1) (L' := [some (.ref v0), some (.int v1), some (.long v2), none, some (.ref v4), some (.long v5), none, some (.long v7), none, some (.int x1)]) dX0_shareOfRow_64 rfl (by rw [ex1]; rfl) (by decide) rfl rfl ?_
  refine gb_goto (tgt := 9) dX0_shareOfRow_67 (by decide) ?_
  exact gb_wk (hk9 v0 v1 v2 v4 v5 v7 x1 h r hF) (And.intro rfl (And.intro rfl (And.intro rfl (And.intro rfl (And.intro rfl (And.intro rfl (And.intro rfl trivial)))))))
def fbX0_shareOfRow_9 (k9 : Nat → Int32 → Int64 → Nat → Int64 → Int64 → Int32 → gb_H → Option (Unit × gb_H)) (v0 : Nat) (v1 : Int32) (v2 : Int64) (v4 : Nat) (v5 : Int64) (v7 : Int64) (v9 : Int32) (h : gb_H) : Option (Unit × gb_H) :=
  gb_gd (gb_k h v0 0) <|
  if (gb_I h v0 6) ≤ v9 then
    gb_gd (gb_k h v4 8) <|
    gb_bd (fnX8_put v4 v5 v7 v2 h) fun _ h5 =>
    some ((), h5)
  else
    gb_gd (gb_k h v0 0) <|
    gb_rd (gb_R h v0 0) fun a7 =>
    gb_gd (gb_k h a7 20) <|
    gb_gd (gb_in h a7 v9) <|
    gb_bd (fnX0_rowOfKey (gb_I h a7 v9.toNatClampNeg) h) fun x10 h11 =>
    if x10 = v1 then
      gb_gd (gb_k h11 v0 0) <|
      gb_rd (gb_R h11 v0 0) fun a14 =>
      gb_gd (gb_k h11 a14 20) <|
      gb_gd (gb_in h11 a14 v9) <|
      gb_gd (gb_k h11 v0 0) <|
      gb_bd (fnX0_weightWhole v0 (gb_I h11 a14 v9.toNatClampNeg) h11) fun x18 h19 =>
      gb_lt (v5 + x18) fun x20 =>
      gb_gd (gb_k h19 v0 0) <|
      gb_rd (gb_R h19 v0 0) fun a22 =>
      gb_gd (gb_k h19 a22 20) <|
      gb_gd (gb_in h19 a22 v9) <|
      gb_gd (gb_k h19 v0 0) <|
      gb_bd (fnX0_weightRoot v0 (gb_I h19 a22 v9.toNatClampNeg) h19) fun x26 h27 =>
      gb_lt (v7 + x26) fun x28 =>
      fbX0_shareOfRow_64 k9 v0 v1 v2 v4 x20 x28 v9 h27
    else
      fbX0_shareOfRow_64 k9 v0 v1 v2 v4 v5 v7 v9 h11
theorem fbX0_shareOfRow_9_ok {X : gb_X} {k9 : Nat → Int32 → Int64 → Nat → Int64 → Int64 → Int32 → gb_H → Option (Unit × gb_H)} (hk9 : ∀ v0 v1 v2 v4 v5 v7 v9 h r, k9 v0 v1 v2 v4 v5 v7 v9 h = some r → gb_Ev X 4 mX0_shareOfRow 9 [some (.ref v0), some (.int v1), some (.long v2), none, some (.ref v4), some (.long v5), none, some (.long v7), none, some (.int v9)] [] h (gb_wV r)) (v0 : Nat) (v1 : Int32) (v2 : Int64) (v4 : Nat) (v5 : Int64) (v7 : Int64) (v9 : Int32) (h : gb_H) (r : Unit × gb_H) (hF : fbX0_shareOfRow_9 k9 v0 v1 v2 v4 v5 v7 v9 h = some r) : gb_Ev X 4 mX0_shareOfRow 9 [some (.ref v0), some (.int v1), some (.long v2), none, some (.ref v4), some (.long v5), none, some (.long v7), none, some (.int v9)] [] h (gb_wV r) := by
  unfold fbX0_shareOfRow_9 at hF
  refine gb_iload dX0_shareOfRow_9 rfl ?_
  refine gb_aload_n dX0_shareOfRow_11 rfl rfl ?_
  obtain ⟨g1, hF⟩ := gb_gdE hF
  refine gb_getI fX0_68 dX0_shareOfRow_12 (gb_kE g1) ?_
  refine gb_icmp_ge (tgt := 70) dX0_shareOfRow_15 (by decide) (fun c2 => ?_) (fun c2 => ?_)
  · replace hF := gb_ifT c2 hF
    refine gb_aload dX0_shareOfRow_70 rfl ?_
    refine gb_lload dX0_shareOfRow_72 rfl ?_
    refine gb_lload dX0_shareOfRow_74 rfl ?_
    refine gb_lload_n dX0_shareOfRow_76 rfl rfl ?_
    obtain ⟨g3, hF⟩ := gb_gdE hF
    obtain ⟨x4, h5, cx4, hF⟩ := gb_bdE hF
    refine gb_cV (As := [.long v5, .long v7, .long v2]) (S := []) (v := none) (h1 := h5) (S2 := []) cf8 dX0_shareOfRow_77 mtX8_put lX0_142 inX8_put seX8_put (gb_kE g3) (fnX8_put_ok _ _ cx4) (by decide) rfl (Nat.le_of_ble_eq_true rfl) (Nat.le_of_ble_eq_true rfl) rfl rfl ?_
    cases hF
    exact gb_vret dX0_shareOfRow_80 rfl
  · replace hF := gb_ifF c2 hF
    refine gb_aload_n dX0_shareOfRow_18 rfl rfl ?_
    obtain ⟨g6, hF⟩ := gb_gdE hF
    obtain ⟨a7, ea7, hF⟩ := gb_rdE hF
    refine gb_getR fX0_9 dX0_shareOfRow_19 (gb_kE g6) ea7 ?_
    refine gb_iload dX0_shareOfRow_22 rfl ?_
    obtain ⟨g8, hF⟩ := gb_gdE hF
    obtain ⟨g9, hF⟩ := gb_gdE hF
    refine gb_iald dX0_shareOfRow_24 (gb_kE g8) (gb_inE g9) ?_
    obtain ⟨x10, h11, cx10, hF⟩ := gb_bdE hF
    refine gb_cS (As := [.int (gb_I h a7 v9.toNatClampNeg)]) (S := []) (v := some (.int x10)) (h1 := h11) (S2 := [.int x10]) dX0_shareOfRow_25 mtX0_rowOfKey lX0_132 stX0_rowOfKey (fnX0_rowOfKey_ok _ _ cx10) (by decide) rfl (Nat.le_of_ble_eq_true rfl) (Nat.le_of_ble_eq_true rfl) rfl rfl ?_
    refine gb_iload_n dX0_shareOfRow_28 rfl rfl ?_
    refine gb_icmp_ne (tgt := 64) dX0_shareOfRow_29 (by decide) (fun c12 => ?_) (fun c12 => ?_)
    · replace hF := gb_ifF c12 hF
      exact gb_wk (fbX0_shareOfRow_64_ok hk9 v0 v1 v2 v4 v5 v7 v9 h11 r hF) (And.intro rfl (And.intro rfl (And.intro rfl (And.intro rfl (And.intro rfl (And.intro rfl (And.intro rfl trivial)))))))
    · replace hF := gb_ifT c12 hF
      refine gb_lload dX0_shareOfRow_32 rfl ?_
      refine gb_aload_n dX0_shareOfRow_34 rfl rfl ?_
      refine gb_aload_n dX0_shareOfRow_35 rfl rfl ?_
      obtain ⟨g13, hF⟩ := gb_gdE hF
      obtain ⟨a14, ea14, hF⟩ := gb_rdE hF
      refine gb_getR fX0_9 dX0_shareOfRow_36 (gb_kE g13) ea14 ?_
      refine gb_iload dX0_shareOfRow_39 rfl ?_
      obtain ⟨g15, hF⟩ := gb_gdE hF
      obtain ⟨g16, hF⟩ := gb_gdE hF
      refine gb_iald dX0_shareOfRow_41 (gb_kE g15) (gb_inE g16) ?_
      obtain ⟨g17, hF⟩ := gb_gdE hF
      obtain ⟨x18, h19, cx18, hF⟩ := gb_bdE hF
      refine gb_cV (As := [.int (gb_I h11 a14 v9.toNatClampNeg)]) (S := [.long v5]) (v := some (.long x18)) (h1 := h19) (S2 := [.long x18, .long v5]) cf0 dX0_shareOfRow_42 mtX0_weightWhole lX0_135 inX0_weightWhole seX0_weightWhole (gb_kE g17) (fnX0_weightWhole_ok _ _ cx18) (by decide) rfl (Nat.le_of_ble_eq_true rfl) (Nat.le_of_ble_eq_true rfl) rfl rfl ?_
      refine gb_ladd dX0_shareOfRow_45 ?_
      obtain ⟨x20, ex20, hF⟩ := gb_ltE hF
      refine gb_topJ ex20 ?_
      refine gb_lstore (L' := [some (.ref v0), some (.int v1), some (.long v2), none, some (.ref v4), some (.long x20), none, some (.long v7), none, some (.int v9)]) dX0_shareOfRow_46 (by decide) rfl rfl ?_
      refine gb_lload dX0_shareOfRow_48 rfl ?_
      refine gb_aload_n dX0_shareOfRow_50 rfl rfl ?_
      refine gb_aload_n dX0_shareOfRow_51 rfl rfl ?_
      obtain ⟨g21, hF⟩ := gb_gdE hF
      obtain ⟨a22, ea22, hF⟩ := gb_rdE hF
      refine gb_getR fX0_9 dX0_shareOfRow_52 (gb_kE g21) ea22 ?_
      refine gb_iload dX0_shareOfRow_55 rfl ?_
      obtain ⟨g23, hF⟩ := gb_gdE hF
      obtain ⟨g24, hF⟩ := gb_gdE hF
      refine gb_iald dX0_shareOfRow_57 (gb_kE g23) (gb_inE g24) ?_
      obtain ⟨g25, hF⟩ := gb_gdE hF
      obtain ⟨x26, h27, cx26, hF⟩ := gb_bdE hF
      refine gb_cV (As := [.int (gb_I h19 a22 v9.toNatClampNeg)]) (S := [.long v7]) (v := some (.long x26)) (h1 := h27) (S2 := [.long x26, .long v7]) cf0 dX0_shareOfRow_58 mtX0_weightRoot lX0_139 inX0_weightRoot seX0_weightRoot (gb_kE g25) (fnX0_weightRoot_ok _ _ cx26) (by decide) rfl (Nat.le_of_ble_eq_true rfl) (Nat.le_of_ble_eq_true rfl) rfl rfl ?_
      refine gb_ladd dX0_shareOfRow_61 ?_
      obtain ⟨x28, ex28, hF⟩ := gb_ltE hF
      refine gb_topJ ex28 ?_
      refine gb_lstore (L' := [some (.ref v0), some (.int v1), some (.long v2), none, some (.ref v4), some (.long x20), none, some (.long x28), none, some (.int v9)]) dX0_shareOfRow_62 (by decide) rfl rfl ?_
      exact gb_wk (fbX0_shareOfRow_64_ok hk9 v0 v1 v2 v4 x20 x28 v9 h27 r hF) (And.intro rfl (And.intro rfl (And.intro rfl (And.intro rfl (And.intro rfl (And.intro rfl (And.intro rfl trivial)))))))
def lpX0_shareOfRow_9 (n : Nat) (v0 : Nat) (v1 : Int32) (v2 : Int64) (v4 : Nat) (v5 : Int64) (v7 : Int64) (v9 : Int32) (h : gb_H) : Option (Unit × gb_H) := gb_lp (σ := Nat × Int32 × Int64 × Nat × Int64 × Int64 × Int32 × gb_H) (fun k s => fbX0_shareOfRow_9 (fun v0 v1 v2 v4 v5 v7 v9 h => k (v0, v1, v2, v4, v5, v7, v9, h)) s.1 s.2.1 s.2.2.1 s.2.2.2.1 s.2.2.2.2.1 s.2.2.2.2.2.1 s.2.2.2.2.2.2.1 s.2.2.2.2.2.2.2) n (v0, v1, v2, v4, v5, v7, v9, h)
theorem lpX0_shareOfRow_9_ok {X : gb_X}  (n : Nat) (v0 : Nat) (v1 : Int32) (v2 : Int64) (v4 : Nat) (v5 : Int64) (v7 : Int64) (v9 : Int32) (h : gb_H) (r : Unit × gb_H) (hF : lpX0_shareOfRow_9 n v0 v1 v2 v4 v5 v7 v9 h = some r) : gb_Ev X 4 mX0_shareOfRow 9 [some (.ref v0), some (.int v1), some (.long v2), none, some (.ref v4), some (.long v5), none, some (.long v7), none, some (.int v9)] [] h (gb_wV r) := by
  exact gb_lpE (σ := Nat × Int32 × Int64 × Nat × Int64 × Int64 × Int32 × gb_H) (P := fun s r => gb_Ev X 4 mX0_shareOfRow 9 [some (.ref s.1), some (.int s.2.1), some (.long s.2.2.1), none, some (.ref s.2.2.2.1), some (.long s.2.2.2.2.1), none, some (.long s.2.2.2.2.2.1), none, some (.int s.2.2.2.2.2.2.1)] [] s.2.2.2.2.2.2.2 (gb_wV r)) (fun k hk s r hs => fbX0_shareOfRow_9_ok (fun v0 v1 v2 v4 v5 v7 v9 h r e => hk (v0, v1, v2, v4, v5, v7, v9, h) r e) _ _ _ _ _ _ _ _ r hs) n (v0, v1, v2, v4, v5, v7, v9, h) r hF
def fnX0_shareOfRow (p0 : Nat) (p1 : Int32) (p2 : Int64) (p3 : Nat) (h : gb_H) : Option (Unit × gb_H) :=
  lpX0_shareOfRow_9 gb_FU p0 p1 p2 p3 (0 : Int64) (0 : Int64) (0 : Int32) h
theorem fnX0_shareOfRow_ok {X : gb_X}  {p0 : Nat} {p1 : Int32} {p2 : Int64} {p3 : Nat} (h : gb_H) (r : Unit × gb_H) (hF : fnX0_shareOfRow p0 p1 p2 p3 h = some r) : gb_Ev X 4 mX0_shareOfRow 0 (gb_L0 [.ref p0, .int p1, .long p2, .ref p3]) [] h (gb_wV r) := by
  unfold fnX0_shareOfRow at hF
  refine gb_weak (L' := [some (.ref p0), some (.int p1), some (.long p2), none, some (.ref p3), none, none, none, none, none]) (And.intro rfl (And.intro rfl (And.intro rfl (And.intro rfl trivial)))) ?_
  refine gb_lconst (v := (0 : Int64)) dX0_shareOfRow_0 (by decide) ?_
  refine gb_lstore (L' := [some (.ref p0), some (.int p1), some (.long p2), none, some (.ref p3), some (.long (0 : Int64)), none, none, none, none]) dX0_shareOfRow_1 (by decide) rfl rfl ?_
  refine gb_lconst (v := (0 : Int64)) dX0_shareOfRow_3 (by decide) ?_
  refine gb_lstore (L' := [some (.ref p0), some (.int p1), some (.long p2), none, some (.ref p3), some (.long (0 : Int64)), none, some (.long (0 : Int64)), none, none]) dX0_shareOfRow_4 (by decide) rfl rfl ?_
  refine gb_iconst (v := (0 : Int32)) dX0_shareOfRow_6 (by decide) ?_
  refine gb_istore (L' := [some (.ref p0), some (.int p1), some (.long p2), none, some (.ref p3), some (.long (0 : Int64)), none, some (.long (0 : Int64)), none, some (.int (0 : Int32))]) dX0_shareOfRow_7 (by decide) rfl rfl ?_
  exact gb_wk (lpX0_shareOfRow_9_ok gb_FU p0 p1 p2 p3 (0 : Int64) (0 : Int64) (0 : Int32) h r hF) (And.intro rfl (And.intro rfl (And.intro rfl (And.intro rfl (And.intro rfl (And.intro rfl (And.intro rfl trivial)))))))
def fbX5_joinsPaths_20 (s0 : Int32) (h : gb_H) : Option (Int32 × gb_H) :=
  gb_gd (gb_b s0) <|
  some (s0, h)
theorem fbX5_joinsPaths_20_ok {X : gb_X} (s0 : Int32) (h : gb_H) (r : Int32 × gb_H) (hF : fbX5_joinsPaths_20 s0 h = some r) : gb_Ev X 1 mX5_joinsPaths 20 [none] [.int s0] h (gb_wI r) := by
  unfold fbX5_joinsPaths_20 at hF
  obtain ⟨g1, hF⟩ := gb_gdE hF
  cases hF
  exact gb_zret dX5_joinsPaths_20 rfl (gb_bE g1)
def fbX5_joinsPaths_15 (h : gb_H) : Option (Int32 × gb_H) :=
  fbX5_joinsPaths_20 (1 : Int32) h
theorem fbX5_joinsPaths_15_ok {X : gb_X} (h : gb_H) (r : Int32 × gb_H) (hF : fbX5_joinsPaths_15 h = some r) : gb_Ev X 1 mX5_joinsPaths 15 [none] [] h (gb_wI r) := by
  unfold fbX5_joinsPaths_15 at hF
  refine gb_iconst (v := (1 : Int32)) dX5_joinsPaths_15 (by decide) ?_
  refine gb_goto (tgt := 20) dX5_joinsPaths_16 (by decide) ?_
  exact gb_wk (fbX5_joinsPaths_20_ok (1 : Int32) h r hF) trivial
def fnX5_joinsPaths (p0 : Nat) (h : gb_H) : Option (Int32 × gb_H) :=
  gb_gd (gb_k h p0 5) <|
  if (gb_I h p0 0) = 0 then
    fbX5_joinsPaths_15 h
  else
    gb_gd (gb_k h p0 5) <|
    if (gb_I h p0 0) = (3 : Int32) then
      fbX5_joinsPaths_15 h
    else
      fbX5_joinsPaths_20 (0 : Int32) h
theorem fnX5_joinsPaths_ok {X : gb_X}  {p0 : Nat} (h : gb_H) (r : Int32 × gb_H) (hF : fnX5_joinsPaths p0 h = some r) : gb_Ev X 1 mX5_joinsPaths 0 (gb_L0 [.ref p0]) [] h (gb_wI r) := by
  unfold fnX5_joinsPaths at hF
  refine gb_weak (L' := [some (.ref p0)]) (And.intro rfl trivial) ?_
  refine gb_aload_n dX5_joinsPaths_0 rfl rfl ?_
  obtain ⟨g1, hF⟩ := gb_gdE hF
  refine gb_getI fX5_9 dX5_joinsPaths_1 (gb_kE g1) ?_
  refine gb_if_eq (tgt := 15) dX5_joinsPaths_4 (by decide) (fun c2 => ?_) (fun c2 => ?_)
  · replace hF := gb_ifT c2 hF
    exact gb_wk (fbX5_joinsPaths_15_ok h r hF) trivial
  · replace hF := gb_ifF c2 hF
    refine gb_aload_n dX5_joinsPaths_7 rfl rfl ?_
    obtain ⟨g3, hF⟩ := gb_gdE hF
    refine gb_getI fX5_9 dX5_joinsPaths_8 (gb_kE g3) ?_
    refine gb_iconst (v := (3 : Int32)) dX5_joinsPaths_11 (by decide) ?_
    refine gb_icmp_ne (tgt := 19) dX5_joinsPaths_12 (by decide) (fun c4 => ?_) (fun c4 => ?_)
    · replace hF := gb_ifF c4 hF
      refine gb_iconst (v := (0 : Int32)) dX5_joinsPaths_19 (by decide) ?_
      exact gb_wk (fbX5_joinsPaths_20_ok (0 : Int32) h r hF) trivial
    · replace hF := gb_ifT c4 hF
      exact gb_wk (fbX5_joinsPaths_15_ok h r hF) trivial
def fbX0_isMetBy_77 (k2 : Nat → Nat → Int32 → gb_H → Option (Int32 × gb_H)) (v0 : Nat) (v1 : Nat) (v2 : Int32) (h : gb_H) : Option (Int32 × gb_H) :=
  gb_lt (v2 + (1 : Int32)) fun x1 =>
  k2 v0 v1 x1 h
theorem fbX0_isMetBy_77_ok {X : gb_X} {k2 : Nat → Nat → Int32 → gb_H → Option (Int32 × gb_H)} (hk2 : ∀ v0 v1 v2 h r, k2 v0 v1 v2 h = some r → gb_Ev X 3 mX0_isMetBy 2 [some (.ref v0), some (.ref v1), some (.int v2), none] [] h (gb_wI r)) (v0 : Nat) (v1 : Nat) (v2 : Int32) (h : gb_H) (r : Int32 × gb_H) (hF : fbX0_isMetBy_77 k2 v0 v1 v2 h = some r) : gb_Ev X 3 mX0_isMetBy 77 [some (.ref v0), some (.ref v1), some (.int v2), none] [] h (gb_wI r) := by
  unfold fbX0_isMetBy_77 at hF
  obtain ⟨x1, ex1, hF⟩ := gb_ltE hF
  refine gb_iinc (v := x1) (L' := [some (.ref v0), some (.ref v1), some (.int x1), none]) dX0_isMetBy_77 rfl (by rw [ex1]; rfl) (by decide) rfl rfl ?_
  refine gb_goto (tgt := 2) dX0_isMetBy_80 (by decide) ?_
  exact gb_wk (hk2 v0 v1 x1 h r hF) (And.intro rfl (And.intro rfl (And.intro rfl trivial)))
def fbX0_isMetBy_53 (k2 : Nat → Nat → Int32 → gb_H → Option (Int32 × gb_H)) (v0 : Nat) (v1 : Nat) (v2 : Int32) (s0 : Int32) (s1 : Int32) (h : gb_H) : Option (Int32 × gb_H) :=
  gb_lt (s0 + s1) fun x1 =>
  if x1 ≤ 0 then
    fbX0_isMetBy_77 k2 v0 v1 v2 h
  else
    gb_gd (gb_k h v0 0) <|
    gb_rd (gb_R h v0 0) fun a4 =>
    gb_gd (gb_k h a4 20) <|
    gb_gd (gb_in h a4 v2) <|
    gb_bd (fnX0_placeOfKey (gb_I h a4 v2.toNatClampNeg) h) fun x7 h8 =>
    gb_gd (gb_k h8 v0 0) <|
    gb_bd (fnX0_isZero v0 x7 h8) fun x10 h11 =>
    if x10 = 0 then
      some ((1 : Int32), h11)
    else
      fbX0_isMetBy_77 k2 v0 v1 v2 h11
theorem fbX0_isMetBy_53_ok {X : gb_X} {k2 : Nat → Nat → Int32 → gb_H → Option (Int32 × gb_H)} (hk2 : ∀ v0 v1 v2 h r, k2 v0 v1 v2 h = some r → gb_Ev X 3 mX0_isMetBy 2 [some (.ref v0), some (.ref v1), some (.int v2), none] [] h (gb_wI r)) (v0 : Nat) (v1 : Nat) (v2 : Int32) (s0 : Int32) (s1 : Int32) (h : gb_H) (r : Int32 × gb_H) (hF : fbX0_isMetBy_53 k2 v0 v1 v2 s0 s1 h = some r) : gb_Ev X 3 mX0_isMetBy 53 [some (.ref v0), some (.ref v1), some (.int v2), none] [.int s1, .int s0] h (gb_wI r) := by
  unfold fbX0_isMetBy_53 at hF
  refine gb_iadd dX0_isMetBy_53 ?_
  obtain ⟨x1, ex1, hF⟩ := gb_ltE hF
  refine gb_topI ex1 ?_
  refine gb_istore_n (L' := [some (.ref v0), some (.ref v1), some (.int v2), some (.int x1)]) dX0_isMetBy_54 rfl (by decide) rfl rfl ?_
  refine gb_iload_n dX0_isMetBy_55 rfl rfl ?_
  refine gb_if_le (tgt := 77) dX0_isMetBy_56 (by decide) (fun c2 => ?_) (fun c2 => ?_)
  · replace hF := gb_ifT c2 hF
    exact gb_wk (fbX0_isMetBy_77_ok hk2 v0 v1 v2 h r hF) (And.intro rfl (And.intro rfl (And.intro rfl trivial)))
  · replace hF := gb_ifF c2 hF
    refine gb_aload_n dX0_isMetBy_59 rfl rfl ?_
    refine gb_aload_n dX0_isMetBy_60 rfl rfl ?_
    obtain ⟨g3, hF⟩ := gb_gdE hF
    obtain ⟨a4, ea4, hF⟩ := gb_rdE hF
    refine gb_getR fX0_9 dX0_isMetBy_61 (gb_kE g3) ea4 ?_
    refine gb_iload_n dX0_isMetBy_64 rfl rfl ?_
    obtain ⟨g5, hF⟩ := gb_gdE hF
    obtain ⟨g6, hF⟩ := gb_gdE hF
    refine gb_iald dX0_isMetBy_65 (gb_kE g5) (gb_inE g6) ?_
    obtain ⟨x7, h8, cx7, hF⟩ := gb_bdE hF
    refine gb_cS (As := [.int (gb_I h a4 v2.toNatClampNeg)]) (S := [.ref v0]) (v := some (.int x7)) (h1 := h8) (S2 := [.int x7, .ref v0]) dX0_isMetBy_66 mtX0_placeOfKey lX0_58 stX0_placeOfKey (fnX0_placeOfKey_ok _ _ cx7) (by decide) rfl (Nat.le_of_ble_eq_true rfl) (Nat.le_of_ble_eq_true rfl) rfl rfl ?_
    obtain ⟨g9, hF⟩ := gb_gdE hF
    obtain ⟨x10, h11, cx10, hF⟩ := gb_bdE hF
    refine gb_cV (As := [.int x7]) (S := []) (v := some (.int x10)) (h1 := h11) (S2 := [.int x10]) cf0 dX0_isMetBy_69 mtX0_isZero lX0_72 inX0_isZero seX0_isZero (gb_kE g9) (fnX0_isZero_ok _ _ cx10) (by decide) rfl (Nat.le_of_ble_eq_true rfl) (Nat.le_of_ble_eq_true rfl) rfl rfl ?_
    refine gb_if_ne (tgt := 77) dX0_isMetBy_72 (by decide) (fun c12 => ?_) (fun c12 => ?_)
    · replace hF := gb_ifF c12 hF
      exact gb_wk (fbX0_isMetBy_77_ok hk2 v0 v1 v2 h11 r hF) (And.intro rfl (And.intro rfl (And.intro rfl trivial)))
    · replace hF := gb_ifT c12 hF
      refine gb_iconst (v := (1 : Int32)) dX0_isMetBy_75 (by decide) ?_
      cases hF
      exact gb_zret dX0_isMetBy_76 rfl (by decide)
def fbX0_isMetBy_2 (k2 : Nat → Nat → Int32 → gb_H → Option (Int32 × gb_H)) (v0 : Nat) (v1 : Nat) (v2 : Int32) (h : gb_H) : Option (Int32 × gb_H) :=
  gb_gd (gb_k h v0 0) <|
  if (gb_I h v0 6) ≤ v2 then
    some ((0 : Int32), h)
  else
    gb_gd (gb_k h v0 0) <|
    gb_rd (gb_R h v0 0) fun a4 =>
    gb_gd (gb_k h a4 20) <|
    gb_gd (gb_in h a4 v2) <|
    gb_gd (gb_k h v1 5) <|
    gb_bd (fnX0_grainsIn (gb_I h a4 v2.toNatClampNeg) ((gb_I h v1 1) + (1 : Int32)) h) fun x8 h9 =>
    gb_gd (gb_k h9 v1 5) <|
    gb_bd (fnX5_joinsPaths v1 h9) fun x11 h12 =>
    if x11 = 0 then
      fbX0_isMetBy_53 k2 v0 v1 v2 x8 (0 : Int32) h12
    else
      gb_gd (gb_k h12 v0 0) <|
      gb_rd (gb_R h12 v0 0) fun a15 =>
      gb_gd (gb_k h12 a15 20) <|
      gb_gd (gb_in h12 a15 v2) <|
      gb_gd (gb_k h12 v1 5) <|
      gb_bd (fnX0_grainsIn (gb_I h12 a15 v2.toNatClampNeg) ((gb_I h12 v1 2) + (1 : Int32)) h12) fun x19 h20 =>
      fbX0_isMetBy_53 k2 v0 v1 v2 x8 x19 h20
theorem fbX0_isMetBy_2_ok {X : gb_X} {k2 : Nat → Nat → Int32 → gb_H → Option (Int32 × gb_H)} (hk2 : ∀ v0 v1 v2 h r, k2 v0 v1 v2 h = some r → gb_Ev X 3 mX0_isMetBy 2 [some (.ref v0), some (.ref v1), some (.int v2), none] [] h (gb_wI r)) (v0 : Nat) (v1 : Nat) (v2 : Int32) (h : gb_H) (r : Int32 × gb_H) (hF : fbX0_isMetBy_2 k2 v0 v1 v2 h = some r) : gb_Ev X 3 mX0_isMetBy 2 [some (.ref v0), some (.ref v1), some (.int v2), none] [] h (gb_wI r) := by
  unfold fbX0_isMetBy_2 at hF
  refine gb_iload_n dX0_isMetBy_2 rfl rfl ?_
  refine gb_aload_n dX0_isMetBy_3 rfl rfl ?_
  obtain ⟨g1, hF⟩ := gb_gdE hF
  refine gb_getI fX0_68 dX0_isMetBy_4 (gb_kE g1) ?_
  refine gb_icmp_ge (tgt := 83) dX0_isMetBy_7 (by decide) (fun c2 => ?_) (fun c2 => ?_)
  · replace hF := gb_ifT c2 hF
    refine gb_iconst (v := (0 : Int32)) dX0_isMetBy_83 (by decide) ?_
    cases hF
    exact gb_zret dX0_isMetBy_84 rfl (by decide)
  · replace hF := gb_ifF c2 hF
    refine gb_aload_n dX0_isMetBy_10 rfl rfl ?_
    obtain ⟨g3, hF⟩ := gb_gdE hF
    obtain ⟨a4, ea4, hF⟩ := gb_rdE hF
    refine gb_getR fX0_9 dX0_isMetBy_11 (gb_kE g3) ea4 ?_
    refine gb_iload_n dX0_isMetBy_14 rfl rfl ?_
    obtain ⟨g5, hF⟩ := gb_gdE hF
    obtain ⟨g6, hF⟩ := gb_gdE hF
    refine gb_iald dX0_isMetBy_15 (gb_kE g5) (gb_inE g6) ?_
    refine gb_aload_n dX0_isMetBy_16 rfl rfl ?_
    obtain ⟨g7, hF⟩ := gb_gdE hF
    refine gb_getI fX0_97 dX0_isMetBy_17 (gb_kE g7) ?_
    refine gb_iconst (v := (1 : Int32)) dX0_isMetBy_20 (by decide) ?_
    refine gb_iadd dX0_isMetBy_21 ?_
    obtain ⟨x8, h9, cx8, hF⟩ := gb_bdE hF
    refine gb_cS (As := [.int (gb_I h a4 v2.toNatClampNeg), .int ((gb_I h v1 1) + (1 : Int32))]) (S := []) (v := some (.int x8)) (h1 := h9) (S2 := [.int x8]) dX0_isMetBy_22 mtX0_grainsIn lX0_100 stX0_grainsIn (fnX0_grainsIn_ok _ _ cx8) (by decide) rfl (Nat.le_of_ble_eq_true rfl) (Nat.le_of_ble_eq_true rfl) rfl rfl ?_
    refine gb_istore_n (L' := [some (.ref v0), some (.ref v1), some (.int v2), some (.int x8)]) dX0_isMetBy_25 rfl (by decide) rfl rfl ?_
    refine gb_iload_n dX0_isMetBy_26 rfl rfl ?_
    refine gb_aload_n dX0_isMetBy_27 rfl rfl ?_
    obtain ⟨g10, hF⟩ := gb_gdE hF
    obtain ⟨x11, h12, cx11, hF⟩ := gb_bdE hF
    refine gb_cV (As := []) (S := [.int x8]) (v := some (.int x11)) (h1 := h12) (S2 := [.int x11, .int x8]) cf5 dX0_isMetBy_28 mtX5_joinsPaths lX0_103 inX5_joinsPaths seX5_joinsPaths (gb_kE g10) (fnX5_joinsPaths_ok _ _ cx11) (by decide) rfl (Nat.le_of_ble_eq_true rfl) (Nat.le_of_ble_eq_true rfl) rfl rfl ?_
    refine gb_if_eq (tgt := 52) dX0_isMetBy_31 (by decide) (fun c13 => ?_) (fun c13 => ?_)
    · replace hF := gb_ifT c13 hF
      refine gb_iconst (v := (0 : Int32)) dX0_isMetBy_52 (by decide) ?_
      exact gb_wk (fbX0_isMetBy_53_ok hk2 v0 v1 v2 x8 (0 : Int32) h12 r hF) (And.intro rfl (And.intro rfl (And.intro rfl trivial)))
    · replace hF := gb_ifF c13 hF
      refine gb_aload_n dX0_isMetBy_34 rfl rfl ?_
      obtain ⟨g14, hF⟩ := gb_gdE hF
      obtain ⟨a15, ea15, hF⟩ := gb_rdE hF
      refine gb_getR fX0_9 dX0_isMetBy_35 (gb_kE g14) ea15 ?_
      refine gb_iload_n dX0_isMetBy_38 rfl rfl ?_
      obtain ⟨g16, hF⟩ := gb_gdE hF
      obtain ⟨g17, hF⟩ := gb_gdE hF
      refine gb_iald dX0_isMetBy_39 (gb_kE g16) (gb_inE g17) ?_
      refine gb_aload_n dX0_isMetBy_40 rfl rfl ?_
      obtain ⟨g18, hF⟩ := gb_gdE hF
      refine gb_getI fX0_107 dX0_isMetBy_41 (gb_kE g18) ?_
      refine gb_iconst (v := (1 : Int32)) dX0_isMetBy_44 (by decide) ?_
      refine gb_iadd dX0_isMetBy_45 ?_
      obtain ⟨x19, h20, cx19, hF⟩ := gb_bdE hF
      refine gb_cS (As := [.int (gb_I h12 a15 v2.toNatClampNeg), .int ((gb_I h12 v1 2) + (1 : Int32))]) (S := [.int x8]) (v := some (.int x19)) (h1 := h20) (S2 := [.int x19, .int x8]) dX0_isMetBy_46 mtX0_grainsIn lX0_100 stX0_grainsIn (fnX0_grainsIn_ok _ _ cx19) (by decide) rfl (Nat.le_of_ble_eq_true rfl) (Nat.le_of_ble_eq_true rfl) rfl rfl ?_
      refine gb_goto (tgt := 53) dX0_isMetBy_49 (by decide) ?_
      exact gb_wk (fbX0_isMetBy_53_ok hk2 v0 v1 v2 x8 x19 h20 r hF) (And.intro rfl (And.intro rfl (And.intro rfl trivial)))
def lpX0_isMetBy_2 (n : Nat) (v0 : Nat) (v1 : Nat) (v2 : Int32) (h : gb_H) : Option (Int32 × gb_H) := gb_lp (σ := Nat × Nat × Int32 × gb_H) (fun k s => fbX0_isMetBy_2 (fun v0 v1 v2 h => k (v0, v1, v2, h)) s.1 s.2.1 s.2.2.1 s.2.2.2) n (v0, v1, v2, h)
theorem lpX0_isMetBy_2_ok {X : gb_X}  (n : Nat) (v0 : Nat) (v1 : Nat) (v2 : Int32) (h : gb_H) (r : Int32 × gb_H) (hF : lpX0_isMetBy_2 n v0 v1 v2 h = some r) : gb_Ev X 3 mX0_isMetBy 2 [some (.ref v0), some (.ref v1), some (.int v2), none] [] h (gb_wI r) := by
  exact gb_lpE (σ := Nat × Nat × Int32 × gb_H) (P := fun s r => gb_Ev X 3 mX0_isMetBy 2 [some (.ref s.1), some (.ref s.2.1), some (.int s.2.2.1), none] [] s.2.2.2 (gb_wI r)) (fun k hk s r hs => fbX0_isMetBy_2_ok (fun v0 v1 v2 h r e => hk (v0, v1, v2, h) r e) _ _ _ _ r hs) n (v0, v1, v2, h) r hF
def fnX0_isMetBy (p0 : Nat) (p1 : Nat) (h : gb_H) : Option (Int32 × gb_H) :=
  lpX0_isMetBy_2 gb_FU p0 p1 (0 : Int32) h
theorem fnX0_isMetBy_ok {X : gb_X}  {p0 : Nat} {p1 : Nat} (h : gb_H) (r : Int32 × gb_H) (hF : fnX0_isMetBy p0 p1 h = some r) : gb_Ev X 3 mX0_isMetBy 0 (gb_L0 [.ref p0, .ref p1]) [] h (gb_wI r) := by
  unfold fnX0_isMetBy at hF
  refine gb_weak (L' := [some (.ref p0), some (.ref p1), none, none]) (And.intro rfl (And.intro rfl trivial)) ?_
  refine gb_iconst (v := (0 : Int32)) dX0_isMetBy_0 (by decide) ?_
  refine gb_istore_n (L' := [some (.ref p0), some (.ref p1), some (.int (0 : Int32)), none]) dX0_isMetBy_1 rfl (by decide) rfl rfl ?_
  exact gb_wk (lpX0_isMetBy_2_ok gb_FU p0 p1 (0 : Int32) h r hF) (And.intro rfl (And.intro rfl (And.intro rfl trivial)))
def fnX0_numberPart (p0 : Nat) (p1 : Int32) (p2 : Int32) (h : gb_H) : Option (Int64 × gb_H) :=
  gb_bd (fnX0_placeOfKey p1 h) fun x1 h2 =>
  gb_gd (gb_k h2 p0 0) <|
  gb_rd (gb_R h2 p0 1) fun a4 =>
  gb_gd (gb_k h2 a4 21) <|
  if x1 < (Int32.ofNat (gb_kd h2 a4).2) then
    if p2 = 0 then
      gb_gd (gb_k h2 p0 0) <|
      gb_rd (gb_R h2 p0 2) fun a9 =>
      gb_gd (gb_k h2 a9 23) <|
      gb_gd (gb_in h2 a9 x1) <|
      some (gb_L h2 a9 x1.toNatClampNeg, h2)
    else
      if p2 = 1 then
        gb_gd (gb_k h2 p0 0) <|
        gb_rd (gb_R h2 p0 3) fun a14 =>
        gb_gd (gb_k h2 a14 23) <|
        gb_gd (gb_in h2 a14 x1) <|
        some (gb_L h2 a14 x1.toNatClampNeg, h2)
      else
        if p2 = 2 then
          gb_gd (gb_k h2 p0 0) <|
          gb_rd (gb_R h2 p0 4) fun a19 =>
          gb_gd (gb_k h2 a19 23) <|
          gb_gd (gb_in h2 a19 x1) <|
          some (gb_L h2 a19 x1.toNatClampNeg, h2)
        else
          gb_gd (gb_k h2 p0 0) <|
          gb_rd (gb_R h2 p0 5) fun a23 =>
          gb_gd (gb_k h2 a23 23) <|
          gb_gd (gb_in h2 a23 x1) <|
          some (gb_L h2 a23 x1.toNatClampNeg, h2)
  else
    some ((0 : Int64), h2)
theorem fnX0_numberPart_ok {X : gb_X}  {p0 : Nat} {p1 : Int32} {p2 : Int32} (h : gb_H) (r : Int64 × gb_H) (hF : fnX0_numberPart p0 p1 p2 h = some r) : gb_Ev X 2 mX0_numberPart 0 (gb_L0 [.ref p0, .int p1, .int p2]) [] h (gb_wJ r) := by
  unfold fnX0_numberPart at hF
  refine gb_weak (L' := [some (.ref p0), some (.int p1), some (.int p2), none]) (And.intro rfl (And.intro rfl (And.intro rfl trivial))) ?_
  refine gb_iload_n dX0_numberPart_0 rfl rfl ?_
  obtain ⟨x1, h2, cx1, hF⟩ := gb_bdE hF
  refine gb_cS (As := [.int p1]) (S := []) (v := some (.int x1)) (h1 := h2) (S2 := [.int x1]) dX0_numberPart_1 mtX0_placeOfKey lX0_58 stX0_placeOfKey (fnX0_placeOfKey_ok _ _ cx1) (by decide) rfl (Nat.le_of_ble_eq_true rfl) (Nat.le_of_ble_eq_true rfl) rfl rfl ?_
  refine gb_istore_n (L' := [some (.ref p0), some (.int p1), some (.int p2), some (.int x1)]) dX0_numberPart_4 rfl (by decide) rfl rfl ?_
  refine gb_iload_n dX0_numberPart_5 rfl rfl ?_
  refine gb_aload_n dX0_numberPart_6 rfl rfl ?_
  obtain ⟨g3, hF⟩ := gb_gdE hF
  obtain ⟨a4, ea4, hF⟩ := gb_rdE hF
  refine gb_getR fX0_15 dX0_numberPart_7 (gb_kE g3) ea4 ?_
  obtain ⟨g5, hF⟩ := gb_gdE hF
  refine gb_alen dX0_numberPart_10 (gb_kE g5) (by decide) ?_
  refine gb_icmp_lt (tgt := 16) dX0_numberPart_11 (by decide) (fun c6 => ?_) (fun c6 => ?_)
  · replace hF := gb_ifT c6 hF
    refine gb_iload_n dX0_numberPart_16 rfl rfl ?_
    rcases Classical.em (p2 = 0) with c7 | c7
    · replace hF := gb_ifT c7 hF
      refine gb_tswIn (tgt := 44) (x := p2) dX0_numberPart_17 (by rw [c7]; decide) (by rw [c7]; decide) (by rw [c7]; rfl) (by decide) ?_
      refine gb_aload_n dX0_numberPart_44 rfl rfl ?_
      obtain ⟨g8, hF⟩ := gb_gdE hF
      obtain ⟨a9, ea9, hF⟩ := gb_rdE hF
      refine gb_getR fX0_19 dX0_numberPart_45 (gb_kE g8) ea9 ?_
      refine gb_iload_n dX0_numberPart_48 rfl rfl ?_
      obtain ⟨g10, hF⟩ := gb_gdE hF
      obtain ⟨g11, hF⟩ := gb_gdE hF
      refine gb_lald dX0_numberPart_49 (gb_kE g10) (gb_inE g11) ?_
      cases hF
      exact gb_lret dX0_numberPart_50 rfl
    · replace hF := gb_ifF c7 hF
      rcases Classical.em (p2 = 1) with c12 | c12
      · replace hF := gb_ifT c12 hF
        refine gb_tswIn (tgt := 51) (x := p2) dX0_numberPart_17 (by rw [c12]; decide) (by rw [c12]; decide) (by rw [c12]; rfl) (by decide) ?_
        refine gb_aload_n dX0_numberPart_51 rfl rfl ?_
        obtain ⟨g13, hF⟩ := gb_gdE hF
        obtain ⟨a14, ea14, hF⟩ := gb_rdE hF
        refine gb_getR fX0_23 dX0_numberPart_52 (gb_kE g13) ea14 ?_
        refine gb_iload_n dX0_numberPart_55 rfl rfl ?_
        obtain ⟨g15, hF⟩ := gb_gdE hF
        obtain ⟨g16, hF⟩ := gb_gdE hF
        refine gb_lald dX0_numberPart_56 (gb_kE g15) (gb_inE g16) ?_
        cases hF
        exact gb_lret dX0_numberPart_57 rfl
      · replace hF := gb_ifF c12 hF
        rcases Classical.em (p2 = 2) with c17 | c17
        · replace hF := gb_ifT c17 hF
          refine gb_tswIn (tgt := 58) (x := p2) dX0_numberPart_17 (by rw [c17]; decide) (by rw [c17]; decide) (by rw [c17]; rfl) (by decide) ?_
          refine gb_aload_n dX0_numberPart_58 rfl rfl ?_
          obtain ⟨g18, hF⟩ := gb_gdE hF
          obtain ⟨a19, ea19, hF⟩ := gb_rdE hF
          refine gb_getR fX0_26 dX0_numberPart_59 (gb_kE g18) ea19 ?_
          refine gb_iload_n dX0_numberPart_62 rfl rfl ?_
          obtain ⟨g20, hF⟩ := gb_gdE hF
          obtain ⟨g21, hF⟩ := gb_gdE hF
          refine gb_lald dX0_numberPart_63 (gb_kE g20) (gb_inE g21) ?_
          cases hF
          exact gb_lret dX0_numberPart_64 rfl
        · replace hF := gb_ifF c17 hF
          refine gb_tswOut (tgt := 65) dX0_numberPart_17 (gb_swo3 c7 c12 c17) (by decide) ?_
          refine gb_aload_n dX0_numberPart_65 rfl rfl ?_
          obtain ⟨g22, hF⟩ := gb_gdE hF
          obtain ⟨a23, ea23, hF⟩ := gb_rdE hF
          refine gb_getR fX0_29 dX0_numberPart_66 (gb_kE g22) ea23 ?_
          refine gb_iload_n dX0_numberPart_69 rfl rfl ?_
          obtain ⟨g24, hF⟩ := gb_gdE hF
          obtain ⟨g25, hF⟩ := gb_gdE hF
          refine gb_lald dX0_numberPart_70 (gb_kE g24) (gb_inE g25) ?_
          cases hF
          exact gb_lret dX0_numberPart_71 rfl
  · replace hF := gb_ifF c6 hF
    refine gb_lconst (v := (0 : Int64)) dX0_numberPart_14 (by decide) ?_
    cases hF
    exact gb_lret dX0_numberPart_15 rfl
