def fnX1_init (p0 : Nat) (h : gb_H) : Option (Unit × gb_H) :=
  gb_lt (gb_cn h) fun a1 =>
  gb_gd (gb_nn (56 : Int32) 8) <|
  gb_lt (gb_nw h 23 (56 : Int32).toNatClampNeg (56 : Int32).toNatClampNeg) fun h3 =>
  gb_gd (gb_k h3 p0 1) <|
  gb_lt (gb_sR h3 p0 0 (some a1)) fun h5 =>
  gb_lt (gb_cn h5) fun a6 =>
  gb_gd (gb_nn (56 : Int32) 8) <|
  gb_lt (gb_nw h5 23 (56 : Int32).toNatClampNeg (56 : Int32).toNatClampNeg) fun h8 =>
  gb_gd (gb_k h8 p0 1) <|
  gb_lt (gb_sR h8 p0 1 (some a6)) fun h10 =>
  gb_lt (gb_cn h10) fun a11 =>
  gb_gd (gb_nn (32 : Int32) 8) <|
  gb_lt (gb_nw h10 23 (32 : Int32).toNatClampNeg (32 : Int32).toNatClampNeg) fun h13 =>
  gb_gd (gb_k h13 p0 1) <|
  gb_lt (gb_sR h13 p0 2 (some a11)) fun h15 =>
  gb_lt (gb_cn h15) fun a16 =>
  gb_gd (gb_nn (32 : Int32) 8) <|
  gb_lt (gb_nw h15 23 (32 : Int32).toNatClampNeg (32 : Int32).toNatClampNeg) fun h18 =>
  gb_gd (gb_k h18 p0 1) <|
  gb_lt (gb_sR h18 p0 3 (some a16)) fun h20 =>
  gb_gd (gb_k h20 p0 1) <|
  gb_lt (gb_sL h20 p0 4 (1 : Int64)) fun h22 =>
  some ((), h22)
theorem fnX1_init_ok {X : gb_X}  {p0 : Nat} (h : gb_H) (r : Unit × gb_H) (hF : fnX1_init p0 h = some r) : gb_Ev X 2 mX1_init 0 (gb_L0 [.ref p0]) [] h (gb_wV r) := by
  unfold fnX1_init at hF
  refine gb_weak (L' := [some (.ref p0)]) (And.intro rfl trivial) ?_
  refine gb_aload_n dX1_init_0 rfl rfl ?_
  refine gb_objInit dX1_init_1 lX1_3 gb_oin gb_ocd (by decide) (Nat.le_of_ble_eq_true rfl) ?_
  refine gb_aload_n dX1_init_4 rfl rfl ?_
  refine gb_bipush (v := (56 : Int32)) dX1_init_5 (by decide) ?_
  obtain ⟨a1, ea1, hF⟩ := gb_ltE hF
  obtain ⟨g2, hF⟩ := gb_gdE hF
  obtain ⟨h3, eh3, hF⟩ := gb_ltE hF
  refine gb_newa (t := 23) (by decide) rfl ac23 (gb_nnE g2).1 (gb_nnE g2).2 dX1_init_7 (gb_hp eh3 (gb_topA ea1 ?_))
  obtain ⟨g4, hF⟩ := gb_gdE hF
  obtain ⟨h5, eh5, hF⟩ := gb_ltE hF
  refine gb_putR fX1_9 ffX1_9 dX1_init_9 (gb_kE g4) (fun _ => ⟨rfl, rfl⟩) (gb_hp eh5 ?_)
  refine gb_aload_n dX1_init_12 rfl rfl ?_
  refine gb_bipush (v := (56 : Int32)) dX1_init_13 (by decide) ?_
  obtain ⟨a6, ea6, hF⟩ := gb_ltE hF
  obtain ⟨g7, hF⟩ := gb_gdE hF
  obtain ⟨h8, eh8, hF⟩ := gb_ltE hF
  refine gb_newa (t := 23) (by decide) rfl ac23 (gb_nnE g7).1 (gb_nnE g7).2 dX1_init_15 (gb_hp eh8 (gb_topA ea6 ?_))
  obtain ⟨g9, hF⟩ := gb_gdE hF
  obtain ⟨h10, eh10, hF⟩ := gb_ltE hF
  refine gb_putR fX1_15 ffX1_15 dX1_init_17 (gb_kE g9) (fun _ => ⟨rfl, rfl⟩) (gb_hp eh10 ?_)
  refine gb_aload_n dX1_init_20 rfl rfl ?_
  refine gb_bipush (v := (32 : Int32)) dX1_init_21 (by decide) ?_
  obtain ⟨a11, ea11, hF⟩ := gb_ltE hF
  obtain ⟨g12, hF⟩ := gb_gdE hF
  obtain ⟨h13, eh13, hF⟩ := gb_ltE hF
  refine gb_newa (t := 23) (by decide) rfl ac23 (gb_nnE g12).1 (gb_nnE g12).2 dX1_init_23 (gb_hp eh13 (gb_topA ea11 ?_))
  obtain ⟨g14, hF⟩ := gb_gdE hF
  obtain ⟨h15, eh15, hF⟩ := gb_ltE hF
  refine gb_putR fX1_18 ffX1_18 dX1_init_25 (gb_kE g14) (fun _ => ⟨rfl, rfl⟩) (gb_hp eh15 ?_)
  refine gb_aload_n dX1_init_28 rfl rfl ?_
  refine gb_bipush (v := (32 : Int32)) dX1_init_29 (by decide) ?_
  obtain ⟨a16, ea16, hF⟩ := gb_ltE hF
  obtain ⟨g17, hF⟩ := gb_gdE hF
  obtain ⟨h18, eh18, hF⟩ := gb_ltE hF
  refine gb_newa (t := 23) (by decide) rfl ac23 (gb_nnE g17).1 (gb_nnE g17).2 dX1_init_31 (gb_hp eh18 (gb_topA ea16 ?_))
  obtain ⟨g19, hF⟩ := gb_gdE hF
  obtain ⟨h20, eh20, hF⟩ := gb_ltE hF
  refine gb_putR fX1_21 ffX1_21 dX1_init_33 (gb_kE g19) (fun _ => ⟨rfl, rfl⟩) (gb_hp eh20 ?_)
  refine gb_aload_n dX1_init_36 rfl rfl ?_
  refine gb_lconst (v := (1 : Int64)) dX1_init_37 (by decide) ?_
  obtain ⟨g21, hF⟩ := gb_gdE hF
  obtain ⟨h22, eh22, hF⟩ := gb_ltE hF
  refine gb_putL fX1_24 (gb_nff nf1_4) dX1_init_38 (gb_kE g21) (fun _ => ⟨rfl, rfl⟩) (gb_hp eh22 ?_)
  cases hF
  exact gb_vret dX1_init_41 rfl
def fbX6_init_110 (k110 : Nat → Int32 → gb_H → Option (Unit × gb_H)) (v0 : Nat) (v2 : Int32) (h : gb_H) : Option (Unit × gb_H) :=
  if (3 : Int32) < v2 then
    some ((), h)
  else
    gb_gd (gb_k h v0 6) <|
    gb_rd (gb_R h v0 2) fun a3 =>
    gb_lt (gb_cn h) fun a4 =>
    gb_lt (gb_nw h 0 0 7) fun h5 =>
    gb_bd (fnX0_init a4 (11 : Int32) h5) fun _ h7 =>
    gb_gd (gb_k h7 a3 30) <|
    gb_gd (gb_in h7 a3 v2) <|
    gb_gd (gb_k h7 a4 0) <|
    gb_lt (gb_sR h7 a3 v2.toNatClampNeg (some a4)) fun h11 =>
    gb_lt (v2 + (1 : Int32)) fun x12 =>
    k110 v0 x12 h11
theorem fbX6_init_110_ok {X : gb_X} {k110 : Nat → Int32 → gb_H → Option (Unit × gb_H)} (hk110 : ∀ v0 v2 h r, k110 v0 v2 h = some r → gb_Ev X 3 mX6_init 110 [some (.ref v0), none, some (.int v2)] [] h (gb_wV r)) (v0 : Nat) (v2 : Int32) (h : gb_H) (r : Unit × gb_H) (hF : fbX6_init_110 k110 v0 v2 h = some r) : gb_Ev X 3 mX6_init 110 [some (.ref v0), none, some (.int v2)] [] h (gb_wV r) := by
  unfold fbX6_init_110 at hF
  refine gb_iload_n dX6_init_110 rfl rfl ?_
  refine gb_iconst (v := (3 : Int32)) dX6_init_111 (by decide) ?_
  refine gb_icmp_gt (tgt := 136) dX6_init_112 (by decide) (fun c1 => ?_) (fun c1 => ?_)
  · replace hF := gb_ifT c1 hF
    cases hF
    exact gb_vret dX6_init_136 rfl
  · replace hF := gb_ifF c1 hF
    refine gb_aload_n dX6_init_115 rfl rfl ?_
    obtain ⟨g2, hF⟩ := gb_gdE hF
    obtain ⟨a3, ea3, hF⟩ := gb_rdE hF
    refine gb_getR fX6_19 dX6_init_116 (gb_kE g2) ea3 ?_
    refine gb_iload_n dX6_init_119 rfl rfl ?_
    obtain ⟨a4, ea4, hF⟩ := gb_ltE hF
    obtain ⟨h5, eh5, hF⟩ := gb_ltE hF
    refine gb_new cf0 cX6_17 df0 dX6_init_120 (gb_hp eh5 (gb_topA ea4 ?_))
    refine gb_dup dX6_init_123 rfl ?_
    refine gb_bipush (v := (11 : Int32)) dX6_init_124 (by decide) ?_
    obtain ⟨x6, h7, cx6, hF⟩ := gb_bdE hF
    refine gb_callI (As := [.int (11 : Int32)]) (S := [.ref a4, .int v2, .ref a3]) (h1 := h7) dX6_init_126 mtX0_init rfl rfl lX6_55 inX0_init (fnX0_init_ok _ _ cx6) (by decide) rfl (Nat.le_of_ble_eq_true rfl) (Nat.le_of_ble_eq_true rfl) rfl ?_
    obtain ⟨g8, hF⟩ := gb_gdE hF
    obtain ⟨g9, hF⟩ := gb_gdE hF
    obtain ⟨g10, hF⟩ := gb_gdE hF
    obtain ⟨h11, eh11, hF⟩ := gb_ltE hF
    refine gb_aast cf0 dX6_init_129 (gb_kE g8) ⟨by decide, rfl⟩ (gb_kE g10) (gb_inE g9) (gb_hp eh11 ?_)
    obtain ⟨x12, ex12, hF⟩ := gb_ltE hF
    refine gb_iinc (v := x12) (L' := [some (.ref v0), none, some (.int x12)]) dX6_init_130 rfl (by rw [ex12]; rfl) (by decide) rfl rfl ?_
    refine gb_goto (tgt := 110) dX6_init_133 (by decide) ?_
    exact gb_wk (hk110 v0 x12 h11 r hF) (And.intro rfl (And.intro rfl trivial))
def lpX6_init_110 (n : Nat) (v0 : Nat) (v2 : Int32) (h : gb_H) : Option (Unit × gb_H) := gb_lp (σ := Nat × Int32 × gb_H) (fun k s => fbX6_init_110 (fun v0 v2 h => k (v0, v2, h)) s.1 s.2.1 s.2.2) n (v0, v2, h)
theorem lpX6_init_110_ok {X : gb_X}  (n : Nat) (v0 : Nat) (v2 : Int32) (h : gb_H) (r : Unit × gb_H) (hF : lpX6_init_110 n v0 v2 h = some r) : gb_Ev X 3 mX6_init 110 [some (.ref v0), none, some (.int v2)] [] h (gb_wV r) := by
  exact gb_lpE (σ := Nat × Int32 × gb_H) (P := fun s r => gb_Ev X 3 mX6_init 110 [some (.ref s.1), none, some (.int s.2.1)] [] s.2.2 (gb_wV r)) (fun k hk s r hs => fbX6_init_110_ok (fun v0 v2 h r e => hk (v0, v2, h) r e) _ _ _ r hs) n (v0, v2, h) r hF
def fbX6_init_83 (k83 : Nat → Int32 → gb_H → Option (Unit × gb_H)) (v0 : Nat) (v2 : Int32) (h : gb_H) : Option (Unit × gb_H) :=
  if (8 : Int32) ≤ v2 then
    lpX6_init_110 gb_FU v0 (0 : Int32) h
  else
    gb_gd (gb_k h v0 6) <|
    gb_rd (gb_R h v0 1) fun a3 =>
    gb_lt (gb_cn h) fun a4 =>
    gb_lt (gb_nw h 4 0 5) fun h5 =>
    gb_bd (fnX4_init a4 h5) fun _ h7 =>
    gb_gd (gb_k h7 a3 34) <|
    gb_gd (gb_in h7 a3 v2) <|
    gb_gd (gb_k h7 a4 4) <|
    gb_lt (gb_sR h7 a3 v2.toNatClampNeg (some a4)) fun h11 =>
    gb_lt (v2 + (1 : Int32)) fun x12 =>
    k83 v0 x12 h11
theorem fbX6_init_83_ok {X : gb_X} {k83 : Nat → Int32 → gb_H → Option (Unit × gb_H)} (hk83 : ∀ v0 v2 h r, k83 v0 v2 h = some r → gb_Ev X 3 mX6_init 83 [some (.ref v0), none, some (.int v2)] [] h (gb_wV r)) (v0 : Nat) (v2 : Int32) (h : gb_H) (r : Unit × gb_H) (hF : fbX6_init_83 k83 v0 v2 h = some r) : gb_Ev X 3 mX6_init 83 [some (.ref v0), none, some (.int v2)] [] h (gb_wV r) := by
  unfold fbX6_init_83 at hF
  refine gb_iload_n dX6_init_83 rfl rfl ?_
  refine gb_bipush (v := (8 : Int32)) dX6_init_84 (by decide) ?_
  refine gb_icmp_ge (tgt := 108) dX6_init_86 (by decide) (fun c1 => ?_) (fun c1 => ?_)
  · replace hF := gb_ifT c1 hF
    refine gb_iconst (v := (0 : Int32)) dX6_init_108 (by decide) ?_
    refine gb_istore_n (L' := [some (.ref v0), none, some (.int (0 : Int32))]) dX6_init_109 rfl (by decide) rfl rfl ?_
    exact gb_wk (lpX6_init_110_ok gb_FU v0 (0 : Int32) h r hF) (And.intro rfl (And.intro rfl trivial))
  · replace hF := gb_ifF c1 hF
    refine gb_aload_n dX6_init_89 rfl rfl ?_
    obtain ⟨g2, hF⟩ := gb_gdE hF
    obtain ⟨a3, ea3, hF⟩ := gb_rdE hF
    refine gb_getR fX6_11 dX6_init_90 (gb_kE g2) ea3 ?_
    refine gb_iload_n dX6_init_93 rfl rfl ?_
    obtain ⟨a4, ea4, hF⟩ := gb_ltE hF
    obtain ⟨h5, eh5, hF⟩ := gb_ltE hF
    refine gb_new cf4 cX6_9 df4 dX6_init_94 (gb_hp eh5 (gb_topA ea4 ?_))
    refine gb_dup dX6_init_97 rfl ?_
    obtain ⟨x6, h7, cx6, hF⟩ := gb_bdE hF
    refine gb_callI (As := []) (S := [.ref a4, .int v2, .ref a3]) (h1 := h7) dX6_init_98 mtX4_init rfl rfl lX6_54 inX4_init (fnX4_init_ok _ _ cx6) (by decide) rfl (Nat.le_of_ble_eq_true rfl) (Nat.le_of_ble_eq_true rfl) rfl ?_
    obtain ⟨g8, hF⟩ := gb_gdE hF
    obtain ⟨g9, hF⟩ := gb_gdE hF
    obtain ⟨g10, hF⟩ := gb_gdE hF
    obtain ⟨h11, eh11, hF⟩ := gb_ltE hF
    refine gb_aast cf4 dX6_init_101 (gb_kE g8) ⟨by decide, rfl⟩ (gb_kE g10) (gb_inE g9) (gb_hp eh11 ?_)
    obtain ⟨x12, ex12, hF⟩ := gb_ltE hF
    refine gb_iinc (v := x12) (L' := [some (.ref v0), none, some (.int x12)]) dX6_init_102 rfl (by rw [ex12]; rfl) (by decide) rfl rfl ?_
    refine gb_goto (tgt := 83) dX6_init_105 (by decide) ?_
    exact gb_wk (hk83 v0 x12 h11 r hF) (And.intro rfl (And.intro rfl trivial))
def lpX6_init_83 (n : Nat) (v0 : Nat) (v2 : Int32) (h : gb_H) : Option (Unit × gb_H) := gb_lp (σ := Nat × Int32 × gb_H) (fun k s => fbX6_init_83 (fun v0 v2 h => k (v0, v2, h)) s.1 s.2.1 s.2.2) n (v0, v2, h)
theorem lpX6_init_83_ok {X : gb_X}  (n : Nat) (v0 : Nat) (v2 : Int32) (h : gb_H) (r : Unit × gb_H) (hF : lpX6_init_83 n v0 v2 h = some r) : gb_Ev X 3 mX6_init 83 [some (.ref v0), none, some (.int v2)] [] h (gb_wV r) := by
  exact gb_lpE (σ := Nat × Int32 × gb_H) (P := fun s r => gb_Ev X 3 mX6_init 83 [some (.ref s.1), none, some (.int s.2.1)] [] s.2.2 (gb_wV r)) (fun k hk s r hs => fbX6_init_83_ok (fun v0 v2 h r e => hk (v0, v2, h) r e) _ _ _ r hs) n (v0, v2, h) r hF
def fnX6_init (p0 : Nat) (p1 : Nat) (h : gb_H) : Option (Unit × gb_H) :=
  gb_lt (gb_cn h) fun a1 =>
  gb_gd (gb_nn (8 : Int32) 4) <|
  gb_lt (gb_nw h 34 (8 : Int32).toNatClampNeg (8 : Int32).toNatClampNeg) fun h3 =>
  gb_gd (gb_k h3 p0 6) <|
  gb_lt (gb_sR h3 p0 1 (some a1)) fun h5 =>
  gb_lt (gb_cn h5) fun a6 =>
  gb_gd (gb_nn (4 : Int32) 4) <|
  gb_lt (gb_nw h5 30 (4 : Int32).toNatClampNeg (4 : Int32).toNatClampNeg) fun h8 =>
  gb_gd (gb_k h8 p0 6) <|
  gb_lt (gb_sR h8 p0 2 (some a6)) fun h10 =>
  gb_lt (gb_cn h10) fun a11 =>
  gb_gd (gb_nn (4 : Int32) 4) <|
  gb_lt (gb_nw h10 20 (4 : Int32).toNatClampNeg (4 : Int32).toNatClampNeg) fun h13 =>
  gb_gd (gb_k h13 p0 6) <|
  gb_lt (gb_sR h13 p0 3 (some a11)) fun h15 =>
  gb_lt (gb_cn h15) fun a16 =>
  gb_gd (gb_nn (4 : Int32) 4) <|
  gb_lt (gb_nw h15 20 (4 : Int32).toNatClampNeg (4 : Int32).toNatClampNeg) fun h18 =>
  gb_gd (gb_k h18 p0 6) <|
  gb_lt (gb_sR h18 p0 4 (some a16)) fun h20 =>
  gb_lt (gb_cn h20) fun a21 =>
  gb_gd (gb_nn (4 : Int32) 4) <|
  gb_lt (gb_nw h20 20 (4 : Int32).toNatClampNeg (4 : Int32).toNatClampNeg) fun h23 =>
  gb_gd (gb_k h23 p0 6) <|
  gb_lt (gb_sR h23 p0 5 (some a21)) fun h25 =>
  gb_lt (gb_cn h25) fun a26 =>
  gb_gd (gb_nn (3 : Int32) 4) <|
  gb_lt (gb_nw h25 20 (3 : Int32).toNatClampNeg (3 : Int32).toNatClampNeg) fun h28 =>
  gb_gd (gb_k h28 p0 6) <|
  gb_lt (gb_sR h28 p0 6 (some a26)) fun h30 =>
  gb_gd (gb_k h30 p0 6) <|
  gb_lt (gb_sI h30 p0 7 (-1 : Int32)) fun h32 =>
  gb_lt (gb_cn h32) fun a33 =>
  gb_lt (gb_nw h32 8 0 3) fun h34 =>
  gb_bd (fnX8_init a33 h34) fun _ h36 =>
  gb_gd (gb_k h36 p0 6) <|
  gb_lt (gb_sR h36 p0 8 (some a33)) fun h38 =>
  gb_lt (gb_cn h38) fun a39 =>
  gb_lt (gb_nw h38 8 0 3) fun h40 =>
  gb_bd (fnX8_init a39 h40) fun _ h42 =>
  gb_gd (gb_k h42 p0 6) <|
  gb_lt (gb_sR h42 p0 9 (some a39)) fun h44 =>
  gb_gd (gb_k h44 p0 6) <|
  gb_lt (gb_sR h44 p0 0 (some p1)) fun h46 =>
  lpX6_init_83 gb_FU p0 (0 : Int32) h46
theorem fnX6_init_ok {X : gb_X}  {p0 : Nat} {p1 : Nat} (h : gb_H) (r : Unit × gb_H) (hF : fnX6_init p0 p1 h = some r) : gb_Ev X 3 mX6_init 0 (gb_L0 [.ref p0, .ref p1]) [] h (gb_wV r) := by
  unfold fnX6_init at hF
  refine gb_weak (L' := [some (.ref p0), some (.ref p1), none]) (And.intro rfl (And.intro rfl trivial)) ?_
  refine gb_aload_n dX6_init_0 rfl rfl ?_
  refine gb_objInit dX6_init_1 lX6_3 gb_oin gb_ocd (by decide) (Nat.le_of_ble_eq_true rfl) ?_
  refine gb_aload_n dX6_init_4 rfl rfl ?_
  refine gb_bipush (v := (8 : Int32)) dX6_init_5 (by decide) ?_
  obtain ⟨a1, ea1, hF⟩ := gb_ltE hF
  obtain ⟨g2, hF⟩ := gb_gdE hF
  obtain ⟨h3, eh3, hF⟩ := gb_ltE hF
  refine gb_anew (t := 34) (by decide) rfl (by decide) cX6_9 (gb_nnE g2).1 (gb_nnE g2).2 dX6_init_7 (gb_hp eh3 (gb_topA ea1 ?_))
  obtain ⟨g4, hF⟩ := gb_gdE hF
  obtain ⟨h5, eh5, hF⟩ := gb_ltE hF
  refine gb_putR fX6_11 ffX6_11 dX6_init_10 (gb_kE g4) (fun _ => ⟨rfl, rfl⟩) (gb_hp eh5 ?_)
  refine gb_aload_n dX6_init_13 rfl rfl ?_
  refine gb_iconst (v := (4 : Int32)) dX6_init_14 (by decide) ?_
  obtain ⟨a6, ea6, hF⟩ := gb_ltE hF
  obtain ⟨g7, hF⟩ := gb_gdE hF
  obtain ⟨h8, eh8, hF⟩ := gb_ltE hF
  refine gb_anew (t := 30) (by decide) rfl (by decide) cX6_17 (gb_nnE g7).1 (gb_nnE g7).2 dX6_init_15 (gb_hp eh8 (gb_topA ea6 ?_))
  obtain ⟨g9, hF⟩ := gb_gdE hF
  obtain ⟨h10, eh10, hF⟩ := gb_ltE hF
  refine gb_putR fX6_19 ffX6_19 dX6_init_18 (gb_kE g9) (fun _ => ⟨rfl, rfl⟩) (gb_hp eh10 ?_)
  refine gb_aload_n dX6_init_21 rfl rfl ?_
  refine gb_iconst (v := (4 : Int32)) dX6_init_22 (by decide) ?_
  obtain ⟨a11, ea11, hF⟩ := gb_ltE hF
  obtain ⟨g12, hF⟩ := gb_gdE hF
  obtain ⟨h13, eh13, hF⟩ := gb_ltE hF
  refine gb_newa (t := 20) (by decide) rfl ac20 (gb_nnE g12).1 (gb_nnE g12).2 dX6_init_23 (gb_hp eh13 (gb_topA ea11 ?_))
  obtain ⟨g14, hF⟩ := gb_gdE hF
  obtain ⟨h15, eh15, hF⟩ := gb_ltE hF
  refine gb_putR fX6_23 ffX6_23 dX6_init_25 (gb_kE g14) (fun _ => ⟨rfl, rfl⟩) (gb_hp eh15 ?_)
  refine gb_aload_n dX6_init_28 rfl rfl ?_
  refine gb_iconst (v := (4 : Int32)) dX6_init_29 (by decide) ?_
  obtain ⟨a16, ea16, hF⟩ := gb_ltE hF
  obtain ⟨g17, hF⟩ := gb_gdE hF
  obtain ⟨h18, eh18, hF⟩ := gb_ltE hF
  refine gb_newa (t := 20) (by decide) rfl ac20 (gb_nnE g17).1 (gb_nnE g17).2 dX6_init_30 (gb_hp eh18 (gb_topA ea16 ?_))
  obtain ⟨g19, hF⟩ := gb_gdE hF
  obtain ⟨h20, eh20, hF⟩ := gb_ltE hF
  refine gb_putR fX6_27 ffX6_27 dX6_init_32 (gb_kE g19) (fun _ => ⟨rfl, rfl⟩) (gb_hp eh20 ?_)
  refine gb_aload_n dX6_init_35 rfl rfl ?_
  refine gb_iconst (v := (4 : Int32)) dX6_init_36 (by decide) ?_
  obtain ⟨a21, ea21, hF⟩ := gb_ltE hF
  obtain ⟨g22, hF⟩ := gb_gdE hF
  obtain ⟨h23, eh23, hF⟩ := gb_ltE hF
  refine gb_newa (t := 20) (by decide) rfl ac20 (gb_nnE g22).1 (gb_nnE g22).2 dX6_init_37 (gb_hp eh23 (gb_topA ea21 ?_))
  obtain ⟨g24, hF⟩ := gb_gdE hF
  obtain ⟨h25, eh25, hF⟩ := gb_ltE hF
  refine gb_putR fX6_30 ffX6_30 dX6_init_39 (gb_kE g24) (fun _ => ⟨rfl, rfl⟩) (gb_hp eh25 ?_)
  refine gb_aload_n dX6_init_42 rfl rfl ?_
  refine gb_iconst (v := (3 : Int32)) dX6_init_43 (by decide) ?_
  obtain ⟨a26, ea26, hF⟩ := gb_ltE hF
  obtain ⟨g27, hF⟩ := gb_gdE hF
  obtain ⟨h28, eh28, hF⟩ := gb_ltE hF
  refine gb_newa (t := 20) (by decide) rfl ac20 (gb_nnE g27).1 (gb_nnE g27).2 dX6_init_44 (gb_hp eh28 (gb_topA ea26 ?_))
  obtain ⟨g29, hF⟩ := gb_gdE hF
  obtain ⟨h30, eh30, hF⟩ := gb_ltE hF
  refine gb_putR fX6_33 ffX6_33 dX6_init_46 (gb_kE g29) (fun _ => ⟨rfl, rfl⟩) (gb_hp eh30 ?_)
  refine gb_aload_n dX6_init_49 rfl rfl ?_
  refine gb_iconst (v := (-1 : Int32)) dX6_init_50 (by decide) ?_
  obtain ⟨g31, hF⟩ := gb_gdE hF
  obtain ⟨h32, eh32, hF⟩ := gb_ltE hF
  refine gb_putI fX6_36 (gb_nff nf6_7) dX6_init_51 (gb_kE g31) (fun _ => ⟨rfl, rfl⟩) (gb_hp eh32 ?_)
  refine gb_aload_n dX6_init_54 rfl rfl ?_
  obtain ⟨a33, ea33, hF⟩ := gb_ltE hF
  obtain ⟨h34, eh34, hF⟩ := gb_ltE hF
  refine gb_new cf8 cX6_40 df8 dX6_init_55 (gb_hp eh34 (gb_topA ea33 ?_))
  refine gb_dup dX6_init_58 rfl ?_
  obtain ⟨x35, h36, cx35, hF⟩ := gb_bdE hF
  refine gb_callI (As := []) (S := [.ref a33, .ref p0]) (h1 := h36) dX6_init_59 mtX8_init rfl rfl lX6_42 inX8_init (fnX8_init_ok _ _ cx35) (by decide) rfl (Nat.le_of_ble_eq_true rfl) (Nat.le_of_ble_eq_true rfl) rfl ?_
  obtain ⟨g37, hF⟩ := gb_gdE hF
  obtain ⟨h38, eh38, hF⟩ := gb_ltE hF
  refine gb_putR fX6_43 ffX6_43 dX6_init_62 (gb_kE g37) (fun _ => ⟨rfl, rfl⟩) (gb_hp eh38 ?_)
  refine gb_aload_n dX6_init_65 rfl rfl ?_
  obtain ⟨a39, ea39, hF⟩ := gb_ltE hF
  obtain ⟨h40, eh40, hF⟩ := gb_ltE hF
  refine gb_new cf8 cX6_40 df8 dX6_init_66 (gb_hp eh40 (gb_topA ea39 ?_))
  refine gb_dup dX6_init_69 rfl ?_
  obtain ⟨x41, h42, cx41, hF⟩ := gb_bdE hF
  refine gb_callI (As := []) (S := [.ref a39, .ref p0]) (h1 := h42) dX6_init_70 mtX8_init rfl rfl lX6_42 inX8_init (fnX8_init_ok _ _ cx41) (by decide) rfl (Nat.le_of_ble_eq_true rfl) (Nat.le_of_ble_eq_true rfl) rfl ?_
  obtain ⟨g43, hF⟩ := gb_gdE hF
  obtain ⟨h44, eh44, hF⟩ := gb_ltE hF
  refine gb_putR fX6_47 ffX6_47 dX6_init_73 (gb_kE g43) (fun _ => ⟨rfl, rfl⟩) (gb_hp eh44 ?_)
  refine gb_aload_n dX6_init_76 rfl rfl ?_
  refine gb_aload_n dX6_init_77 rfl rfl ?_
  obtain ⟨g45, hF⟩ := gb_gdE hF
  obtain ⟨h46, eh46, hF⟩ := gb_ltE hF
  refine gb_putR fX6_50 ffX6_50 dX6_init_78 (gb_kE g45) (fun _ => ⟨rfl, rfl⟩) (gb_hp eh46 ?_)
  refine gb_iconst (v := (0 : Int32)) dX6_init_81 (by decide) ?_
  refine gb_istore_n (L' := [some (.ref p0), some (.ref p1), some (.int (0 : Int32))]) dX6_init_82 rfl (by decide) rfl rfl ?_
  exact gb_wk (lpX6_init_83_ok gb_FU p0 (0 : Int32) h46 r hF) (And.intro rfl (And.intro rfl trivial))
def fbX1_gather_72 (k72 : Nat → Nat → Int32 → gb_H → Option (Unit × gb_H)) (v0 : Nat) (v1 : Nat) (v4 : Int32) (h : gb_H) : Option (Unit × gb_H) :=
  gb_gd (gb_k h v1 0) <|
  if (gb_I h v1 6) ≤ v4 then
    some ((), h)
  else
    gb_gd (gb_k h v1 0) <|
    gb_rd (gb_R h v1 0) fun a4 =>
    gb_gd (gb_k h a4 20) <|
    gb_gd (gb_in h a4 v4) <|
    gb_lt (gb_I h a4 v4.toNatClampNeg) fun x7 =>
    gb_gd (gb_k h v1 0) <|
    gb_bd (fnX0_weightWhole v1 x7 h) fun x9 h10 =>
    gb_gd (gb_k h10 v1 0) <|
    gb_bd (fnX0_weightRoot v1 x7 h10) fun x12 h13 =>
    gb_bd (fnX0_rowOfKey x7 h13) fun x14 h15 =>
    gb_bd (fnX0_pathsOf x7 h15) fun x16 h17 =>
    gb_gd (gb_k h17 v0 1) <|
    gb_rd (gb_R h17 v0 0) fun a19 =>
    gb_gd (gb_k h17 a19 23) <|
    gb_gd (gb_in h17 a19 x14) <|
    gb_gd (gb_k h17 a19 23) <|
    gb_gd (gb_in h17 a19 x14) <|
    gb_lt (gb_sL h17 a19 x14.toNatClampNeg ((gb_L h17 a19 x14.toNatClampNeg) + x9)) fun h24 =>
    gb_gd (gb_k h24 v0 1) <|
    gb_rd (gb_R h24 v0 1) fun a26 =>
    gb_gd (gb_k h24 a26 23) <|
    gb_gd (gb_in h24 a26 x14) <|
    gb_gd (gb_k h24 a26 23) <|
    gb_gd (gb_in h24 a26 x14) <|
    gb_lt (gb_sL h24 a26 x14.toNatClampNeg ((gb_L h24 a26 x14.toNatClampNeg) + x12)) fun h31 =>
    gb_gd (gb_k h31 v0 1) <|
    gb_rd (gb_R h31 v0 2) fun a33 =>
    gb_gd (gb_k h31 a33 23) <|
    gb_gd (gb_in h31 a33 x16) <|
    gb_gd (gb_k h31 a33 23) <|
    gb_gd (gb_in h31 a33 x16) <|
    gb_lt (gb_sL h31 a33 x16.toNatClampNeg ((gb_L h31 a33 x16.toNatClampNeg) + x9)) fun h38 =>
    gb_gd (gb_k h38 v0 1) <|
    gb_rd (gb_R h38 v0 3) fun a40 =>
    gb_gd (gb_k h38 a40 23) <|
    gb_gd (gb_in h38 a40 x16) <|
    gb_gd (gb_k h38 a40 23) <|
    gb_gd (gb_in h38 a40 x16) <|
    gb_lt (gb_sL h38 a40 x16.toNatClampNeg ((gb_L h38 a40 x16.toNatClampNeg) + x12)) fun h45 =>
    gb_lt (v4 + (1 : Int32)) fun x46 =>
    k72 v0 v1 x46 h45
theorem fbX1_gather_72_ok {X : gb_X} {k72 : Nat → Nat → Int32 → gb_H → Option (Unit × gb_H)} (hk72 : ∀ v0 v1 v4 h r, k72 v0 v1 v4 h = some r → gb_Ev X 4 mX1_gather 72 [some (.ref v0), some (.ref v1), none, none, some (.int v4), none, none, none, none, none, none, none] [] h (gb_wV r)) (v0 : Nat) (v1 : Nat) (v4 : Int32) (h : gb_H) (r : Unit × gb_H) (hF : fbX1_gather_72 k72 v0 v1 v4 h = some r) : gb_Ev X 4 mX1_gather 72 [some (.ref v0), some (.ref v1), none, none, some (.int v4), none, none, none, none, none, none, none] [] h (gb_wV r) := by
  unfold fbX1_gather_72 at hF
  refine gb_iload dX1_gather_72 rfl ?_
  refine gb_aload_n dX1_gather_74 rfl rfl ?_
  obtain ⟨g1, hF⟩ := gb_gdE hF
  refine gb_getI fX1_28 dX1_gather_75 (gb_kE g1) ?_
  refine gb_icmp_ge (tgt := 174) dX1_gather_78 (by decide) (fun c2 => ?_) (fun c2 => ?_)
  · replace hF := gb_ifT c2 hF
    cases hF
    exact gb_vret dX1_gather_174 rfl
  · replace hF := gb_ifF c2 hF
    refine gb_aload_n dX1_gather_81 rfl rfl ?_
    obtain ⟨g3, hF⟩ := gb_gdE hF
    obtain ⟨a4, ea4, hF⟩ := gb_rdE hF
    refine gb_getR fX1_34 dX1_gather_82 (gb_kE g3) ea4 ?_
    refine gb_iload dX1_gather_85 rfl ?_
    obtain ⟨g5, hF⟩ := gb_gdE hF
    obtain ⟨g6, hF⟩ := gb_gdE hF
    refine gb_iald dX1_gather_87 (gb_kE g5) (gb_inE g6) ?_
    obtain ⟨x7, ex7, hF⟩ := gb_ltE hF
    refine gb_topI ex7 ?_
    refine gb_istore (L' := [some (.ref v0), some (.ref v1), none, none, some (.int v4), some (.int x7), none, none, none, none, none, none]) dX1_gather_88 (by decide) rfl rfl ?_
    refine gb_aload_n dX1_gather_90 rfl rfl ?_
    refine gb_iload dX1_gather_91 rfl ?_
    obtain ⟨g8, hF⟩ := gb_gdE hF
    obtain ⟨x9, h10, cx9, hF⟩ := gb_bdE hF
    refine gb_cV (As := [.int x7]) (S := []) (v := some (.long x9)) (h1 := h10) (S2 := [.long x9]) cf0 dX1_gather_93 mtX0_weightWhole lX1_38 inX0_weightWhole seX0_weightWhole (gb_kE g8) (fnX0_weightWhole_ok _ _ cx9) (by decide) rfl (Nat.le_of_ble_eq_true rfl) (Nat.le_of_ble_eq_true rfl) rfl rfl ?_
    refine gb_lstore (L' := [some (.ref v0), some (.ref v1), none, none, some (.int v4), some (.int x7), some (.long x9), none, none, none, none, none]) dX1_gather_96 (by decide) rfl rfl ?_
    refine gb_aload_n dX1_gather_98 rfl rfl ?_
    refine gb_iload dX1_gather_99 rfl ?_
    obtain ⟨g11, hF⟩ := gb_gdE hF
    obtain ⟨x12, h13, cx12, hF⟩ := gb_bdE hF
    refine gb_cV (As := [.int x7]) (S := []) (v := some (.long x12)) (h1 := h13) (S2 := [.long x12]) cf0 dX1_gather_101 mtX0_weightRoot lX1_42 inX0_weightRoot seX0_weightRoot (gb_kE g11) (fnX0_weightRoot_ok _ _ cx12) (by decide) rfl (Nat.le_of_ble_eq_true rfl) (Nat.le_of_ble_eq_true rfl) rfl rfl ?_
    refine gb_lstore (L' := [some (.ref v0), some (.ref v1), none, none, some (.int v4), some (.int x7), some (.long x9), none, some (.long x12), none, none, none]) dX1_gather_104 (by decide) rfl rfl ?_
    refine gb_iload dX1_gather_106 rfl ?_
    obtain ⟨x14, h15, cx14, hF⟩ := gb_bdE hF
    refine gb_cS (As := [.int x7]) (S := []) (v := some (.int x14)) (h1 := h15) (S2 := [.int x14]) dX1_gather_108 mtX0_rowOfKey lX1_45 stX0_rowOfKey (fnX0_rowOfKey_ok _ _ cx14) (by decide) rfl (Nat.le_of_ble_eq_true rfl) (Nat.le_of_ble_eq_true rfl) rfl rfl ?_
    refine gb_istore (L' := [some (.ref v0), some (.ref v1), none, none, some (.int v4), some (.int x7), some (.long x9), none, some (.long x12), none, some (.int x14), none]) dX1_gather_111 (by decide) rfl rfl ?_
    refine gb_iload dX1_gather_113 rfl ?_
    obtain ⟨x16, h17, cx16, hF⟩ := gb_bdE hF
    refine gb_cS (As := [.int x7]) (S := []) (v := some (.int x16)) (h1 := h17) (S2 := [.int x16]) dX1_gather_115 mtX0_pathsOf lX1_49 stX0_pathsOf (fnX0_pathsOf_ok _ _ cx16) (by decide) rfl (Nat.le_of_ble_eq_true rfl) (Nat.le_of_ble_eq_true rfl) rfl rfl ?_
    refine gb_istore (L' := [some (.ref v0), some (.ref v1), none, none, some (.int v4), some (.int x7), some (.long x9), none, some (.long x12), none, some (.int x14), some (.int x16)]) dX1_gather_118 (by decide) rfl rfl ?_
    refine gb_aload_n dX1_gather_120 rfl rfl ?_
    obtain ⟨g18, hF⟩ := gb_gdE hF
    obtain ⟨a19, ea19, hF⟩ := gb_rdE hF
    refine gb_getR fX1_9 dX1_gather_121 (gb_kE g18) ea19 ?_
    refine gb_iload dX1_gather_124 rfl ?_
    refine gb_dup2 dX1_gather_126 rfl rfl ?_
    obtain ⟨g20, hF⟩ := gb_gdE hF
    obtain ⟨g21, hF⟩ := gb_gdE hF
    refine gb_lald dX1_gather_127 (gb_kE g20) (gb_inE g21) ?_
    refine gb_lload dX1_gather_128 rfl ?_
    refine gb_ladd dX1_gather_130 ?_
    obtain ⟨g22, hF⟩ := gb_gdE hF
    obtain ⟨g23, hF⟩ := gb_gdE hF
    obtain ⟨h24, eh24, hF⟩ := gb_ltE hF
    refine gb_last dX1_gather_131 (gb_kE g22) (gb_inE g23) (gb_hp eh24 ?_)
    refine gb_aload_n dX1_gather_132 rfl rfl ?_
    obtain ⟨g25, hF⟩ := gb_gdE hF
    obtain ⟨a26, ea26, hF⟩ := gb_rdE hF
    refine gb_getR fX1_15 dX1_gather_133 (gb_kE g25) ea26 ?_
    refine gb_iload dX1_gather_136 rfl ?_
    refine gb_dup2 dX1_gather_138 rfl rfl ?_
    obtain ⟨g27, hF⟩ := gb_gdE hF
    obtain ⟨g28, hF⟩ := gb_gdE hF
    refine gb_lald dX1_gather_139 (gb_kE g27) (gb_inE g28) ?_
    refine gb_lload dX1_gather_140 rfl ?_
    refine gb_ladd dX1_gather_142 ?_
    obtain ⟨g29, hF⟩ := gb_gdE hF
    obtain ⟨g30, hF⟩ := gb_gdE hF
    obtain ⟨h31, eh31, hF⟩ := gb_ltE hF
    refine gb_last dX1_gather_143 (gb_kE g29) (gb_inE g30) (gb_hp eh31 ?_)
    refine gb_aload_n dX1_gather_144 rfl rfl ?_
    obtain ⟨g32, hF⟩ := gb_gdE hF
    obtain ⟨a33, ea33, hF⟩ := gb_rdE hF
    refine gb_getR fX1_18 dX1_gather_145 (gb_kE g32) ea33 ?_
    refine gb_iload dX1_gather_148 rfl ?_
    refine gb_dup2 dX1_gather_150 rfl rfl ?_
    obtain ⟨g34, hF⟩ := gb_gdE hF
    obtain ⟨g35, hF⟩ := gb_gdE hF
    refine gb_lald dX1_gather_151 (gb_kE g34) (gb_inE g35) ?_
    refine gb_lload dX1_gather_152 rfl ?_
    refine gb_ladd dX1_gather_154 ?_
    obtain ⟨g36, hF⟩ := gb_gdE hF
    obtain ⟨g37, hF⟩ := gb_gdE hF
    obtain ⟨h38, eh38, hF⟩ := gb_ltE hF
    refine gb_last dX1_gather_155 (gb_kE g36) (gb_inE g37) (gb_hp eh38 ?_)
    refine gb_aload_n dX1_gather_156 rfl rfl ?_
    obtain ⟨g39, hF⟩ := gb_gdE hF
    obtain ⟨a40, ea40, hF⟩ := gb_rdE hF
    refine gb_getR fX1_21 dX1_gather_157 (gb_kE g39) ea40 ?_
    refine gb_iload dX1_gather_160 rfl ?_
    refine gb_dup2 dX1_gather_162 rfl rfl ?_
    obtain ⟨g41, hF⟩ := gb_gdE hF
    obtain ⟨g42, hF⟩ := gb_gdE hF
    refine gb_lald dX1_gather_163 (gb_kE g41) (gb_inE g42) ?_
    refine gb_lload dX1_gather_164 rfl ?_
    refine gb_ladd dX1_gather_166 ?_
    obtain ⟨g43, hF⟩ := gb_gdE hF
    obtain ⟨g44, hF⟩ := gb_gdE hF
    obtain ⟨h45, eh45, hF⟩ := gb_ltE hF
    refine gb_last dX1_gather_167 (gb_kE g43) (gb_inE g44) (gb_hp eh45 ?_)
    obtain ⟨x46, ex46, hF⟩ := gb_ltE hF
    refine gb_iinc (v := x46) (L' := [some (.ref v0), some (.ref v1), none, none, some (.int x46), some (.int x7), some (.long x9), none, some (.long x12), none, some (.int x14), some (.int x16)]) dX1_gather_168 rfl (by rw [ex46]; rfl) (by decide) rfl rfl ?_
    refine gb_goto (tgt := 72) dX1_gather_171 (by decide) ?_
    exact gb_wk (hk72 v0 v1 x46 h45 r hF) (And.intro rfl (And.intro rfl (And.intro rfl trivial)))
def lpX1_gather_72 (n : Nat) (v0 : Nat) (v1 : Nat) (v4 : Int32) (h : gb_H) : Option (Unit × gb_H) := gb_lp (σ := Nat × Nat × Int32 × gb_H) (fun k s => fbX1_gather_72 (fun v0 v1 v4 h => k (v0, v1, v4, h)) s.1 s.2.1 s.2.2.1 s.2.2.2) n (v0, v1, v4, h)
theorem lpX1_gather_72_ok {X : gb_X}  (n : Nat) (v0 : Nat) (v1 : Nat) (v4 : Int32) (h : gb_H) (r : Unit × gb_H) (hF : lpX1_gather_72 n v0 v1 v4 h = some r) : gb_Ev X 4 mX1_gather 72 [some (.ref v0), some (.ref v1), none, none, some (.int v4), none, none, none, none, none, none, none] [] h (gb_wV r) := by
  exact gb_lpE (σ := Nat × Nat × Int32 × gb_H) (P := fun s r => gb_Ev X 4 mX1_gather 72 [some (.ref s.1), some (.ref s.2.1), none, none, some (.int s.2.2.1), none, none, none, none, none, none, none] [] s.2.2.2 (gb_wV r)) (fun k hk s r hs => fbX1_gather_72_ok (fun v0 v1 v4 h r e => hk (v0, v1, v4, h) r e) _ _ _ _ r hs) n (v0, v1, v4, h) r hF
def fbX1_gather_40 (k40 : Nat → Nat → Int32 → gb_H → Option (Unit × gb_H)) (v0 : Nat) (v1 : Nat) (v4 : Int32) (h : gb_H) : Option (Unit × gb_H) :=
  if (32 : Int32) ≤ v4 then
    lpX1_gather_72 gb_FU v0 v1 (0 : Int32) h
  else
    gb_gd (gb_k h v0 1) <|
    gb_rd (gb_R h v0 2) fun a3 =>
    gb_gd (gb_k h a3 23) <|
    gb_gd (gb_in h a3 v4) <|
    gb_lt (gb_sL h a3 v4.toNatClampNeg (0 : Int64)) fun h6 =>
    gb_gd (gb_k h6 v0 1) <|
    gb_rd (gb_R h6 v0 3) fun a8 =>
    gb_gd (gb_k h6 a8 23) <|
    gb_gd (gb_in h6 a8 v4) <|
    gb_lt (gb_sL h6 a8 v4.toNatClampNeg (0 : Int64)) fun h11 =>
    gb_lt (v4 + (1 : Int32)) fun x12 =>
    k40 v0 v1 x12 h11
theorem fbX1_gather_40_ok {X : gb_X} {k40 : Nat → Nat → Int32 → gb_H → Option (Unit × gb_H)} (hk40 : ∀ v0 v1 v4 h r, k40 v0 v1 v4 h = some r → gb_Ev X 4 mX1_gather 40 [some (.ref v0), some (.ref v1), none, none, some (.int v4), none, none, none, none, none, none, none] [] h (gb_wV r)) (v0 : Nat) (v1 : Nat) (v4 : Int32) (h : gb_H) (r : Unit × gb_H) (hF : fbX1_gather_40 k40 v0 v1 v4 h = some r) : gb_Ev X 4 mX1_gather 40 [some (.ref v0), some (.ref v1), none, none, some (.int v4), none, none, none, none, none, none, none] [] h (gb_wV r) := by
  unfold fbX1_gather_40 at hF
  refine gb_iload dX1_gather_40 rfl ?_
  refine gb_bipush (v := (32 : Int32)) dX1_gather_42 (by decide) ?_
  refine gb_icmp_ge (tgt := 69) dX1_gather_44 (by decide) (fun c1 => ?_) (fun c1 => ?_)
  · replace hF := gb_ifT c1 hF
    refine gb_iconst (v := (0 : Int32)) dX1_gather_69 (by decide) ?_
    refine gb_istore (L' := [some (.ref v0), some (.ref v1), none, none, some (.int (0 : Int32)), none, none, none, none, none, none, none]) dX1_gather_70 (by decide) rfl rfl ?_
    exact gb_wk (lpX1_gather_72_ok gb_FU v0 v1 (0 : Int32) h r hF) (And.intro rfl (And.intro rfl (And.intro rfl trivial)))
  · replace hF := gb_ifF c1 hF
    refine gb_aload_n dX1_gather_47 rfl rfl ?_
    obtain ⟨g2, hF⟩ := gb_gdE hF
    obtain ⟨a3, ea3, hF⟩ := gb_rdE hF
    refine gb_getR fX1_18 dX1_gather_48 (gb_kE g2) ea3 ?_
    refine gb_iload dX1_gather_51 rfl ?_
    refine gb_lconst (v := (0 : Int64)) dX1_gather_53 (by decide) ?_
    obtain ⟨g4, hF⟩ := gb_gdE hF
    obtain ⟨g5, hF⟩ := gb_gdE hF
    obtain ⟨h6, eh6, hF⟩ := gb_ltE hF
    refine gb_last dX1_gather_54 (gb_kE g4) (gb_inE g5) (gb_hp eh6 ?_)
    refine gb_aload_n dX1_gather_55 rfl rfl ?_
    obtain ⟨g7, hF⟩ := gb_gdE hF
    obtain ⟨a8, ea8, hF⟩ := gb_rdE hF
    refine gb_getR fX1_21 dX1_gather_56 (gb_kE g7) ea8 ?_
    refine gb_iload dX1_gather_59 rfl ?_
    refine gb_lconst (v := (0 : Int64)) dX1_gather_61 (by decide) ?_
    obtain ⟨g9, hF⟩ := gb_gdE hF
    obtain ⟨g10, hF⟩ := gb_gdE hF
    obtain ⟨h11, eh11, hF⟩ := gb_ltE hF
    refine gb_last dX1_gather_62 (gb_kE g9) (gb_inE g10) (gb_hp eh11 ?_)
    obtain ⟨x12, ex12, hF⟩ := gb_ltE hF
    refine gb_iinc (v := x12) (L' := [some (.ref v0), some (.ref v1), none, none, some (.int x12), none, none, none, none, none, none, none]) dX1_gather_63 rfl (by rw [ex12]; rfl) (by decide) rfl rfl ?_
    refine gb_goto (tgt := 40) dX1_gather_66 (by decide) ?_
    exact gb_wk (hk40 v0 v1 x12 h11 r hF) (And.intro rfl (And.intro rfl (And.intro rfl trivial)))
def lpX1_gather_40 (n : Nat) (v0 : Nat) (v1 : Nat) (v4 : Int32) (h : gb_H) : Option (Unit × gb_H) := gb_lp (σ := Nat × Nat × Int32 × gb_H) (fun k s => fbX1_gather_40 (fun v0 v1 v4 h => k (v0, v1, v4, h)) s.1 s.2.1 s.2.2.1 s.2.2.2) n (v0, v1, v4, h)
theorem lpX1_gather_40_ok {X : gb_X}  (n : Nat) (v0 : Nat) (v1 : Nat) (v4 : Int32) (h : gb_H) (r : Unit × gb_H) (hF : lpX1_gather_40 n v0 v1 v4 h = some r) : gb_Ev X 4 mX1_gather 40 [some (.ref v0), some (.ref v1), none, none, some (.int v4), none, none, none, none, none, none, none] [] h (gb_wV r) := by
  exact gb_lpE (σ := Nat × Nat × Int32 × gb_H) (P := fun s r => gb_Ev X 4 mX1_gather 40 [some (.ref s.1), some (.ref s.2.1), none, none, some (.int s.2.2.1), none, none, none, none, none, none, none] [] s.2.2.2 (gb_wV r)) (fun k hk s r hs => fbX1_gather_40_ok (fun v0 v1 v4 h r e => hk (v0, v1, v4, h) r e) _ _ _ _ r hs) n (v0, v1, v4, h) r hF
def fbX1_gather_8 (k8 : Nat → Nat → Int32 → gb_H → Option (Unit × gb_H)) (v0 : Nat) (v1 : Nat) (v4 : Int32) (h : gb_H) : Option (Unit × gb_H) :=
  if (56 : Int32) ≤ v4 then
    lpX1_gather_40 gb_FU v0 v1 (0 : Int32) h
  else
    gb_gd (gb_k h v0 1) <|
    gb_rd (gb_R h v0 0) fun a3 =>
    gb_gd (gb_k h a3 23) <|
    gb_gd (gb_in h a3 v4) <|
    gb_lt (gb_sL h a3 v4.toNatClampNeg (0 : Int64)) fun h6 =>
    gb_gd (gb_k h6 v0 1) <|
    gb_rd (gb_R h6 v0 1) fun a8 =>
    gb_gd (gb_k h6 a8 23) <|
    gb_gd (gb_in h6 a8 v4) <|
    gb_lt (gb_sL h6 a8 v4.toNatClampNeg (0 : Int64)) fun h11 =>
    gb_lt (v4 + (1 : Int32)) fun x12 =>
    k8 v0 v1 x12 h11
theorem fbX1_gather_8_ok {X : gb_X} {k8 : Nat → Nat → Int32 → gb_H → Option (Unit × gb_H)} (hk8 : ∀ v0 v1 v4 h r, k8 v0 v1 v4 h = some r → gb_Ev X 4 mX1_gather 8 [some (.ref v0), some (.ref v1), none, none, some (.int v4), none, none, none, none, none, none, none] [] h (gb_wV r)) (v0 : Nat) (v1 : Nat) (v4 : Int32) (h : gb_H) (r : Unit × gb_H) (hF : fbX1_gather_8 k8 v0 v1 v4 h = some r) : gb_Ev X 4 mX1_gather 8 [some (.ref v0), some (.ref v1), none, none, some (.int v4), none, none, none, none, none, none, none] [] h (gb_wV r) := by
  unfold fbX1_gather_8 at hF
  refine gb_iload dX1_gather_8 rfl ?_
  refine gb_bipush (v := (56 : Int32)) dX1_gather_10 (by decide) ?_
  refine gb_icmp_ge (tgt := 37) dX1_gather_12 (by decide) (fun c1 => ?_) (fun c1 => ?_)
  · replace hF := gb_ifT c1 hF
    refine gb_iconst (v := (0 : Int32)) dX1_gather_37 (by decide) ?_
    refine gb_istore (L' := [some (.ref v0), some (.ref v1), none, none, some (.int (0 : Int32)), none, none, none, none, none, none, none]) dX1_gather_38 (by decide) rfl rfl ?_
    exact gb_wk (lpX1_gather_40_ok gb_FU v0 v1 (0 : Int32) h r hF) (And.intro rfl (And.intro rfl (And.intro rfl trivial)))
  · replace hF := gb_ifF c1 hF
    refine gb_aload_n dX1_gather_15 rfl rfl ?_
    obtain ⟨g2, hF⟩ := gb_gdE hF
    obtain ⟨a3, ea3, hF⟩ := gb_rdE hF
    refine gb_getR fX1_9 dX1_gather_16 (gb_kE g2) ea3 ?_
    refine gb_iload dX1_gather_19 rfl ?_
    refine gb_lconst (v := (0 : Int64)) dX1_gather_21 (by decide) ?_
    obtain ⟨g4, hF⟩ := gb_gdE hF
    obtain ⟨g5, hF⟩ := gb_gdE hF
    obtain ⟨h6, eh6, hF⟩ := gb_ltE hF
    refine gb_last dX1_gather_22 (gb_kE g4) (gb_inE g5) (gb_hp eh6 ?_)
    refine gb_aload_n dX1_gather_23 rfl rfl ?_
    obtain ⟨g7, hF⟩ := gb_gdE hF
    obtain ⟨a8, ea8, hF⟩ := gb_rdE hF
    refine gb_getR fX1_15 dX1_gather_24 (gb_kE g7) ea8 ?_
    refine gb_iload dX1_gather_27 rfl ?_
    refine gb_lconst (v := (0 : Int64)) dX1_gather_29 (by decide) ?_
    obtain ⟨g9, hF⟩ := gb_gdE hF
    obtain ⟨g10, hF⟩ := gb_gdE hF
    obtain ⟨h11, eh11, hF⟩ := gb_ltE hF
    refine gb_last dX1_gather_30 (gb_kE g9) (gb_inE g10) (gb_hp eh11 ?_)
    obtain ⟨x12, ex12, hF⟩ := gb_ltE hF
    refine gb_iinc (v := x12) (L' := [some (.ref v0), some (.ref v1), none, none, some (.int x12), none, none, none, none, none, none, none]) dX1_gather_31 rfl (by rw [ex12]; rfl) (by decide) rfl rfl ?_
    refine gb_goto (tgt := 8) dX1_gather_34 (by decide) ?_
    exact gb_wk (hk8 v0 v1 x12 h11 r hF) (And.intro rfl (And.intro rfl (And.intro rfl trivial)))
def lpX1_gather_8 (n : Nat) (v0 : Nat) (v1 : Nat) (v4 : Int32) (h : gb_H) : Option (Unit × gb_H) := gb_lp (σ := Nat × Nat × Int32 × gb_H) (fun k s => fbX1_gather_8 (fun v0 v1 v4 h => k (v0, v1, v4, h)) s.1 s.2.1 s.2.2.1 s.2.2.2) n (v0, v1, v4, h)
theorem lpX1_gather_8_ok {X : gb_X}  (n : Nat) (v0 : Nat) (v1 : Nat) (v4 : Int32) (h : gb_H) (r : Unit × gb_H) (hF : lpX1_gather_8 n v0 v1 v4 h = some r) : gb_Ev X 4 mX1_gather 8 [some (.ref v0), some (.ref v1), none, none, some (.int v4), none, none, none, none, none, none, none] [] h (gb_wV r) := by
  exact gb_lpE (σ := Nat × Nat × Int32 × gb_H) (P := fun s r => gb_Ev X 4 mX1_gather 8 [some (.ref s.1), some (.ref s.2.1), none, none, some (.int s.2.2.1), none, none, none, none, none, none, none] [] s.2.2.2 (gb_wV r)) (fun k hk s r hs => fbX1_gather_8_ok (fun v0 v1 v4 h r e => hk (v0, v1, v4, h) r e) _ _ _ _ r hs) n (v0, v1, v4, h) r hF
def fnX1_gather (p0 : Nat) (p1 : Nat) (p2 : Int64) (h : gb_H) : Option (Unit × gb_H) :=
  gb_gd (gb_k h p0 1) <|
  gb_lt (gb_sL h p0 4 p2) fun h2 =>
  lpX1_gather_8 gb_FU p0 p1 (0 : Int32) h2
theorem fnX1_gather_ok {X : gb_X}  {p0 : Nat} {p1 : Nat} {p2 : Int64} (h : gb_H) (r : Unit × gb_H) (hF : fnX1_gather p0 p1 p2 h = some r) : gb_Ev X 4 mX1_gather 0 (gb_L0 [.ref p0, .ref p1, .long p2]) [] h (gb_wV r) := by
  unfold fnX1_gather at hF
  refine gb_weak (L' := [some (.ref p0), some (.ref p1), some (.long p2), none, none, none, none, none, none, none, none, none]) (And.intro rfl (And.intro rfl (And.intro rfl trivial))) ?_
  refine gb_aload_n dX1_gather_0 rfl rfl ?_
  refine gb_lload_n dX1_gather_1 rfl rfl ?_
  obtain ⟨g1, hF⟩ := gb_gdE hF
  obtain ⟨h2, eh2, hF⟩ := gb_ltE hF
  refine gb_putL fX1_24 (gb_nff nf1_4) dX1_gather_2 (gb_kE g1) (fun _ => ⟨rfl, rfl⟩) (gb_hp eh2 ?_)
  refine gb_iconst (v := (0 : Int32)) dX1_gather_5 (by decide) ?_
  refine gb_istore (L' := [some (.ref p0), some (.ref p1), some (.long p2), none, some (.int (0 : Int32)), none, none, none, none, none, none, none]) dX1_gather_6 (by decide) rfl rfl ?_
  exact gb_wk (lpX1_gather_8_ok gb_FU p0 p1 (0 : Int32) h2 r hF) (And.intro rfl (And.intro rfl (And.intro rfl trivial)))
def fbX1_darkWeight_66 (k5 : Int32 → Int32 → Nat → Int32 → Int32 → gb_H → Option (Int32 × gb_H)) (v0 : Int32) (v1 : Int32) (v2 : Nat) (v3 : Int32) (v4 : Int32) (h : gb_H) : Option (Int32 × gb_H) :=
  gb_lt (v4 + (1 : Int32)) fun x1 =>
  k5 v0 v1 v2 v3 x1 h
theorem fbX1_darkWeight_66_ok {X : gb_X} {k5 : Int32 → Int32 → Nat → Int32 → Int32 → gb_H → Option (Int32 × gb_H)} (hk5 : ∀ v0 v1 v2 v3 v4 h r, k5 v0 v1 v2 v3 v4 h = some r → gb_Ev X 1 mX1_darkWeight 5 [some (.int v0), some (.int v1), some (.ref v2), some (.int v3), some (.int v4)] [] h (gb_wI r)) (v0 : Int32) (v1 : Int32) (v2 : Nat) (v3 : Int32) (v4 : Int32) (h : gb_H) (r : Int32 × gb_H) (hF : fbX1_darkWeight_66 k5 v0 v1 v2 v3 v4 h = some r) : gb_Ev X 1 mX1_darkWeight 66 [some (.int v0), some (.int v1), some (.ref v2), some (.int v3), some (.int v4)] [] h (gb_wI r) := by
  unfold fbX1_darkWeight_66 at hF
  obtain ⟨x1, ex1, hF⟩ := gb_ltE hF
  refine gb_iinc (v := x1) (L' := [some (.int v0), some (.int v1), some (.ref v2), some (.int v3), some (.int x1)]) dX1_darkWeight_66 rfl (by rw [ex1]; rfl) (by decide) rfl rfl ?_
  refine gb_goto (tgt := 5) dX1_darkWeight_69 (by decide) ?_
  exact gb_wk (hk5 v0 v1 v2 v3 x1 h r hF) (And.intro rfl (And.intro rfl (And.intro rfl (And.intro rfl (And.intro rfl trivial)))))
def fbX1_darkWeight_72 (v3 : Int32) (h : gb_H) : Option (Int32 × gb_H) :=
  some (v3, h)
theorem fbX1_darkWeight_72_ok {X : gb_X} (v3 : Int32) (h : gb_H) (r : Int32 × gb_H) (hF : fbX1_darkWeight_72 v3 h = some r) : gb_Ev X 1 mX1_darkWeight 72 [none, none, none, some (.int v3), none] [] h (gb_wI r) := by
  unfold fbX1_darkWeight_72 at hF
  refine gb_iload_n dX1_darkWeight_72 rfl rfl ?_
  cases hF
  exact gb_iret dX1_darkWeight_73 rfl
def fbX1_darkWeight_5 (k5 : Int32 → Int32 → Nat → Int32 → Int32 → gb_H → Option (Int32 × gb_H)) (v0 : Int32) (v1 : Int32) (v2 : Nat) (v3 : Int32) (v4 : Int32) (h : gb_H) : Option (Int32 × gb_H) :=
  if (5 : Int32) ≤ v4 then
    fbX1_darkWeight_72 v3 h
  else
    gb_gd (gb_k h v2 20) <|
    if (Int32.ofNat (gb_kd h v2).2) ≤ v4 then
      fbX1_darkWeight_72 v3 h
    else
      if ((v0 >>> (v4 &&& 31)) &&& (1 : Int32)) = (1 : Int32) then
        gb_lt (v3 * (10 : Int32)) fun x5 =>
        fbX1_darkWeight_66 k5 v0 v1 v2 x5 v4 h
      else
        if ((v1 >>> (v4 &&& 31)) &&& (1 : Int32)) = (1 : Int32) then
          gb_gd (gb_k h v2 20) <|
          gb_gd (gb_in h v2 v4) <|
          gb_lt (v3 * (gb_I h v2 v4.toNatClampNeg)) fun x9 =>
          fbX1_darkWeight_66 k5 v0 v1 v2 x9 v4 h
        else
          gb_gd (gb_k h v2 20) <|
          gb_gd (gb_in h v2 v4) <|
          gb_lt (v3 * ((10 : Int32) - (gb_I h v2 v4.toNatClampNeg))) fun x12 =>
          fbX1_darkWeight_66 k5 v0 v1 v2 x12 v4 h
theorem fbX1_darkWeight_5_ok {X : gb_X} {k5 : Int32 → Int32 → Nat → Int32 → Int32 → gb_H → Option (Int32 × gb_H)} (hk5 : ∀ v0 v1 v2 v3 v4 h r, k5 v0 v1 v2 v3 v4 h = some r → gb_Ev X 1 mX1_darkWeight 5 [some (.int v0), some (.int v1), some (.ref v2), some (.int v3), some (.int v4)] [] h (gb_wI r)) (v0 : Int32) (v1 : Int32) (v2 : Nat) (v3 : Int32) (v4 : Int32) (h : gb_H) (r : Int32 × gb_H) (hF : fbX1_darkWeight_5 k5 v0 v1 v2 v3 v4 h = some r) : gb_Ev X 1 mX1_darkWeight 5 [some (.int v0), some (.int v1), some (.ref v2), some (.int v3), some (.int v4)] [] h (gb_wI r) := by
  unfold fbX1_darkWeight_5 at hF
  refine gb_iload dX1_darkWeight_5 rfl ?_
  refine gb_iconst (v := (5 : Int32)) dX1_darkWeight_7 (by decide) ?_
  refine gb_icmp_ge (tgt := 72) dX1_darkWeight_8 (by decide) (fun c1 => ?_) (fun c1 => ?_)
  · replace hF := gb_ifT c1 hF
    exact gb_wk (fbX1_darkWeight_72_ok v3 h r hF) (And.intro rfl trivial)
  · replace hF := gb_ifF c1 hF
    refine gb_iload dX1_darkWeight_11 rfl ?_
    refine gb_aload_n dX1_darkWeight_13 rfl rfl ?_
    obtain ⟨g2, hF⟩ := gb_gdE hF
    refine gb_alen dX1_darkWeight_14 (gb_kE g2) (by decide) ?_
    refine gb_icmp_ge (tgt := 72) dX1_darkWeight_15 (by decide) (fun c3 => ?_) (fun c3 => ?_)
    · replace hF := gb_ifT c3 hF
      exact gb_wk (fbX1_darkWeight_72_ok v3 h r hF) (And.intro rfl trivial)
    · replace hF := gb_ifF c3 hF
      refine gb_iload_n dX1_darkWeight_18 rfl rfl ?_
      refine gb_iload dX1_darkWeight_19 rfl ?_
      refine gb_ishr dX1_darkWeight_21 ?_
      refine gb_iconst (v := (1 : Int32)) dX1_darkWeight_22 (by decide) ?_
      refine gb_iand dX1_darkWeight_23 ?_
      refine gb_iconst (v := (1 : Int32)) dX1_darkWeight_24 (by decide) ?_
      refine gb_icmp_ne (tgt := 36) dX1_darkWeight_25 (by decide) (fun c4 => ?_) (fun c4 => ?_)
      · replace hF := gb_ifF c4 hF
        refine gb_iload_n dX1_darkWeight_36 rfl rfl ?_
        refine gb_iload dX1_darkWeight_37 rfl ?_
        refine gb_ishr dX1_darkWeight_39 ?_
        refine gb_iconst (v := (1 : Int32)) dX1_darkWeight_40 (by decide) ?_
        refine gb_iand dX1_darkWeight_41 ?_
        refine gb_iconst (v := (1 : Int32)) dX1_darkWeight_42 (by decide) ?_
        refine gb_icmp_ne (tgt := 56) dX1_darkWeight_43 (by decide) (fun c6 => ?_) (fun c6 => ?_)
        · replace hF := gb_ifF c6 hF
          refine gb_iload_n dX1_darkWeight_56 rfl rfl ?_
          refine gb_bipush (v := (10 : Int32)) dX1_darkWeight_57 (by decide) ?_
          refine gb_aload_n dX1_darkWeight_59 rfl rfl ?_
          refine gb_iload dX1_darkWeight_60 rfl ?_
          obtain ⟨g10, hF⟩ := gb_gdE hF
          obtain ⟨g11, hF⟩ := gb_gdE hF
          refine gb_iald dX1_darkWeight_62 (gb_kE g10) (gb_inE g11) ?_
          refine gb_isub dX1_darkWeight_63 ?_
          refine gb_imul dX1_darkWeight_64 ?_
          obtain ⟨x12, ex12, hF⟩ := gb_ltE hF
          refine gb_topI ex12 ?_
          refine gb_istore_n (L' := [some (.int v0), some (.int v1), some (.ref v2), some (.int x12), some (.int v4)]) dX1_darkWeight_65 rfl (by decide) rfl rfl ?_
          exact gb_wk (fbX1_darkWeight_66_ok hk5 v0 v1 v2 x12 v4 h r hF) (And.intro rfl (And.intro rfl (And.intro rfl (And.intro rfl (And.intro rfl trivial)))))
        · replace hF := gb_ifT c6 hF
          refine gb_iload_n dX1_darkWeight_46 rfl rfl ?_
          refine gb_aload_n dX1_darkWeight_47 rfl rfl ?_
          refine gb_iload dX1_darkWeight_48 rfl ?_
          obtain ⟨g7, hF⟩ := gb_gdE hF
          obtain ⟨g8, hF⟩ := gb_gdE hF
          refine gb_iald dX1_darkWeight_50 (gb_kE g7) (gb_inE g8) ?_
          refine gb_imul dX1_darkWeight_51 ?_
          obtain ⟨x9, ex9, hF⟩ := gb_ltE hF
          refine gb_topI ex9 ?_
          refine gb_istore_n (L' := [some (.int v0), some (.int v1), some (.ref v2), some (.int x9), some (.int v4)]) dX1_darkWeight_52 rfl (by decide) rfl rfl ?_
          refine gb_goto (tgt := 66) dX1_darkWeight_53 (by decide) ?_
          exact gb_wk (fbX1_darkWeight_66_ok hk5 v0 v1 v2 x9 v4 h r hF) (And.intro rfl (And.intro rfl (And.intro rfl (And.intro rfl (And.intro rfl trivial)))))
      · replace hF := gb_ifT c4 hF
        refine gb_iload_n dX1_darkWeight_28 rfl rfl ?_
        refine gb_bipush (v := (10 : Int32)) dX1_darkWeight_29 (by decide) ?_
        refine gb_imul dX1_darkWeight_31 ?_
        obtain ⟨x5, ex5, hF⟩ := gb_ltE hF
        refine gb_topI ex5 ?_
        refine gb_istore_n (L' := [some (.int v0), some (.int v1), some (.ref v2), some (.int x5), some (.int v4)]) dX1_darkWeight_32 rfl (by decide) rfl rfl ?_
        refine gb_goto (tgt := 66) dX1_darkWeight_33 (by decide) ?_
        exact gb_wk (fbX1_darkWeight_66_ok hk5 v0 v1 v2 x5 v4 h r hF) (And.intro rfl (And.intro rfl (And.intro rfl (And.intro rfl (And.intro rfl trivial)))))
def lpX1_darkWeight_5 (n : Nat) (v0 : Int32) (v1 : Int32) (v2 : Nat) (v3 : Int32) (v4 : Int32) (h : gb_H) : Option (Int32 × gb_H) := gb_lp (σ := Int32 × Int32 × Nat × Int32 × Int32 × gb_H) (fun k s => fbX1_darkWeight_5 (fun v0 v1 v2 v3 v4 h => k (v0, v1, v2, v3, v4, h)) s.1 s.2.1 s.2.2.1 s.2.2.2.1 s.2.2.2.2.1 s.2.2.2.2.2) n (v0, v1, v2, v3, v4, h)
theorem lpX1_darkWeight_5_ok {X : gb_X}  (n : Nat) (v0 : Int32) (v1 : Int32) (v2 : Nat) (v3 : Int32) (v4 : Int32) (h : gb_H) (r : Int32 × gb_H) (hF : lpX1_darkWeight_5 n v0 v1 v2 v3 v4 h = some r) : gb_Ev X 1 mX1_darkWeight 5 [some (.int v0), some (.int v1), some (.ref v2), some (.int v3), some (.int v4)] [] h (gb_wI r) := by
  exact gb_lpE (σ := Int32 × Int32 × Nat × Int32 × Int32 × gb_H) (P := fun s r => gb_Ev X 1 mX1_darkWeight 5 [some (.int s.1), some (.int s.2.1), some (.ref s.2.2.1), some (.int s.2.2.2.1), some (.int s.2.2.2.2.1)] [] s.2.2.2.2.2 (gb_wI r)) (fun k hk s r hs => fbX1_darkWeight_5_ok (fun v0 v1 v2 v3 v4 h r e => hk (v0, v1, v2, v3, v4, h) r e) _ _ _ _ _ _ r hs) n (v0, v1, v2, v3, v4, h) r hF
def fnX1_darkWeight (p0 : Int32) (p1 : Int32) (p2 : Nat) (h : gb_H) : Option (Int32 × gb_H) :=
  lpX1_darkWeight_5 gb_FU p0 p1 p2 (1 : Int32) (0 : Int32) h
theorem fnX1_darkWeight_ok {X : gb_X}  {p0 : Int32} {p1 : Int32} {p2 : Nat} (h : gb_H) (r : Int32 × gb_H) (hF : fnX1_darkWeight p0 p1 p2 h = some r) : gb_Ev X 1 mX1_darkWeight 0 (gb_L0 [.int p0, .int p1, .ref p2]) [] h (gb_wI r) := by
  unfold fnX1_darkWeight at hF
  refine gb_weak (L' := [some (.int p0), some (.int p1), some (.ref p2), none, none]) (And.intro rfl (And.intro rfl (And.intro rfl trivial))) ?_
  refine gb_iconst (v := (1 : Int32)) dX1_darkWeight_0 (by decide) ?_
  refine gb_istore_n (L' := [some (.int p0), some (.int p1), some (.ref p2), some (.int (1 : Int32)), none]) dX1_darkWeight_1 rfl (by decide) rfl rfl ?_
  refine gb_iconst (v := (0 : Int32)) dX1_darkWeight_2 (by decide) ?_
  refine gb_istore (L' := [some (.int p0), some (.int p1), some (.ref p2), some (.int (1 : Int32)), some (.int (0 : Int32))]) dX1_darkWeight_3 (by decide) rfl rfl ?_
  exact gb_wk (lpX1_darkWeight_5_ok gb_FU p0 p1 p2 (1 : Int32) (0 : Int32) h r hF) (And.intro rfl (And.intro rfl (And.intro rfl (And.intro rfl (And.intro rfl trivial)))))
def fbX1_shareOfClicks_102 (k9 : Nat → Int32 → Nat → Nat → Int64 → Int64 → Int32 → gb_H → Option (Unit × gb_H)) (v0 : Nat) (v1 : Int32) (v2 : Nat) (v3 : Nat) (v4 : Int64) (v6 : Int64) (v8 : Int32) (h : gb_H) : Option (Unit × gb_H) :=
  gb_lt (v8 + (1 : Int32)) fun x1 =>
  k9 v0 v1 v2 v3 v4 v6 x1 h
theorem fbX1_shareOfClicks_102_ok {X : gb_X} {k9 : Nat → Int32 → Nat → Nat → Int64 → Int64 → Int32 → gb_H → Option (Unit × gb_H)} (hk9 : ∀ v0 v1 v2 v3 v4 v6 v8 h r, k9 v0 v1 v2 v3 v4 v6 v8 h = some r → gb_Ev X 3 mX1_shareOfClicks 9 [some (.ref v0), some (.int v1), some (.ref v2), some (.ref v3), some (.long v4), none, some (.long v6), none, some (.int v8), none, none] [] h (gb_wV r)) (v0 : Nat) (v1 : Int32) (v2 : Nat) (v3 : Nat) (v4 : Int64) (v6 : Int64) (v8 : Int32) (h : gb_H) (r : Unit × gb_H) (hF : fbX1_shareOfClicks_102 k9 v0 v1 v2 v3 v4 v6 v8 h = some r) : gb_Ev X 3 mX1_shareOfClicks 102 [some (.ref v0), some (.int v1), some (.ref v2), some (.ref v3), some (.long v4), none, some (.long v6), none, some (.int v8), none, none] [] h (gb_wV r) := by
  unfold fbX1_shareOfClicks_102 at hF
  obtain ⟨x1, ex1, hF⟩ := gb_ltE hF
  refine gb_iinc (v := x1) (L' := [some (.ref v0), some (.int v1), some (.ref v2), some (.ref v3), some (.long v4), none, some (.long v6), none, some (.int x1), none, none]) dX1_shareOfClicks_102 rfl (by rw [ex1]; rfl) (by decide) rfl rfl ?_
  refine gb_goto (tgt := 9) dX1_shareOfClicks_105 (by decide) ?_
  exact gb_wk (hk9 v0 v1 v2 v3 v4 v6 x1 h r hF) (And.intro rfl (And.intro rfl (And.intro rfl (And.intro rfl (And.intro rfl (And.intro rfl (And.intro rfl trivial)))))))
def fbX1_shareOfClicks_54 (k9 : Nat → Int32 → Nat → Nat → Int64 → Int64 → Int32 → gb_H → Option (Unit × gb_H)) (v0 : Nat) (v1 : Int32) (v2 : Nat) (v3 : Nat) (v4 : Int64) (v6 : Int64) (v8 : Int32) (s0 : Int32) (h : gb_H) : Option (Unit × gb_H) :=
  if s0 = 0 then
    fbX1_shareOfClicks_102 k9 v0 v1 v2 v3 v4 v6 v8 h
  else
    gb_bd (fnX1_darkWeight v8 v1 v2 h) fun x2 h3 =>
    gb_gd (gb_k h3 v0 1) <|
    gb_rd (gb_R h3 v0 2) fun a5 =>
    gb_gd (gb_k h3 a5 23) <|
    gb_gd (gb_in h3 a5 v8) <|
    gb_lt (v4 + ((gb_L h3 a5 v8.toNatClampNeg) * (x2.toInt64))) fun x8 =>
    gb_gd (gb_k h3 v0 1) <|
    gb_rd (gb_R h3 v0 3) fun a10 =>
    gb_gd (gb_k h3 a10 23) <|
    gb_gd (gb_in h3 a10 v8) <|
    gb_lt (v6 + ((gb_L h3 a10 v8.toNatClampNeg) * (x2.toInt64))) fun x13 =>
    fbX1_shareOfClicks_102 k9 v0 v1 v2 v3 x8 x13 v8 h3
theorem fbX1_shareOfClicks_54_ok {X : gb_X} {k9 : Nat → Int32 → Nat → Nat → Int64 → Int64 → Int32 → gb_H → Option (Unit × gb_H)} (hk9 : ∀ v0 v1 v2 v3 v4 v6 v8 h r, k9 v0 v1 v2 v3 v4 v6 v8 h = some r → gb_Ev X 3 mX1_shareOfClicks 9 [some (.ref v0), some (.int v1), some (.ref v2), some (.ref v3), some (.long v4), none, some (.long v6), none, some (.int v8), none, none] [] h (gb_wV r)) (v0 : Nat) (v1 : Int32) (v2 : Nat) (v3 : Nat) (v4 : Int64) (v6 : Int64) (v8 : Int32) (s0 : Int32) (h : gb_H) (r : Unit × gb_H) (hF : fbX1_shareOfClicks_54 k9 v0 v1 v2 v3 v4 v6 v8 s0 h = some r) : gb_Ev X 3 mX1_shareOfClicks 54 [some (.ref v0), some (.int v1), some (.ref v2), some (.ref v3), some (.long v4), none, some (.long v6), none, some (.int v8), none, none] [.int s0] h (gb_wV r) := by
  unfold fbX1_shareOfClicks_54 at hF
  refine gb_istore (L' := [some (.ref v0), some (.int v1), some (.ref v2), some (.ref v3), some (.long v4), none, some (.long v6), none, some (.int v8), some (.int s0), none]) dX1_shareOfClicks_54 (by decide) rfl rfl ?_
  refine gb_iload dX1_shareOfClicks_56 rfl ?_
  refine gb_if_eq (tgt := 102) dX1_shareOfClicks_58 (by decide) (fun c1 => ?_) (fun c1 => ?_)
  · replace hF := gb_ifT c1 hF
    exact gb_wk (fbX1_shareOfClicks_102_ok hk9 v0 v1 v2 v3 v4 v6 v8 h r hF) (And.intro rfl (And.intro rfl (And.intro rfl (And.intro rfl (And.intro rfl (And.intro rfl (And.intro rfl trivial)))))))
  · replace hF := gb_ifF c1 hF
    refine gb_iload dX1_shareOfClicks_61 rfl ?_
    refine gb_iload_n dX1_shareOfClicks_63 rfl rfl ?_
    refine gb_aload_n dX1_shareOfClicks_64 rfl rfl ?_
    obtain ⟨x2, h3, cx2, hF⟩ := gb_bdE hF
    refine gb_cS (As := [.int v8, .int v1, .ref v2]) (S := []) (v := some (.int x2)) (h1 := h3) (S2 := [.int x2]) dX1_shareOfClicks_65 mtX1_darkWeight lX1_58 stX1_darkWeight (fnX1_darkWeight_ok _ _ cx2) (by decide) rfl (Nat.le_of_ble_eq_true rfl) (Nat.le_of_ble_eq_true rfl) rfl rfl ?_
    refine gb_istore (L' := [some (.ref v0), some (.int v1), some (.ref v2), some (.ref v3), some (.long v4), none, some (.long v6), none, some (.int v8), some (.int s0), some (.int x2)]) dX1_shareOfClicks_68 (by decide) rfl rfl ?_
    refine gb_lload dX1_shareOfClicks_70 rfl ?_
    refine gb_aload_n dX1_shareOfClicks_72 rfl rfl ?_
    obtain ⟨g4, hF⟩ := gb_gdE hF
    obtain ⟨a5, ea5, hF⟩ := gb_rdE hF
    refine gb_getR fX1_18 dX1_shareOfClicks_73 (gb_kE g4) ea5 ?_
    refine gb_iload dX1_shareOfClicks_76 rfl ?_
    obtain ⟨g6, hF⟩ := gb_gdE hF
    obtain ⟨g7, hF⟩ := gb_gdE hF
    refine gb_lald dX1_shareOfClicks_78 (gb_kE g6) (gb_inE g7) ?_
    refine gb_iload dX1_shareOfClicks_79 rfl ?_
    refine gb_i2l dX1_shareOfClicks_81 ?_
    refine gb_lmul dX1_shareOfClicks_82 ?_
    refine gb_ladd dX1_shareOfClicks_83 ?_
    obtain ⟨x8, ex8, hF⟩ := gb_ltE hF
    refine gb_topJ ex8 ?_
    refine gb_lstore (L' := [some (.ref v0), some (.int v1), some (.ref v2), some (.ref v3), some (.long x8), none, some (.long v6), none, some (.int v8), some (.int s0), some (.int x2)]) dX1_shareOfClicks_84 (by decide) rfl rfl ?_
    refine gb_lload dX1_shareOfClicks_86 rfl ?_
    refine gb_aload_n dX1_shareOfClicks_88 rfl rfl ?_
    obtain ⟨g9, hF⟩ := gb_gdE hF
    obtain ⟨a10, ea10, hF⟩ := gb_rdE hF
    refine gb_getR fX1_21 dX1_shareOfClicks_89 (gb_kE g9) ea10 ?_
    refine gb_iload dX1_shareOfClicks_92 rfl ?_
    obtain ⟨g11, hF⟩ := gb_gdE hF
    obtain ⟨g12, hF⟩ := gb_gdE hF
    refine gb_lald dX1_shareOfClicks_94 (gb_kE g11) (gb_inE g12) ?_
    refine gb_iload dX1_shareOfClicks_95 rfl ?_
    refine gb_i2l dX1_shareOfClicks_97 ?_
    refine gb_lmul dX1_shareOfClicks_98 ?_
    refine gb_ladd dX1_shareOfClicks_99 ?_
    obtain ⟨x13, ex13, hF⟩ := gb_ltE hF
    refine gb_topJ ex13 ?_
    refine gb_lstore (L' := [some (.ref v0), some (.int v1), some (.ref v2), some (.ref v3), some (.long x8), none, some (.long x13), none, some (.int v8), some (.int s0), some (.int x2)]) dX1_shareOfClicks_100 (by decide) rfl rfl ?_
    exact gb_wk (fbX1_shareOfClicks_102_ok hk9 v0 v1 v2 v3 x8 x13 v8 h3 r hF) (And.intro rfl (And.intro rfl (And.intro rfl (And.intro rfl (And.intro rfl (And.intro rfl (And.intro rfl trivial)))))))
def fbX1_shareOfClicks_49 (k9 : Nat → Int32 → Nat → Nat → Int64 → Int64 → Int32 → gb_H → Option (Unit × gb_H)) (v0 : Nat) (v1 : Int32) (v2 : Nat) (v3 : Nat) (v4 : Int64) (v6 : Int64) (v8 : Int32) (h : gb_H) : Option (Unit × gb_H) :=
  fbX1_shareOfClicks_54 k9 v0 v1 v2 v3 v4 v6 v8 (1 : Int32) h
theorem fbX1_shareOfClicks_49_ok {X : gb_X} {k9 : Nat → Int32 → Nat → Nat → Int64 → Int64 → Int32 → gb_H → Option (Unit × gb_H)} (hk9 : ∀ v0 v1 v2 v3 v4 v6 v8 h r, k9 v0 v1 v2 v3 v4 v6 v8 h = some r → gb_Ev X 3 mX1_shareOfClicks 9 [some (.ref v0), some (.int v1), some (.ref v2), some (.ref v3), some (.long v4), none, some (.long v6), none, some (.int v8), none, none] [] h (gb_wV r)) (v0 : Nat) (v1 : Int32) (v2 : Nat) (v3 : Nat) (v4 : Int64) (v6 : Int64) (v8 : Int32) (h : gb_H) (r : Unit × gb_H) (hF : fbX1_shareOfClicks_49 k9 v0 v1 v2 v3 v4 v6 v8 h = some r) : gb_Ev X 3 mX1_shareOfClicks 49 [some (.ref v0), some (.int v1), some (.ref v2), some (.ref v3), some (.long v4), none, some (.long v6), none, some (.int v8), none, none] [] h (gb_wV r) := by
  unfold fbX1_shareOfClicks_49 at hF
  refine gb_iconst (v := (1 : Int32)) dX1_shareOfClicks_49 (by decide) ?_
  refine gb_goto (tgt := 54) dX1_shareOfClicks_50 (by decide) ?_
  exact gb_wk (fbX1_shareOfClicks_54_ok hk9 v0 v1 v2 v3 v4 v6 v8 (1 : Int32) h r hF) (And.intro rfl (And.intro rfl (And.intro rfl (And.intro rfl (And.intro rfl (And.intro rfl (And.intro rfl trivial)))))))
def fbX1_shareOfClicks_53 (k9 : Nat → Int32 → Nat → Nat → Int64 → Int64 → Int32 → gb_H → Option (Unit × gb_H)) (v0 : Nat) (v1 : Int32) (v2 : Nat) (v3 : Nat) (v4 : Int64) (v6 : Int64) (v8 : Int32) (h : gb_H) : Option (Unit × gb_H) :=
  fbX1_shareOfClicks_54 k9 v0 v1 v2 v3 v4 v6 v8 (0 : Int32) h
theorem fbX1_shareOfClicks_53_ok {X : gb_X} {k9 : Nat → Int32 → Nat → Nat → Int64 → Int64 → Int32 → gb_H → Option (Unit × gb_H)} (hk9 : ∀ v0 v1 v2 v3 v4 v6 v8 h r, k9 v0 v1 v2 v3 v4 v6 v8 h = some r → gb_Ev X 3 mX1_shareOfClicks 9 [some (.ref v0), some (.int v1), some (.ref v2), some (.ref v3), some (.long v4), none, some (.long v6), none, some (.int v8), none, none] [] h (gb_wV r)) (v0 : Nat) (v1 : Int32) (v2 : Nat) (v3 : Nat) (v4 : Int64) (v6 : Int64) (v8 : Int32) (h : gb_H) (r : Unit × gb_H) (hF : fbX1_shareOfClicks_53 k9 v0 v1 v2 v3 v4 v6 v8 h = some r) : gb_Ev X 3 mX1_shareOfClicks 53 [some (.ref v0), some (.int v1), some (.ref v2), some (.ref v3), some (.long v4), none, some (.long v6), none, some (.int v8), none, none] [] h (gb_wV r) := by
  unfold fbX1_shareOfClicks_53 at hF
  refine gb_iconst (v := (0 : Int32)) dX1_shareOfClicks_53 (by decide) ?_
  exact gb_wk (fbX1_shareOfClicks_54_ok hk9 v0 v1 v2 v3 v4 v6 v8 (0 : Int32) h r hF) (And.intro rfl (And.intro rfl (And.intro rfl (And.intro rfl (And.intro rfl (And.intro rfl (And.intro rfl trivial)))))))
def fbX1_shareOfClicks_9 (k9 : Nat → Int32 → Nat → Nat → Int64 → Int64 → Int32 → gb_H → Option (Unit × gb_H)) (v0 : Nat) (v1 : Int32) (v2 : Nat) (v3 : Nat) (v4 : Int64) (v6 : Int64) (v8 : Int32) (h : gb_H) : Option (Unit × gb_H) :=
  if (32 : Int32) ≤ v8 then
    gb_gd (gb_k h v0 1) <|
    gb_gd (gb_k h v3 8) <|
    gb_bd (fnX8_put v3 v4 v6 ((gb_L h v0 4) * (100000 : Int64)) h) fun _ h5 =>
    some ((), h5)
  else
    if (v8 &&& (v1 ^^^ (-1 : Int32))) = 0 then
      gb_gd (gb_k h v0 1) <|
      gb_rd (gb_R h v0 2) fun a8 =>
      gb_gd (gb_k h a8 23) <|
      gb_gd (gb_in h a8 v8) <|
      if (gb_L h a8 v8.toNatClampNeg) = (0 : Int64) then
        gb_gd (gb_k h v0 1) <|
        gb_rd (gb_R h v0 3) fun a13 =>
        gb_gd (gb_k h a13 23) <|
        gb_gd (gb_in h a13 v8) <|
        if (gb_L h a13 v8.toNatClampNeg) = (0 : Int64) then
          fbX1_shareOfClicks_53 k9 v0 v1 v2 v3 v4 v6 v8 h
        else
          fbX1_shareOfClicks_49 k9 v0 v1 v2 v3 v4 v6 v8 h
      else
        fbX1_shareOfClicks_49 k9 v0 v1 v2 v3 v4 v6 v8 h
    else
      fbX1_shareOfClicks_53 k9 v0 v1 v2 v3 v4 v6 v8 h
theorem fbX1_shareOfClicks_9_ok {X : gb_X} {k9 : Nat → Int32 → Nat → Nat → Int64 → Int64 → Int32 → gb_H → Option (Unit × gb_H)} (hk9 : ∀ v0 v1 v2 v3 v4 v6 v8 h r, k9 v0 v1 v2 v3 v4 v6 v8 h = some r → gb_Ev X 3 mX1_shareOfClicks 9 [some (.ref v0), some (.int v1), some (.ref v2), some (.ref v3), some (.long v4), none, some (.long v6), none, some (.int v8), none, none] [] h (gb_wV r)) (v0 : Nat) (v1 : Int32) (v2 : Nat) (v3 : Nat) (v4 : Int64) (v6 : Int64) (v8 : Int32) (h : gb_H) (r : Unit × gb_H) (hF : fbX1_shareOfClicks_9 k9 v0 v1 v2 v3 v4 v6 v8 h = some r) : gb_Ev X 3 mX1_shareOfClicks 9 [some (.ref v0), some (.int v1), some (.ref v2), some (.ref v3), some (.long v4), none, some (.long v6), none, some (.int v8), none, none] [] h (gb_wV r) := by
  unfold fbX1_shareOfClicks_9 at hF
  refine gb_iload dX1_shareOfClicks_9 rfl ?_
  refine gb_bipush (v := (32 : Int32)) dX1_shareOfClicks_11 (by decide) ?_
  refine gb_icmp_ge (tgt := 108) dX1_shareOfClicks_13 (by decide) (fun c1 => ?_) (fun c1 => ?_)
  · replace hF := gb_ifT c1 hF
    refine gb_aload_n dX1_shareOfClicks_108 rfl rfl ?_
    refine gb_lload dX1_shareOfClicks_109 rfl ?_
    refine gb_lload dX1_shareOfClicks_111 rfl ?_
    refine gb_aload_n dX1_shareOfClicks_113 rfl rfl ?_
    obtain ⟨g2, hF⟩ := gb_gdE hF
    refine gb_getL fX1_24 dX1_shareOfClicks_114 (gb_kE g2) ?_
    refine gb_ldc2 (v := (100000 : Int64)) dX1_shareOfClicks_117 kX1_62 ?_
    refine gb_lmul dX1_shareOfClicks_120 ?_
    obtain ⟨g3, hF⟩ := gb_gdE hF
    obtain ⟨x4, h5, cx4, hF⟩ := gb_bdE hF
    refine gb_cV (As := [.long v4, .long v6, .long ((gb_L h v0 4) * (100000 : Int64))]) (S := []) (v := none) (h1 := h5) (S2 := []) cf8 dX1_shareOfClicks_121 mtX8_put lX1_52 inX8_put seX8_put (gb_kE g3) (fnX8_put_ok _ _ cx4) (by decide) rfl (Nat.le_of_ble_eq_true rfl) (Nat.le_of_ble_eq_true rfl) rfl rfl ?_
    cases hF
    exact gb_vret dX1_shareOfClicks_124 rfl
  · replace hF := gb_ifF c1 hF
    refine gb_iload dX1_shareOfClicks_16 rfl ?_
    refine gb_iload_n dX1_shareOfClicks_18 rfl rfl ?_
    refine gb_iconst (v := (-1 : Int32)) dX1_shareOfClicks_19 (by decide) ?_
    refine gb_ixor dX1_shareOfClicks_20 ?_
    refine gb_iand dX1_shareOfClicks_21 ?_
    refine gb_if_ne (tgt := 53) dX1_shareOfClicks_22 (by decide) (fun c6 => ?_) (fun c6 => ?_)
    · replace hF := gb_ifF c6 hF
      exact gb_wk (fbX1_shareOfClicks_53_ok hk9 v0 v1 v2 v3 v4 v6 v8 h r hF) (And.intro rfl (And.intro rfl (And.intro rfl (And.intro rfl (And.intro rfl (And.intro rfl (And.intro rfl trivial)))))))
    · replace hF := gb_ifT c6 hF
      refine gb_aload_n dX1_shareOfClicks_25 rfl rfl ?_
      obtain ⟨g7, hF⟩ := gb_gdE hF
      obtain ⟨a8, ea8, hF⟩ := gb_rdE hF
      refine gb_getR fX1_18 dX1_shareOfClicks_26 (gb_kE g7) ea8 ?_
      refine gb_iload dX1_shareOfClicks_29 rfl ?_
      obtain ⟨g9, hF⟩ := gb_gdE hF
      obtain ⟨g10, hF⟩ := gb_gdE hF
      refine gb_lald dX1_shareOfClicks_31 (gb_kE g9) (gb_inE g10) ?_
      refine gb_lconst (v := (0 : Int64)) dX1_shareOfClicks_32 (by decide) ?_
      refine gb_lc_ne (tgt := 49) dX1_shareOfClicks_33 dX1_shareOfClicks_34 (by decide) (fun c11 => ?_) (fun c11 => ?_)
      · replace hF := gb_ifF c11 hF
        exact gb_wk (fbX1_shareOfClicks_49_ok hk9 v0 v1 v2 v3 v4 v6 v8 h r hF) (And.intro rfl (And.intro rfl (And.intro rfl (And.intro rfl (And.intro rfl (And.intro rfl (And.intro rfl trivial)))))))
      · replace hF := gb_ifT c11 hF
        refine gb_aload_n dX1_shareOfClicks_37 rfl rfl ?_
        obtain ⟨g12, hF⟩ := gb_gdE hF
        obtain ⟨a13, ea13, hF⟩ := gb_rdE hF
        refine gb_getR fX1_21 dX1_shareOfClicks_38 (gb_kE g12) ea13 ?_
        refine gb_iload dX1_shareOfClicks_41 rfl ?_
        obtain ⟨g14, hF⟩ := gb_gdE hF
        obtain ⟨g15, hF⟩ := gb_gdE hF
        refine gb_lald dX1_shareOfClicks_43 (gb_kE g14) (gb_inE g15) ?_
        refine gb_lconst (v := (0 : Int64)) dX1_shareOfClicks_44 (by decide) ?_
        refine gb_lc_eq (tgt := 53) dX1_shareOfClicks_45 dX1_shareOfClicks_46 (by decide) (fun c16 => ?_) (fun c16 => ?_)
        · replace hF := gb_ifT c16 hF
          exact gb_wk (fbX1_shareOfClicks_53_ok hk9 v0 v1 v2 v3 v4 v6 v8 h r hF) (And.intro rfl (And.intro rfl (And.intro rfl (And.intro rfl (And.intro rfl (And.intro rfl (And.intro rfl trivial)))))))
        · replace hF := gb_ifF c16 hF
          exact gb_wk (fbX1_shareOfClicks_49_ok hk9 v0 v1 v2 v3 v4 v6 v8 h r hF) (And.intro rfl (And.intro rfl (And.intro rfl (And.intro rfl (And.intro rfl (And.intro rfl (And.intro rfl trivial)))))))
def lpX1_shareOfClicks_9 (n : Nat) (v0 : Nat) (v1 : Int32) (v2 : Nat) (v3 : Nat) (v4 : Int64) (v6 : Int64) (v8 : Int32) (h : gb_H) : Option (Unit × gb_H) := gb_lp (σ := Nat × Int32 × Nat × Nat × Int64 × Int64 × Int32 × gb_H) (fun k s => fbX1_shareOfClicks_9 (fun v0 v1 v2 v3 v4 v6 v8 h => k (v0, v1, v2, v3, v4, v6, v8, h)) s.1 s.2.1 s.2.2.1 s.2.2.2.1 s.2.2.2.2.1 s.2.2.2.2.2.1 s.2.2.2.2.2.2.1 s.2.2.2.2.2.2.2) n (v0, v1, v2, v3, v4, v6, v8, h)
theorem lpX1_shareOfClicks_9_ok {X : gb_X}  (n : Nat) (v0 : Nat) (v1 : Int32) (v2 : Nat) (v3 : Nat) (v4 : Int64) (v6 : Int64) (v8 : Int32) (h : gb_H) (r : Unit × gb_H) (hF : lpX1_shareOfClicks_9 n v0 v1 v2 v3 v4 v6 v8 h = some r) : gb_Ev X 3 mX1_shareOfClicks 9 [some (.ref v0), some (.int v1), some (.ref v2), some (.ref v3), some (.long v4), none, some (.long v6), none, some (.int v8), none, none] [] h (gb_wV r) := by
  exact gb_lpE (σ := Nat × Int32 × Nat × Nat × Int64 × Int64 × Int32 × gb_H) (P := fun s r => gb_Ev X 3 mX1_shareOfClicks 9 [some (.ref s.1), some (.int s.2.1), some (.ref s.2.2.1), some (.ref s.2.2.2.1), some (.long s.2.2.2.2.1), none, some (.long s.2.2.2.2.2.1), none, some (.int s.2.2.2.2.2.2.1), none, none] [] s.2.2.2.2.2.2.2 (gb_wV r)) (fun k hk s r hs => fbX1_shareOfClicks_9_ok (fun v0 v1 v2 v3 v4 v6 v8 h r e => hk (v0, v1, v2, v3, v4, v6, v8, h) r e) _ _ _ _ _ _ _ _ r hs) n (v0, v1, v2, v3, v4, v6, v8, h) r hF
def fnX1_shareOfClicks (p0 : Nat) (p1 : Int32) (p2 : Nat) (p3 : Nat) (h : gb_H) : Option (Unit × gb_H) :=
  lpX1_shareOfClicks_9 gb_FU p0 p1 p2 p3 (0 : Int64) (0 : Int64) (0 : Int32) h
theorem fnX1_shareOfClicks_ok {X : gb_X}  {p0 : Nat} {p1 : Int32} {p2 : Nat} {p3 : Nat} (h : gb_H) (r : Unit × gb_H) (hF : fnX1_shareOfClicks p0 p1 p2 p3 h = some r) : gb_Ev X 3 mX1_shareOfClicks 0 (gb_L0 [.ref p0, .int p1, .ref p2, .ref p3]) [] h (gb_wV r) := by
  unfold fnX1_shareOfClicks at hF
  refine gb_weak (L' := [some (.ref p0), some (.int p1), some (.ref p2), some (.ref p3), none, none, none, none, none, none, none]) (And.intro rfl (And.intro rfl (And.intro rfl (And.intro rfl trivial)))) ?_
  refine gb_lconst (v := (0 : Int64)) dX1_shareOfClicks_0 (by decide) ?_
  refine gb_lstore (L' := [some (.ref p0), some (.int p1), some (.ref p2), some (.ref p3), some (.long (0 : Int64)), none, none, none, none, none, none]) dX1_shareOfClicks_1 (by decide) rfl rfl ?_
  refine gb_lconst (v := (0 : Int64)) dX1_shareOfClicks_3 (by decide) ?_
  refine gb_lstore (L' := [some (.ref p0), some (.int p1), some (.ref p2), some (.ref p3), some (.long (0 : Int64)), none, some (.long (0 : Int64)), none, none, none, none]) dX1_shareOfClicks_4 (by decide) rfl rfl ?_
  refine gb_iconst (v := (0 : Int32)) dX1_shareOfClicks_6 (by decide) ?_
  refine gb_istore (L' := [some (.ref p0), some (.int p1), some (.ref p2), some (.ref p3), some (.long (0 : Int64)), none, some (.long (0 : Int64)), none, some (.int (0 : Int32)), none, none]) dX1_shareOfClicks_7 (by decide) rfl rfl ?_
  exact gb_wk (lpX1_shareOfClicks_9_ok gb_FU p0 p1 p2 p3 (0 : Int64) (0 : Int64) (0 : Int32) h r hF) (And.intro rfl (And.intro rfl (And.intro rfl (And.intro rfl (And.intro rfl (And.intro rfl (And.intro rfl trivial)))))))
def fbX1_shareOfRow_40 (h : gb_H) : Option (Unit × gb_H) :=
  some ((), h)
theorem fbX1_shareOfRow_40_ok {X : gb_X} (h : gb_H) (r : Unit × gb_H) (hF : fbX1_shareOfRow_40 h = some r) : gb_Ev X 3 mX1_shareOfRow 40 [none, none, none] [] h (gb_wV r) := by
  unfold fbX1_shareOfRow_40 at hF
  cases hF
  exact gb_vret dX1_shareOfRow_40 rfl
def fbX1_shareOfRow_10 (v2 : Nat) (h : gb_H) : Option (Unit × gb_H) :=
  gb_gd (gb_k h v2 8) <|
  gb_bd (fnX8_put v2 (0 : Int64) (0 : Int64) (1 : Int64) h) fun _ h3 =>
  fbX1_shareOfRow_40 h3
theorem fbX1_shareOfRow_10_ok {X : gb_X} (v2 : Nat) (h : gb_H) (r : Unit × gb_H) (hF : fbX1_shareOfRow_10 v2 h = some r) : gb_Ev X 3 mX1_shareOfRow 10 [none, none, some (.ref v2)] [] h (gb_wV r) := by
  unfold fbX1_shareOfRow_10 at hF
  refine gb_aload_n dX1_shareOfRow_10 rfl rfl ?_
  refine gb_lconst (v := (0 : Int64)) dX1_shareOfRow_11 (by decide) ?_
  refine gb_lconst (v := (0 : Int64)) dX1_shareOfRow_12 (by decide) ?_
  refine gb_lconst (v := (1 : Int64)) dX1_shareOfRow_13 (by decide) ?_
  obtain ⟨g1, hF⟩ := gb_gdE hF
  obtain ⟨x2, h3, cx2, hF⟩ := gb_bdE hF
  refine gb_cV (As := [.long (0 : Int64), .long (0 : Int64), .long (1 : Int64)]) (S := []) (v := none) (h1 := h3) (S2 := []) cf8 dX1_shareOfRow_14 mtX8_put lX1_52 inX8_put seX8_put (gb_kE g1) (fnX8_put_ok _ _ cx2) (by decide) rfl (Nat.le_of_ble_eq_true rfl) (Nat.le_of_ble_eq_true rfl) rfl rfl ?_
  refine gb_goto (tgt := 40) dX1_shareOfRow_17 (by decide) ?_
  exact gb_wk (fbX1_shareOfRow_40_ok h3 r hF) trivial
def fnX1_shareOfRow (p0 : Nat) (p1 : Int32) (p2 : Nat) (h : gb_H) : Option (Unit × gb_H) :=
  if p1 < 0 then
    fbX1_shareOfRow_10 p2 h
  else
    if p1 < (56 : Int32) then
      gb_gd (gb_k h p0 1) <|
      gb_rd (gb_R h p0 0) fun a4 =>
      gb_gd (gb_k h a4 23) <|
      gb_gd (gb_in h a4 p1) <|
      gb_gd (gb_k h p0 1) <|
      gb_rd (gb_R h p0 1) fun a8 =>
      gb_gd (gb_k h a8 23) <|
      gb_gd (gb_in h a8 p1) <|
      gb_gd (gb_k h p0 1) <|
      gb_gd (gb_k h p2 8) <|
      gb_bd (fnX8_put p2 (gb_L h a4 p1.toNatClampNeg) (gb_L h a8 p1.toNatClampNeg) (gb_L h p0 4) h) fun _ h14 =>
      fbX1_shareOfRow_40 h14
    else
      fbX1_shareOfRow_10 p2 h
theorem fnX1_shareOfRow_ok {X : gb_X}  {p0 : Nat} {p1 : Int32} {p2 : Nat} (h : gb_H) (r : Unit × gb_H) (hF : fnX1_shareOfRow p0 p1 p2 h = some r) : gb_Ev X 3 mX1_shareOfRow 0 (gb_L0 [.ref p0, .int p1, .ref p2]) [] h (gb_wV r) := by
  unfold fnX1_shareOfRow at hF
  refine gb_weak (L' := [some (.ref p0), some (.int p1), some (.ref p2)]) (And.intro rfl (And.intro rfl (And.intro rfl trivial))) ?_
  refine gb_iload_n dX1_shareOfRow_0 rfl rfl ?_
  refine gb_if_lt (tgt := 10) dX1_shareOfRow_1 (by decide) (fun c1 => ?_) (fun c1 => ?_)
  · replace hF := gb_ifT c1 hF
    exact gb_wk (fbX1_shareOfRow_10_ok p2 h r hF) (And.intro rfl trivial)
  · replace hF := gb_ifF c1 hF
    refine gb_iload_n dX1_shareOfRow_4 rfl rfl ?_
    refine gb_bipush (v := (56 : Int32)) dX1_shareOfRow_5 (by decide) ?_
    refine gb_icmp_lt (tgt := 20) dX1_shareOfRow_7 (by decide) (fun c2 => ?_) (fun c2 => ?_)
    · replace hF := gb_ifT c2 hF
      refine gb_aload_n dX1_shareOfRow_20 rfl rfl ?_
      refine gb_aload_n dX1_shareOfRow_21 rfl rfl ?_
      obtain ⟨g3, hF⟩ := gb_gdE hF
      obtain ⟨a4, ea4, hF⟩ := gb_rdE hF
      refine gb_getR fX1_9 dX1_shareOfRow_22 (gb_kE g3) ea4 ?_
      refine gb_iload_n dX1_shareOfRow_25 rfl rfl ?_
      obtain ⟨g5, hF⟩ := gb_gdE hF
      obtain ⟨g6, hF⟩ := gb_gdE hF
      refine gb_lald dX1_shareOfRow_26 (gb_kE g5) (gb_inE g6) ?_
      refine gb_aload_n dX1_shareOfRow_27 rfl rfl ?_
      obtain ⟨g7, hF⟩ := gb_gdE hF
      obtain ⟨a8, ea8, hF⟩ := gb_rdE hF
      refine gb_getR fX1_15 dX1_shareOfRow_28 (gb_kE g7) ea8 ?_
      refine gb_iload_n dX1_shareOfRow_31 rfl rfl ?_
      obtain ⟨g9, hF⟩ := gb_gdE hF
      obtain ⟨g10, hF⟩ := gb_gdE hF
      refine gb_lald dX1_shareOfRow_32 (gb_kE g9) (gb_inE g10) ?_
      refine gb_aload_n dX1_shareOfRow_33 rfl rfl ?_
      obtain ⟨g11, hF⟩ := gb_gdE hF
      refine gb_getL fX1_24 dX1_shareOfRow_34 (gb_kE g11) ?_
      obtain ⟨g12, hF⟩ := gb_gdE hF
      obtain ⟨x13, h14, cx13, hF⟩ := gb_bdE hF
      refine gb_cV (As := [.long (gb_L h a4 p1.toNatClampNeg), .long (gb_L h a8 p1.toNatClampNeg), .long (gb_L h p0 4)]) (S := []) (v := none) (h1 := h14) (S2 := []) cf8 dX1_shareOfRow_37 mtX8_put lX1_52 inX8_put seX8_put (gb_kE g12) (fnX8_put_ok _ _ cx13) (by decide) rfl (Nat.le_of_ble_eq_true rfl) (Nat.le_of_ble_eq_true rfl) rfl rfl ?_
      exact gb_wk (fbX1_shareOfRow_40_ok h14 r hF) trivial
    · replace hF := gb_ifF c2 hF
      exact gb_wk (fbX1_shareOfRow_10_ok p2 h r hF) (And.intro rfl trivial)
def fbX6_weigh_124 (h : gb_H) : Option (Unit × gb_H) :=
  some ((), h)
theorem fbX6_weigh_124_ok {X : gb_X} (h : gb_H) (r : Unit × gb_H) (hF : fbX6_weigh_124 h = some r) : gb_Ev X 5 mX6_weigh 124 [none, none, none, none, none, none, none, none] [] h (gb_wV r) := by
  unfold fbX6_weigh_124 at hF
  cases hF
  exact gb_vret dX6_weigh_124 rfl
def fbX6_weigh_98 (k98 : Nat → Int32 → Int32 → gb_H → Option (Unit × gb_H)) (v0 : Nat) (v1 : Int32) (v7 : Int32) (h : gb_H) : Option (Unit × gb_H) :=
  if v1 ≤ v7 then
    fbX6_weigh_124 h
  else
    gb_gd (gb_k h v0 6) <|
    gb_rd (gb_R h v0 6) fun a3 =>
    gb_gd (gb_k h v0 6) <|
    gb_rd (gb_R h v0 4) fun a5 =>
    gb_gd (gb_k h a5 20) <|
    gb_gd (gb_in h a5 v7) <|
    gb_gd (gb_k h a3 20) <|
    gb_gd (gb_in h a3 v7) <|
    gb_lt (gb_sI h a3 v7.toNatClampNeg (gb_I h a5 v7.toNatClampNeg)) fun h10 =>
    gb_lt (v7 + (1 : Int32)) fun x11 =>
    k98 v0 v1 x11 h10
theorem fbX6_weigh_98_ok {X : gb_X} {k98 : Nat → Int32 → Int32 → gb_H → Option (Unit × gb_H)} (hk98 : ∀ v0 v1 v7 h r, k98 v0 v1 v7 h = some r → gb_Ev X 5 mX6_weigh 98 [some (.ref v0), some (.int v1), none, none, none, none, none, some (.int v7)] [] h (gb_wV r)) (v0 : Nat) (v1 : Int32) (v7 : Int32) (h : gb_H) (r : Unit × gb_H) (hF : fbX6_weigh_98 k98 v0 v1 v7 h = some r) : gb_Ev X 5 mX6_weigh 98 [some (.ref v0), some (.int v1), none, none, none, none, none, some (.int v7)] [] h (gb_wV r) := by
  unfold fbX6_weigh_98 at hF
  refine gb_iload dX6_weigh_98 rfl ?_
  refine gb_iload_n dX6_weigh_100 rfl rfl ?_
  refine gb_icmp_ge (tgt := 124) dX6_weigh_101 (by decide) (fun c1 => ?_) (fun c1 => ?_)
  · replace hF := gb_ifT c1 hF
    exact gb_wk (fbX6_weigh_124_ok h r hF) trivial
  · replace hF := gb_ifF c1 hF
    refine gb_aload_n dX6_weigh_104 rfl rfl ?_
    obtain ⟨g2, hF⟩ := gb_gdE hF
    obtain ⟨a3, ea3, hF⟩ := gb_rdE hF
    refine gb_getR fX6_33 dX6_weigh_105 (gb_kE g2) ea3 ?_
    refine gb_iload dX6_weigh_108 rfl ?_
    refine gb_aload_n dX6_weigh_110 rfl rfl ?_
    obtain ⟨g4, hF⟩ := gb_gdE hF
    obtain ⟨a5, ea5, hF⟩ := gb_rdE hF
    refine gb_getR fX6_27 dX6_weigh_111 (gb_kE g4) ea5 ?_
    refine gb_iload dX6_weigh_114 rfl ?_
    obtain ⟨g6, hF⟩ := gb_gdE hF
    obtain ⟨g7, hF⟩ := gb_gdE hF
    refine gb_iald dX6_weigh_116 (gb_kE g6) (gb_inE g7) ?_
    obtain ⟨g8, hF⟩ := gb_gdE hF
    obtain ⟨g9, hF⟩ := gb_gdE hF
    obtain ⟨h10, eh10, hF⟩ := gb_ltE hF
    refine gb_iast dX6_weigh_117 (gb_kE g8) (gb_inE g9) (gb_hp eh10 ?_)
    obtain ⟨x11, ex11, hF⟩ := gb_ltE hF
    refine gb_iinc (v := x11) (L' := [some (.ref v0), some (.int v1), none, none, none, none, none, some (.int x11)]) dX6_weigh_118 rfl (by rw [ex11]; rfl) (by decide) rfl rfl ?_
    refine gb_goto (tgt := 98) dX6_weigh_121 (by decide) ?_
    exact gb_wk (hk98 v0 v1 x11 h10 r hF) (And.intro rfl (And.intro rfl (And.intro rfl trivial)))
def lpX6_weigh_98 (n : Nat) (v0 : Nat) (v1 : Int32) (v7 : Int32) (h : gb_H) : Option (Unit × gb_H) := gb_lp (σ := Nat × Int32 × Int32 × gb_H) (fun k s => fbX6_weigh_98 (fun v0 v1 v7 h => k (v0, v1, v7, h)) s.1 s.2.1 s.2.2.1 s.2.2.2) n (v0, v1, v7, h)
theorem lpX6_weigh_98_ok {X : gb_X}  (n : Nat) (v0 : Nat) (v1 : Int32) (v7 : Int32) (h : gb_H) (r : Unit × gb_H) (hF : lpX6_weigh_98 n v0 v1 v7 h = some r) : gb_Ev X 5 mX6_weigh 98 [some (.ref v0), some (.int v1), none, none, none, none, none, some (.int v7)] [] h (gb_wV r) := by
  exact gb_lpE (σ := Nat × Int32 × Int32 × gb_H) (P := fun s r => gb_Ev X 5 mX6_weigh 98 [some (.ref s.1), some (.int s.2.1), none, none, none, none, none, some (.int s.2.2.1)] [] s.2.2.2 (gb_wV r)) (fun k hk s r hs => fbX6_weigh_98_ok (fun v0 v1 v7 h r e => hk (v0, v1, v7, h) r e) _ _ _ _ r hs) n (v0, v1, v7, h) r hF
def fbX6_weigh_79 (v0 : Nat) (v1 : Int32) (h : gb_H) : Option (Unit × gb_H) :=
  gb_gd (gb_k h v0 6) <|
  gb_rd (gb_R h v0 8) fun a2 =>
  gb_gd (gb_k h v0 6) <|
  gb_rd (gb_R h v0 9) fun a4 =>
  gb_gd (gb_k h a2 8) <|
  gb_bd (fnX8_copyShare a2 a4 h) fun _ h7 =>
  gb_gd (gb_k h7 v0 6) <|
  gb_lt (gb_sI h7 v0 7 v1) fun h9 =>
  lpX6_weigh_98 gb_FU v0 v1 (0 : Int32) h9
theorem fbX6_weigh_79_ok {X : gb_X} (v0 : Nat) (v1 : Int32) (h : gb_H) (r : Unit × gb_H) (hF : fbX6_weigh_79 v0 v1 h = some r) : gb_Ev X 5 mX6_weigh 79 [some (.ref v0), some (.int v1), none, none, none, none, none, none] [] h (gb_wV r) := by
  unfold fbX6_weigh_79 at hF
  refine gb_aload_n dX6_weigh_79 rfl rfl ?_
  obtain ⟨g1, hF⟩ := gb_gdE hF
  obtain ⟨a2, ea2, hF⟩ := gb_rdE hF
  refine gb_getR fX6_43 dX6_weigh_80 (gb_kE g1) ea2 ?_
  refine gb_aload_n dX6_weigh_83 rfl rfl ?_
  obtain ⟨g3, hF⟩ := gb_gdE hF
  obtain ⟨a4, ea4, hF⟩ := gb_rdE hF
  refine gb_getR fX6_47 dX6_weigh_84 (gb_kE g3) ea4 ?_
  obtain ⟨g5, hF⟩ := gb_gdE hF
  obtain ⟨x6, h7, cx6, hF⟩ := gb_bdE hF
  refine gb_cV (As := [.ref a4]) (S := []) (v := none) (h1 := h7) (S2 := []) cf8 dX6_weigh_87 mtX8_copyShare lX6_121 inX8_copyShare seX8_copyShare (gb_kE g5) (fnX8_copyShare_ok _ _ cx6) (by decide) rfl (Nat.le_of_ble_eq_true rfl) (Nat.le_of_ble_eq_true rfl) rfl rfl ?_
  refine gb_aload_n dX6_weigh_90 rfl rfl ?_
  refine gb_iload_n dX6_weigh_91 rfl rfl ?_
  obtain ⟨g8, hF⟩ := gb_gdE hF
  obtain ⟨h9, eh9, hF⟩ := gb_ltE hF
  refine gb_putI fX6_36 (gb_nff nf6_7) dX6_weigh_92 (gb_kE g8) (fun _ => ⟨rfl, rfl⟩) (gb_hp eh9 ?_)
  refine gb_iconst (v := (0 : Int32)) dX6_weigh_95 (by decide) ?_
  refine gb_istore (L' := [some (.ref v0), some (.int v1), none, none, none, none, none, some (.int (0 : Int32))]) dX6_weigh_96 (by decide) rfl rfl ?_
  exact gb_wk (lpX6_weigh_98_ok gb_FU v0 v1 (0 : Int32) h9 r hF) (And.intro rfl (And.intro rfl (And.intro rfl trivial)))
def fbX6_weigh_59 (v0 : Nat) (v1 : Int32) (s0 : Int32) (h : gb_H) : Option (Unit × gb_H) :=
  if 0 < s0 then
    fbX6_weigh_79 v0 v1 h
  else
    if s0 = 0 then
      gb_gd (gb_k h v0 6) <|
      if (gb_I h v0 7) ≤ v1 then
        fbX6_weigh_124 h
      else
        fbX6_weigh_79 v0 v1 h
    else
      fbX6_weigh_124 h
theorem fbX6_weigh_59_ok {X : gb_X} (v0 : Nat) (v1 : Int32) (s0 : Int32) (h : gb_H) (r : Unit × gb_H) (hF : fbX6_weigh_59 v0 v1 s0 h = some r) : gb_Ev X 5 mX6_weigh 59 [some (.ref v0), some (.int v1), none, none, none, none, none, none] [.int s0] h (gb_wV r) := by
  unfold fbX6_weigh_59 at hF
  refine gb_istore (L' := [some (.ref v0), some (.int v1), none, none, none, none, some (.int s0), none]) dX6_weigh_59 (by decide) rfl rfl ?_
  refine gb_iload dX6_weigh_61 rfl ?_
  refine gb_if_gt (tgt := 79) dX6_weigh_63 (by decide) (fun c1 => ?_) (fun c1 => ?_)
  · replace hF := gb_ifT c1 hF
    exact gb_wk (fbX6_weigh_79_ok v0 v1 h r hF) (And.intro rfl (And.intro rfl trivial))
  · replace hF := gb_ifF c1 hF
    refine gb_iload dX6_weigh_66 rfl ?_
    refine gb_if_ne (tgt := 124) dX6_weigh_68 (by decide) (fun c2 => ?_) (fun c2 => ?_)
    · replace hF := gb_ifF c2 hF
      exact gb_wk (fbX6_weigh_124_ok h r hF) trivial
    · replace hF := gb_ifT c2 hF
      refine gb_iload_n dX6_weigh_71 rfl rfl ?_
      refine gb_aload_n dX6_weigh_72 rfl rfl ?_
      obtain ⟨g3, hF⟩ := gb_gdE hF
      refine gb_getI fX6_36 dX6_weigh_73 (gb_kE g3) ?_
      refine gb_icmp_ge (tgt := 124) dX6_weigh_76 (by decide) (fun c4 => ?_) (fun c4 => ?_)
      · replace hF := gb_ifT c4 hF
        exact gb_wk (fbX6_weigh_124_ok h r hF) trivial
      · replace hF := gb_ifF c4 hF
        exact gb_wk (fbX6_weigh_79_ok v0 v1 h r hF) (And.intro rfl (And.intro rfl trivial))
def fnX6_weigh (p0 : Nat) (p1 : Int32) (p2 : Int32) (p3 : Int32) (h : gb_H) : Option (Unit × gb_H) :=
  gb_gd (gb_k h p0 6) <|
  gb_rd (gb_R h p0 3) fun a2 =>
  gb_gd (gb_k h a2 20) <|
  gb_gd (gb_in h a2 p1) <|
  gb_gd (gb_k h p0 6) <|
  gb_rd (gb_R h p0 3) fun a6 =>
  gb_gd (gb_k h a6 20) <|
  gb_gd (gb_in h a6 p1) <|
  gb_lt ((((gb_I h a2 p1.toNatClampNeg).toInt64) * ((gb_I h a6 p1.toNatClampNeg).toInt64)) * (p3.toInt64)) fun x9 =>
  gb_gd (gb_k h p0 6) <|
  gb_rd (gb_R h p0 2) fun a11 =>
  gb_gd (gb_k h a11 30) <|
  gb_gd (gb_in h a11 p1) <|
  gb_rd (gb_R h a11 p1.toNatClampNeg) fun a14 =>
  gb_gd (gb_k h p0 6) <|
  gb_rd (gb_R h p0 9) fun a16 =>
  gb_gd (gb_k h a14 0) <|
  gb_bd (fnX0_shareOfRow a14 p2 x9 a16 h) fun _ h19 =>
  gb_gd (gb_k h19 p0 6) <|
  if (gb_I h19 p0 7) = (-1 : Int32) then
    fbX6_weigh_59 p0 p1 (1 : Int32) h19
  else
    gb_gd (gb_k h19 p0 6) <|
    gb_rd (gb_R h19 p0 9) fun a23 =>
    gb_gd (gb_k h19 p0 6) <|
    gb_rd (gb_R h19 p0 8) fun a25 =>
    gb_gd (gb_k h19 a23 8) <|
    gb_bd (fnX8_compareShare a23 a25 h19) fun x27 h28 =>
    fbX6_weigh_59 p0 p1 x27 h28
theorem fnX6_weigh_ok {X : gb_X}  {p0 : Nat} {p1 : Int32} {p2 : Int32} {p3 : Int32} (h : gb_H) (r : Unit × gb_H) (hF : fnX6_weigh p0 p1 p2 p3 h = some r) : gb_Ev X 5 mX6_weigh 0 (gb_L0 [.ref p0, .int p1, .int p2, .int p3]) [] h (gb_wV r) := by
  unfold fnX6_weigh at hF
  refine gb_weak (L' := [some (.ref p0), some (.int p1), some (.int p2), some (.int p3), none, none, none, none]) (And.intro rfl (And.intro rfl (And.intro rfl (And.intro rfl trivial)))) ?_
  refine gb_aload_n dX6_weigh_0 rfl rfl ?_
  obtain ⟨g1, hF⟩ := gb_gdE hF
  obtain ⟨a2, ea2, hF⟩ := gb_rdE hF
  refine gb_getR fX6_23 dX6_weigh_1 (gb_kE g1) ea2 ?_
  refine gb_iload_n dX6_weigh_4 rfl rfl ?_
  obtain ⟨g3, hF⟩ := gb_gdE hF
  obtain ⟨g4, hF⟩ := gb_gdE hF
  refine gb_iald dX6_weigh_5 (gb_kE g3) (gb_inE g4) ?_
  refine gb_i2l dX6_weigh_6 ?_
  refine gb_aload_n dX6_weigh_7 rfl rfl ?_
  obtain ⟨g5, hF⟩ := gb_gdE hF
  obtain ⟨a6, ea6, hF⟩ := gb_rdE hF
  refine gb_getR fX6_23 dX6_weigh_8 (gb_kE g5) ea6 ?_
  refine gb_iload_n dX6_weigh_11 rfl rfl ?_
  obtain ⟨g7, hF⟩ := gb_gdE hF
  obtain ⟨g8, hF⟩ := gb_gdE hF
  refine gb_iald dX6_weigh_12 (gb_kE g7) (gb_inE g8) ?_
  refine gb_i2l dX6_weigh_13 ?_
  refine gb_lmul dX6_weigh_14 ?_
  refine gb_iload_n dX6_weigh_15 rfl rfl ?_
  refine gb_i2l dX6_weigh_16 ?_
  refine gb_lmul dX6_weigh_17 ?_
  obtain ⟨x9, ex9, hF⟩ := gb_ltE hF
  refine gb_topJ ex9 ?_
  refine gb_lstore (L' := [some (.ref p0), some (.int p1), some (.int p2), some (.int p3), some (.long x9), none, none, none]) dX6_weigh_18 (by decide) rfl rfl ?_
  refine gb_aload_n dX6_weigh_20 rfl rfl ?_
  obtain ⟨g10, hF⟩ := gb_gdE hF
  obtain ⟨a11, ea11, hF⟩ := gb_rdE hF
  refine gb_getR fX6_19 dX6_weigh_21 (gb_kE g10) ea11 ?_
  refine gb_iload_n dX6_weigh_24 rfl rfl ?_
  obtain ⟨g12, hF⟩ := gb_gdE hF
  obtain ⟨g13, hF⟩ := gb_gdE hF
  obtain ⟨a14, ea14, hF⟩ := gb_rdE hF
  refine gb_aald dX6_weigh_25 (gb_kE g12) (by decide) (gb_inE g13) ea14 ?_
  refine gb_iload_n dX6_weigh_26 rfl rfl ?_
  refine gb_lload dX6_weigh_27 rfl ?_
  refine gb_aload_n dX6_weigh_29 rfl rfl ?_
  obtain ⟨g15, hF⟩ := gb_gdE hF
  obtain ⟨a16, ea16, hF⟩ := gb_rdE hF
  refine gb_getR fX6_47 dX6_weigh_30 (gb_kE g15) ea16 ?_
  obtain ⟨g17, hF⟩ := gb_gdE hF
  obtain ⟨x18, h19, cx18, hF⟩ := gb_bdE hF
  refine gb_cV (As := [.int p2, .long x9, .ref a16]) (S := []) (v := none) (h1 := h19) (S2 := []) cf0 dX6_weigh_33 mtX0_shareOfRow lX6_113 inX0_shareOfRow seX0_shareOfRow (gb_kE g17) (fnX0_shareOfRow_ok _ _ cx18) (by decide) rfl (Nat.le_of_ble_eq_true rfl) (Nat.le_of_ble_eq_true rfl) rfl rfl ?_
  refine gb_aload_n dX6_weigh_36 rfl rfl ?_
  obtain ⟨g20, hF⟩ := gb_gdE hF
  refine gb_getI fX6_36 dX6_weigh_37 (gb_kE g20) ?_
  refine gb_iconst (v := (-1 : Int32)) dX6_weigh_40 (by decide) ?_
  refine gb_icmp_ne (tgt := 48) dX6_weigh_41 (by decide) (fun c21 => ?_) (fun c21 => ?_)
  · replace hF := gb_ifF c21 hF
    refine gb_aload_n dX6_weigh_48 rfl rfl ?_
    obtain ⟨g22, hF⟩ := gb_gdE hF
    obtain ⟨a23, ea23, hF⟩ := gb_rdE hF
    refine gb_getR fX6_47 dX6_weigh_49 (gb_kE g22) ea23 ?_
    refine gb_aload_n dX6_weigh_52 rfl rfl ?_
    obtain ⟨g24, hF⟩ := gb_gdE hF
    obtain ⟨a25, ea25, hF⟩ := gb_rdE hF
    refine gb_getR fX6_43 dX6_weigh_53 (gb_kE g24) ea25 ?_
    obtain ⟨g26, hF⟩ := gb_gdE hF
    obtain ⟨x27, h28, cx27, hF⟩ := gb_bdE hF
    refine gb_cV (As := [.ref a25]) (S := []) (v := some (.int x27)) (h1 := h28) (S2 := [.int x27]) cf8 dX6_weigh_56 mtX8_compareShare lX6_117 inX8_compareShare seX8_compareShare (gb_kE g26) (fnX8_compareShare_ok _ _ cx27) (by decide) rfl (Nat.le_of_ble_eq_true rfl) (Nat.le_of_ble_eq_true rfl) rfl rfl ?_
    exact gb_wk (fbX6_weigh_59_ok p0 p1 x27 h28 r hF) (And.intro rfl (And.intro rfl trivial))
  · replace hF := gb_ifT c21 hF
    refine gb_iconst (v := (1 : Int32)) dX6_weigh_44 (by decide) ?_
    refine gb_goto (tgt := 59) dX6_weigh_45 (by decide) ?_
    exact gb_wk (fbX6_weigh_59_ok p0 p1 (1 : Int32) h19 r hF) (And.intro rfl (And.intro rfl trivial))
def fbX6_isVain_24 (s0 : Int32) (h : gb_H) : Option (Int32 × gb_H) :=
  gb_gd (gb_b s0) <|
  some (s0, h)
theorem fbX6_isVain_24_ok {X : gb_X} (s0 : Int32) (h : gb_H) (r : Int32 × gb_H) (hF : fbX6_isVain_24 s0 h = some r) : gb_Ev X 4 mX6_isVain 24 [none, none, none] [.int s0] h (gb_wI r) := by
  unfold fbX6_isVain_24 at hF
  obtain ⟨g1, hF⟩ := gb_gdE hF
  cases hF
  exact gb_zret dX6_isVain_24 rfl (gb_bE g1)
def fbX6_isVain_19 (h : gb_H) : Option (Int32 × gb_H) :=
  fbX6_isVain_24 (1 : Int32) h
theorem fbX6_isVain_19_ok {X : gb_X} (h : gb_H) (r : Int32 × gb_H) (hF : fbX6_isVain_19 h = some r) : gb_Ev X 4 mX6_isVain 19 [none, none, none] [] h (gb_wI r) := by
  unfold fbX6_isVain_19 at hF
  refine gb_iconst (v := (1 : Int32)) dX6_isVain_19 (by decide) ?_
  refine gb_goto (tgt := 24) dX6_isVain_20 (by decide) ?_
  exact gb_wk (fbX6_isVain_24_ok (1 : Int32) h r hF) trivial
def fbX6_isVain_11 (v0 : Nat) (v1 : Nat) (h : gb_H) : Option (Int32 × gb_H) :=
  gb_gd (gb_k h v1 0) <|
  gb_bd (fnX0_isMetBy v1 v0 h) fun x2 h3 =>
  if x2 = 0 then
    fbX6_isVain_19 h3
  else
    fbX6_isVain_24 (0 : Int32) h3
theorem fbX6_isVain_11_ok {X : gb_X} (v0 : Nat) (v1 : Nat) (h : gb_H) (r : Int32 × gb_H) (hF : fbX6_isVain_11 v0 v1 h = some r) : gb_Ev X 4 mX6_isVain 11 [some (.ref v0), some (.ref v1), none] [] h (gb_wI r) := by
  unfold fbX6_isVain_11 at hF
  refine gb_aload_n dX6_isVain_11 rfl rfl ?_
  refine gb_aload_n dX6_isVain_12 rfl rfl ?_
  obtain ⟨g1, hF⟩ := gb_gdE hF
  obtain ⟨x2, h3, cx2, hF⟩ := gb_bdE hF
  refine gb_cV (As := [.ref v0]) (S := []) (v := some (.int x2)) (h1 := h3) (S2 := [.int x2]) cf0 dX6_isVain_13 mtX0_isMetBy lX6_109 inX0_isMetBy seX0_isMetBy (gb_kE g1) (fnX0_isMetBy_ok _ _ cx2) (by decide) rfl (Nat.le_of_ble_eq_true rfl) (Nat.le_of_ble_eq_true rfl) rfl rfl ?_
  refine gb_if_ne (tgt := 23) dX6_isVain_16 (by decide) (fun c4 => ?_) (fun c4 => ?_)
  · replace hF := gb_ifF c4 hF
    refine gb_iconst (v := (0 : Int32)) dX6_isVain_23 (by decide) ?_
    exact gb_wk (fbX6_isVain_24_ok (0 : Int32) h3 r hF) trivial
  · replace hF := gb_ifT c4 hF
    exact gb_wk (fbX6_isVain_19_ok h3 r hF) trivial
def fnX6_isVain (p0 : Nat) (p1 : Nat) (p2 : Int32) (h : gb_H) : Option (Int32 × gb_H) :=
  if p2 = 0 then
    fbX6_isVain_11 p0 p1 h
  else
    gb_gd (gb_k h p0 5) <|
    gb_bd (fnX5_joinsPaths p0 h) fun x3 h4 =>
    if x3 = 0 then
      fbX6_isVain_19 h4
    else
      fbX6_isVain_11 p0 p1 h4
theorem fnX6_isVain_ok {X : gb_X}  {p0 : Nat} {p1 : Nat} {p2 : Int32} (h : gb_H) (r : Int32 × gb_H) (hF : fnX6_isVain p0 p1 p2 h = some r) : gb_Ev X 4 mX6_isVain 0 (gb_L0 [.ref p0, .ref p1, .int p2]) [] h (gb_wI r) := by
  unfold fnX6_isVain at hF
  refine gb_weak (L' := [some (.ref p0), some (.ref p1), some (.int p2)]) (And.intro rfl (And.intro rfl (And.intro rfl trivial))) ?_
  refine gb_iload_n dX6_isVain_0 rfl rfl ?_
  refine gb_if_eq (tgt := 11) dX6_isVain_1 (by decide) (fun c1 => ?_) (fun c1 => ?_)
  · replace hF := gb_ifT c1 hF
    exact gb_wk (fbX6_isVain_11_ok p0 p1 h r hF) (And.intro rfl (And.intro rfl trivial))
  · replace hF := gb_ifF c1 hF
    refine gb_aload_n dX6_isVain_4 rfl rfl ?_
    obtain ⟨g2, hF⟩ := gb_gdE hF
    obtain ⟨x3, h4, cx3, hF⟩ := gb_bdE hF
    refine gb_cV (As := []) (S := []) (v := some (.int x3)) (h1 := h4) (S2 := [.int x3]) cf5 dX6_isVain_5 mtX5_joinsPaths lX6_105 inX5_joinsPaths seX5_joinsPaths (gb_kE g2) (fnX5_joinsPaths_ok _ _ cx3) (by decide) rfl (Nat.le_of_ble_eq_true rfl) (Nat.le_of_ble_eq_true rfl) rfl rfl ?_
    refine gb_if_eq (tgt := 19) dX6_isVain_8 (by decide) (fun c5 => ?_) (fun c5 => ?_)
    · replace hF := gb_ifT c5 hF
      exact gb_wk (fbX6_isVain_19_ok h4 r hF) trivial
    · replace hF := gb_ifF c5 hF
      exact gb_wk (fbX6_isVain_11_ok p0 p1 h4 r hF) (And.intro rfl (And.intro rfl trivial))
def fbX6_lengthen_80 (h : gb_H) : Option (Int32 × gb_H) :=
  some ((0 : Int32), h)
theorem fbX6_lengthen_80_ok {X : gb_X} (h : gb_H) (r : Int32 × gb_H) (hF : fbX6_lengthen_80 h = some r) : gb_Ev X 5 mX6_lengthen 80 [none, none, none, none, none, none, none] [] h (gb_wI r) := by
  unfold fbX6_lengthen_80 at hF
  refine gb_iconst (v := (0 : Int32)) dX6_lengthen_80 (by decide) ?_
  cases hF
  exact gb_zret dX6_lengthen_81 rfl (by decide)
def fbX6_lengthen_74 (v0 : Nat) (v1 : Int32) (v4 : Int32) (v5 : Nat) (v6 : Int32) (s0 : Nat) (s1 : Nat) (s2 : Int32) (h : gb_H) : Option (Int32 × gb_H) :=
  gb_bd (fnX6_isVain s0 s1 s2 h) fun x1 h2 =>
  if x1 = 0 then
    gb_gd (gb_k h2 v0 6) <|
    gb_rd (gb_R h2 v0 4) fun a5 =>
    gb_gd (gb_k h2 a5 20) <|
    gb_gd (gb_in h2 a5 v1) <|
    gb_lt (gb_sI h2 a5 v1.toNatClampNeg v4) fun h8 =>
    gb_gd (gb_k h8 v0 6) <|
    gb_rd (gb_R h8 v0 2) fun a10 =>
    gb_gd (gb_k h8 a10 30) <|
    gb_gd (gb_in h8 a10 v1) <|
    gb_rd (gb_R h8 a10 v1.toNatClampNeg) fun a13 =>
    gb_gd (gb_k h8 v0 6) <|
    gb_rd (gb_R h8 v0 1) fun a15 =>
    gb_gd (gb_k h8 a15 34) <|
    gb_gd (gb_in h8 a15 v4) <|
    gb_rd (gb_R h8 a15 v4.toNatClampNeg) fun a18 =>
    gb_gd (gb_k h8 v0 6) <|
    gb_rd (gb_R h8 v0 2) fun a20 =>
    gb_lt (v1 + (1 : Int32)) fun x21 =>
    gb_gd (gb_k h8 a20 30) <|
    gb_gd (gb_in h8 a20 x21) <|
    gb_rd (gb_R h8 a20 x21.toNatClampNeg) fun a24 =>
    gb_gd (gb_k h8 a13 0) <|
    gb_bd (fnX0_send a13 v5 a18 a24 h8) fun _ h27 =>
    gb_gd (gb_k h27 v0 6) <|
    gb_rd (gb_R h27 v0 3) fun a29 =>
    gb_lt (v1 + (1 : Int32)) fun x30 =>
    gb_gd (gb_k h27 a29 20) <|
    gb_gd (gb_in h27 a29 x30) <|
    gb_lt (gb_sI h27 a29 x30.toNatClampNeg v6) fun h33 =>
    gb_gd (gb_k h33 v0 6) <|
    gb_rd (gb_R h33 v0 5) fun a35 =>
    gb_lt (v1 + (1 : Int32)) fun x36 =>
    gb_gd (gb_k h33 a35 20) <|
    gb_gd (gb_in h33 a35 x36) <|
    gb_lt (gb_sI h33 a35 x36.toNatClampNeg (0 : Int32)) fun h39 =>
    some ((1 : Int32), h39)
  else
    fbX6_lengthen_80 h2
theorem fbX6_lengthen_74_ok {X : gb_X} (v0 : Nat) (v1 : Int32) (v4 : Int32) (v5 : Nat) (v6 : Int32) (s0 : Nat) (s1 : Nat) (s2 : Int32) (h : gb_H) (r : Int32 × gb_H) (hF : fbX6_lengthen_74 v0 v1 v4 v5 v6 s0 s1 s2 h = some r) : gb_Ev X 5 mX6_lengthen 74 [some (.ref v0), some (.int v1), none, none, some (.int v4), some (.ref v5), some (.int v6)] [.int s2, .ref s1, .ref s0] h (gb_wI r) := by
  unfold fbX6_lengthen_74 at hF
  obtain ⟨x1, h2, cx1, hF⟩ := gb_bdE hF
  refine gb_cS (As := [.ref s0, .ref s1, .int s2]) (S := []) (v := some (.int x1)) (h1 := h2) (S2 := [.int x1]) dX6_lengthen_74 mtX6_isVain lX6_97 stX6_isVain (fnX6_isVain_ok _ _ cx1) (by decide) rfl (Nat.le_of_ble_eq_true rfl) (Nat.le_of_ble_eq_true rfl) rfl rfl ?_
  refine gb_if_eq (tgt := 82) dX6_lengthen_77 (by decide) (fun c3 => ?_) (fun c3 => ?_)
  · replace hF := gb_ifT c3 hF
    refine gb_aload_n dX6_lengthen_82 rfl rfl ?_
    obtain ⟨g4, hF⟩ := gb_gdE hF
    obtain ⟨a5, ea5, hF⟩ := gb_rdE hF
    refine gb_getR fX6_27 dX6_lengthen_83 (gb_kE g4) ea5 ?_
    refine gb_iload_n dX6_lengthen_86 rfl rfl ?_
    refine gb_iload dX6_lengthen_87 rfl ?_
    obtain ⟨g6, hF⟩ := gb_gdE hF
    obtain ⟨g7, hF⟩ := gb_gdE hF
    obtain ⟨h8, eh8, hF⟩ := gb_ltE hF
    refine gb_iast dX6_lengthen_89 (gb_kE g6) (gb_inE g7) (gb_hp eh8 ?_)
    refine gb_aload_n dX6_lengthen_90 rfl rfl ?_
    obtain ⟨g9, hF⟩ := gb_gdE hF
    obtain ⟨a10, ea10, hF⟩ := gb_rdE hF
    refine gb_getR fX6_19 dX6_lengthen_91 (gb_kE g9) ea10 ?_
    refine gb_iload_n dX6_lengthen_94 rfl rfl ?_
    obtain ⟨g11, hF⟩ := gb_gdE hF
    obtain ⟨g12, hF⟩ := gb_gdE hF
    obtain ⟨a13, ea13, hF⟩ := gb_rdE hF
    refine gb_aald dX6_lengthen_95 (gb_kE g11) (by decide) (gb_inE g12) ea13 ?_
    refine gb_aload dX6_lengthen_96 rfl ?_
    refine gb_aload_n dX6_lengthen_98 rfl rfl ?_
    obtain ⟨g14, hF⟩ := gb_gdE hF
    obtain ⟨a15, ea15, hF⟩ := gb_rdE hF
    refine gb_getR fX6_11 dX6_lengthen_99 (gb_kE g14) ea15 ?_
    refine gb_iload dX6_lengthen_102 rfl ?_
    obtain ⟨g16, hF⟩ := gb_gdE hF
    obtain ⟨g17, hF⟩ := gb_gdE hF
    obtain ⟨a18, ea18, hF⟩ := gb_rdE hF
    refine gb_aald dX6_lengthen_104 (gb_kE g16) (by decide) (gb_inE g17) ea18 ?_
    refine gb_aload_n dX6_lengthen_105 rfl rfl ?_
    obtain ⟨g19, hF⟩ := gb_gdE hF
    obtain ⟨a20, ea20, hF⟩ := gb_rdE hF
    refine gb_getR fX6_19 dX6_lengthen_106 (gb_kE g19) ea20 ?_
    refine gb_iload_n dX6_lengthen_109 rfl rfl ?_
    refine gb_iconst (v := (1 : Int32)) dX6_lengthen_110 (by decide) ?_
    refine gb_iadd dX6_lengthen_111 ?_
    obtain ⟨x21, ex21, hF⟩ := gb_ltE hF
    refine gb_topI ex21 ?_
    obtain ⟨g22, hF⟩ := gb_gdE hF
    obtain ⟨g23, hF⟩ := gb_gdE hF
    obtain ⟨a24, ea24, hF⟩ := gb_rdE hF
    refine gb_aald dX6_lengthen_112 (gb_kE g22) (by decide) (gb_inE g23) ea24 ?_
    obtain ⟨g25, hF⟩ := gb_gdE hF
    obtain ⟨x26, h27, cx26, hF⟩ := gb_bdE hF
    refine gb_cV (As := [.ref v5, .ref a18, .ref a24]) (S := []) (v := none) (h1 := h27) (S2 := []) cf0 dX6_lengthen_113 mtX0_send lX6_101 inX0_send seX0_send (gb_kE g25) (fnX0_send_ok _ _ cx26) (by decide) rfl (Nat.le_of_ble_eq_true rfl) (Nat.le_of_ble_eq_true rfl) rfl rfl ?_
    refine gb_aload_n dX6_lengthen_116 rfl rfl ?_
    obtain ⟨g28, hF⟩ := gb_gdE hF
    obtain ⟨a29, ea29, hF⟩ := gb_rdE hF
    refine gb_getR fX6_23 dX6_lengthen_117 (gb_kE g28) ea29 ?_
    refine gb_iload_n dX6_lengthen_120 rfl rfl ?_
    refine gb_iconst (v := (1 : Int32)) dX6_lengthen_121 (by decide) ?_
    refine gb_iadd dX6_lengthen_122 ?_
    refine gb_iload dX6_lengthen_123 rfl ?_
    obtain ⟨x30, ex30, hF⟩ := gb_ltE hF
    refine gb_topI2 ex30 ?_
    obtain ⟨g31, hF⟩ := gb_gdE hF
    obtain ⟨g32, hF⟩ := gb_gdE hF
    obtain ⟨h33, eh33, hF⟩ := gb_ltE hF
    refine gb_iast dX6_lengthen_125 (gb_kE g31) (gb_inE g32) (gb_hp eh33 ?_)
    refine gb_aload_n dX6_lengthen_126 rfl rfl ?_
    obtain ⟨g34, hF⟩ := gb_gdE hF
    obtain ⟨a35, ea35, hF⟩ := gb_rdE hF
    refine gb_getR fX6_30 dX6_lengthen_127 (gb_kE g34) ea35 ?_
    refine gb_iload_n dX6_lengthen_130 rfl rfl ?_
    refine gb_iconst (v := (1 : Int32)) dX6_lengthen_131 (by decide) ?_
    refine gb_iadd dX6_lengthen_132 ?_
    refine gb_iconst (v := (0 : Int32)) dX6_lengthen_133 (by decide) ?_
    obtain ⟨x36, ex36, hF⟩ := gb_ltE hF
    refine gb_topI2 ex36 ?_
    obtain ⟨g37, hF⟩ := gb_gdE hF
    obtain ⟨g38, hF⟩ := gb_gdE hF
    obtain ⟨h39, eh39, hF⟩ := gb_ltE hF
    refine gb_iast dX6_lengthen_134 (gb_kE g37) (gb_inE g38) (gb_hp eh39 ?_)
    refine gb_iconst (v := (1 : Int32)) dX6_lengthen_135 (by decide) ?_
    cases hF
    exact gb_zret dX6_lengthen_136 rfl (by decide)
  · replace hF := gb_ifF c3 hF
    exact gb_wk (fbX6_lengthen_80_ok h2 r hF) trivial
def fnX6_lengthen (p0 : Nat) (p1 : Int32) (p2 : Int32) (p3 : Int32) (h : gb_H) : Option (Int32 × gb_H) :=
  gb_gd (gb_k h p0 6) <|
  gb_rd (gb_R h p0 5) fun a2 =>
  gb_gd (gb_k h a2 20) <|
  gb_gd (gb_in h a2 p1) <|
  gb_lt (gb_I h a2 p1.toNatClampNeg) fun x5 =>
  gb_gd (gb_k h p0 6) <|
  gb_rd (gb_R h p0 5) fun a7 =>
  gb_gd (gb_k h a7 20) <|
  gb_gd (gb_in h a7 p1) <|
  gb_gd (gb_k h a7 20) <|
  gb_gd (gb_in h a7 p1) <|
  gb_lt (gb_sI h a7 p1.toNatClampNeg ((gb_I h a7 p1.toNatClampNeg) + (1 : Int32))) fun h12 =>
  gb_gd (gb_k h12 p0 6) <|
  gb_rd (gb_R h12 p0 0) fun a14 =>
  gb_gd (gb_k h12 a14 2) <|
  gb_rd (gb_R h12 a14 0) fun a16 =>
  gb_gd (gb_k h12 a16 35) <|
  gb_gd (gb_in h12 a16 x5) <|
  gb_rd (gb_R h12 a16 x5.toNatClampNeg) fun a19 =>
  gb_gd (gb_k h12 p0 6) <|
  gb_rd (gb_R h12 p0 3) fun a21 =>
  gb_gd (gb_k h12 a21 20) <|
  gb_gd (gb_in h12 a21 p1) <|
  gb_gd (gb_k h12 a19 5) <|
  gb_bd (fnX5_base a19 h12) fun x25 h26 =>
  gb_bd (fnX2_deepen (gb_I h12 a21 p1.toNatClampNeg) x25 p3 h26) fun x27 h28 =>
  if (300000 : Int32) < x27 then
    fbX6_lengthen_80 h28
  else
    gb_gd (gb_k h28 p0 6) <|
    gb_rd (gb_R h28 p0 2) fun a31 =>
    gb_gd (gb_k h28 a31 30) <|
    gb_gd (gb_in h28 a31 p1) <|
    gb_rd (gb_R h28 a31 p1.toNatClampNeg) fun a34 =>
    if (p1 + (1 : Int32)) < p2 then
      fbX6_lengthen_74 p0 p1 x5 a19 x27 a19 a34 (0 : Int32) h28
    else
      fbX6_lengthen_74 p0 p1 x5 a19 x27 a19 a34 (1 : Int32) h28
theorem fnX6_lengthen_ok {X : gb_X}  {p0 : Nat} {p1 : Int32} {p2 : Int32} {p3 : Int32} (h : gb_H) (r : Int32 × gb_H) (hF : fnX6_lengthen p0 p1 p2 p3 h = some r) : gb_Ev X 5 mX6_lengthen 0 (gb_L0 [.ref p0, .int p1, .int p2, .int p3]) [] h (gb_wI r) := by
  unfold fnX6_lengthen at hF
  refine gb_weak (L' := [some (.ref p0), some (.int p1), some (.int p2), some (.int p3), none, none, none]) (And.intro rfl (And.intro rfl (And.intro rfl (And.intro rfl trivial)))) ?_
  refine gb_aload_n dX6_lengthen_0 rfl rfl ?_
  obtain ⟨g1, hF⟩ := gb_gdE hF
  obtain ⟨a2, ea2, hF⟩ := gb_rdE hF
  refine gb_getR fX6_30 dX6_lengthen_1 (gb_kE g1) ea2 ?_
  refine gb_iload_n dX6_lengthen_4 rfl rfl ?_
  obtain ⟨g3, hF⟩ := gb_gdE hF
  obtain ⟨g4, hF⟩ := gb_gdE hF
  refine gb_iald dX6_lengthen_5 (gb_kE g3) (gb_inE g4) ?_
  obtain ⟨x5, ex5, hF⟩ := gb_ltE hF
  refine gb_topI ex5 ?_
  refine gb_istore (L' := [some (.ref p0), some (.int p1), some (.int p2), some (.int p3), some (.int x5), none, none]) dX6_lengthen_6 (by decide) rfl rfl ?_
  refine gb_aload_n dX6_lengthen_8 rfl rfl ?_
  obtain ⟨g6, hF⟩ := gb_gdE hF
  obtain ⟨a7, ea7, hF⟩ := gb_rdE hF
  refine gb_getR fX6_30 dX6_lengthen_9 (gb_kE g6) ea7 ?_
  refine gb_iload_n dX6_lengthen_12 rfl rfl ?_
  refine gb_dup2 dX6_lengthen_13 rfl rfl ?_
  obtain ⟨g8, hF⟩ := gb_gdE hF
  obtain ⟨g9, hF⟩ := gb_gdE hF
  refine gb_iald dX6_lengthen_14 (gb_kE g8) (gb_inE g9) ?_
  refine gb_iconst (v := (1 : Int32)) dX6_lengthen_15 (by decide) ?_
  refine gb_iadd dX6_lengthen_16 ?_
  obtain ⟨g10, hF⟩ := gb_gdE hF
  obtain ⟨g11, hF⟩ := gb_gdE hF
  obtain ⟨h12, eh12, hF⟩ := gb_ltE hF
  refine gb_iast dX6_lengthen_17 (gb_kE g10) (gb_inE g11) (gb_hp eh12 ?_)
  refine gb_aload_n dX6_lengthen_18 rfl rfl ?_
  obtain ⟨g13, hF⟩ := gb_gdE hF
  obtain ⟨a14, ea14, hF⟩ := gb_rdE hF
  refine gb_getR fX6_50 dX6_lengthen_19 (gb_kE g13) ea14 ?_
  obtain ⟨g15, hF⟩ := gb_gdE hF
  obtain ⟨a16, ea16, hF⟩ := gb_rdE hF
  refine gb_getR fX6_67 dX6_lengthen_22 (gb_kE g15) ea16 ?_
  refine gb_iload dX6_lengthen_25 rfl ?_
  obtain ⟨g17, hF⟩ := gb_gdE hF
  obtain ⟨g18, hF⟩ := gb_gdE hF
  obtain ⟨a19, ea19, hF⟩ := gb_rdE hF
  refine gb_aald dX6_lengthen_27 (gb_kE g17) (by decide) (gb_inE g18) ea19 ?_
  refine gb_astore (L' := [some (.ref p0), some (.int p1), some (.int p2), some (.int p3), some (.int x5), some (.ref a19), none]) dX6_lengthen_28 (by decide) rfl rfl ?_
  refine gb_aload_n dX6_lengthen_30 rfl rfl ?_
  obtain ⟨g20, hF⟩ := gb_gdE hF
  obtain ⟨a21, ea21, hF⟩ := gb_rdE hF
  refine gb_getR fX6_23 dX6_lengthen_31 (gb_kE g20) ea21 ?_
  refine gb_iload_n dX6_lengthen_34 rfl rfl ?_
  obtain ⟨g22, hF⟩ := gb_gdE hF
  obtain ⟨g23, hF⟩ := gb_gdE hF
  refine gb_iald dX6_lengthen_35 (gb_kE g22) (gb_inE g23) ?_
  refine gb_aload dX6_lengthen_36 rfl ?_
  obtain ⟨g24, hF⟩ := gb_gdE hF
  obtain ⟨x25, h26, cx25, hF⟩ := gb_bdE hF
  refine gb_cV (As := []) (S := [.int (gb_I h12 a21 p1.toNatClampNeg)]) (v := some (.int x25)) (h1 := h26) (S2 := [.int x25, .int (gb_I h12 a21 p1.toNatClampNeg)]) cf5 dX6_lengthen_38 mtX5_base lX6_86 inX5_base seX5_base (gb_kE g24) (fnX5_base_ok _ _ cx25) (by decide) rfl (Nat.le_of_ble_eq_true rfl) (Nat.le_of_ble_eq_true rfl) rfl rfl ?_
  refine gb_iload_n dX6_lengthen_41 rfl rfl ?_
  obtain ⟨x27, h28, cx27, hF⟩ := gb_bdE hF
  refine gb_cS (As := [.int (gb_I h12 a21 p1.toNatClampNeg), .int x25, .int p3]) (S := []) (v := some (.int x27)) (h1 := h28) (S2 := [.int x27]) dX6_lengthen_42 mtX2_deepen lX6_92 stX2_deepen (fnX2_deepen_ok _ _ cx27) (by decide) rfl (Nat.le_of_ble_eq_true rfl) (Nat.le_of_ble_eq_true rfl) rfl rfl ?_
  refine gb_istore (L' := [some (.ref p0), some (.int p1), some (.int p2), some (.int p3), some (.int x5), some (.ref a19), some (.int x27)]) dX6_lengthen_45 (by decide) rfl rfl ?_
  refine gb_iload dX6_lengthen_47 rfl ?_
  refine gb_ldc (v := (300000 : Int32)) dX6_lengthen_49 kX6_96 ?_
  refine gb_icmp_gt (tgt := 80) dX6_lengthen_51 (by decide) (fun c29 => ?_) (fun c29 => ?_)
  · replace hF := gb_ifT c29 hF
    exact gb_wk (fbX6_lengthen_80_ok h28 r hF) trivial
  · replace hF := gb_ifF c29 hF
    refine gb_aload dX6_lengthen_54 rfl ?_
    refine gb_aload_n dX6_lengthen_56 rfl rfl ?_
    obtain ⟨g30, hF⟩ := gb_gdE hF
    obtain ⟨a31, ea31, hF⟩ := gb_rdE hF
    refine gb_getR fX6_19 dX6_lengthen_57 (gb_kE g30) ea31 ?_
    refine gb_iload_n dX6_lengthen_60 rfl rfl ?_
    obtain ⟨g32, hF⟩ := gb_gdE hF
    obtain ⟨g33, hF⟩ := gb_gdE hF
    obtain ⟨a34, ea34, hF⟩ := gb_rdE hF
    refine gb_aald dX6_lengthen_61 (gb_kE g32) (by decide) (gb_inE g33) ea34 ?_
    refine gb_iload_n dX6_lengthen_62 rfl rfl ?_
    refine gb_iconst (v := (1 : Int32)) dX6_lengthen_63 (by decide) ?_
    refine gb_iadd dX6_lengthen_64 ?_
    refine gb_iload_n dX6_lengthen_65 rfl rfl ?_
    refine gb_icmp_lt (tgt := 73) dX6_lengthen_66 (by decide) (fun c35 => ?_) (fun c35 => ?_)
    · replace hF := gb_ifT c35 hF
      refine gb_iconst (v := (0 : Int32)) dX6_lengthen_73 (by decide) ?_
      exact gb_wk (fbX6_lengthen_74_ok p0 p1 x5 a19 x27 a19 a34 (0 : Int32) h28 r hF) (And.intro rfl (And.intro rfl (And.intro rfl (And.intro rfl (And.intro rfl trivial)))))
    · replace hF := gb_ifF c35 hF
      refine gb_iconst (v := (1 : Int32)) dX6_lengthen_69 (by decide) ?_
      refine gb_goto (tgt := 74) dX6_lengthen_70 (by decide) ?_
      exact gb_wk (fbX6_lengthen_74_ok p0 p1 x5 a19 x27 a19 a34 (1 : Int32) h28 r hF) (And.intro rfl (And.intro rfl (And.intro rfl (And.intro rfl (And.intro rfl trivial)))))
def fbX6_search_163 (k91 : Nat → Int32 → Int32 → Int32 → Int32 → Int32 → Int32 → gb_H → Option (Unit × gb_H)) (v0 : Nat) (v1 : Int32) (v3 : Int32) (v4 : Int32) (v5 : Int32) (v6 : Int32) (v7 : Int32) (h : gb_H) : Option (Unit × gb_H) :=
  gb_lt (v7 + (1 : Int32)) fun x1 =>
  k91 v0 v1 v3 v4 v5 v6 x1 h
theorem fbX6_search_163_ok {X : gb_X} {k91 : Nat → Int32 → Int32 → Int32 → Int32 → Int32 → Int32 → gb_H → Option (Unit × gb_H)} (hk91 : ∀ v0 v1 v3 v4 v5 v6 v7 h r, k91 v0 v1 v3 v4 v5 v6 v7 h = some r → gb_Ev X 6 mX6_search 91 [some (.ref v0), some (.int v1), none, some (.int v3), some (.int v4), some (.int v5), some (.int v6), some (.int v7)] [] h (gb_wV r)) (v0 : Nat) (v1 : Int32) (v3 : Int32) (v4 : Int32) (v5 : Int32) (v6 : Int32) (v7 : Int32) (h : gb_H) (r : Unit × gb_H) (hF : fbX6_search_163 k91 v0 v1 v3 v4 v5 v6 v7 h = some r) : gb_Ev X 6 mX6_search 163 [some (.ref v0), some (.int v1), none, some (.int v3), some (.int v4), some (.int v5), some (.int v6), some (.int v7)] [] h (gb_wV r) := by
  unfold fbX6_search_163 at hF
  obtain ⟨x1, ex1, hF⟩ := gb_ltE hF
  refine gb_iinc (v := x1) (L' := [some (.ref v0), some (.int v1), none, some (.int v3), some (.int v4), some (.int v5), some (.int v6), some (.int x1)]) dX6_search_163 rfl (by rw [ex1]; rfl) (by decide) rfl rfl ?_
  refine gb_goto (tgt := 91) dX6_search_166 (by decide) ?_
  exact gb_wk (hk91 v0 v1 v3 v4 v5 v6 x1 h r hF) (And.intro rfl (And.intro rfl (And.intro rfl (And.intro rfl (And.intro rfl (And.intro rfl (And.intro rfl trivial)))))))
def fbX6_search_133 (k91 : Nat → Int32 → Int32 → Int32 → Int32 → Int32 → Int32 → gb_H → Option (Unit × gb_H)) (v0 : Nat) (v1 : Int32) (v3 : Int32) (v4 : Int32) (v5 : Int32) (v6 : Int32) (v7 : Int32) (h : gb_H) : Option (Unit × gb_H) :=
  gb_lt (v6 + (-1 : Int32)) fun x1 =>
  fbX6_search_163 k91 v0 v1 v3 v4 v5 x1 v7 h
theorem fbX6_search_133_ok {X : gb_X} {k91 : Nat → Int32 → Int32 → Int32 → Int32 → Int32 → Int32 → gb_H → Option (Unit × gb_H)} (hk91 : ∀ v0 v1 v3 v4 v5 v6 v7 h r, k91 v0 v1 v3 v4 v5 v6 v7 h = some r → gb_Ev X 6 mX6_search 91 [some (.ref v0), some (.int v1), none, some (.int v3), some (.int v4), some (.int v5), some (.int v6), some (.int v7)] [] h (gb_wV r)) (v0 : Nat) (v1 : Int32) (v3 : Int32) (v4 : Int32) (v5 : Int32) (v6 : Int32) (v7 : Int32) (h : gb_H) (r : Unit × gb_H) (hF : fbX6_search_133 k91 v0 v1 v3 v4 v5 v6 v7 h = some r) : gb_Ev X 6 mX6_search 133 [some (.ref v0), some (.int v1), none, some (.int v3), some (.int v4), some (.int v5), some (.int v6), some (.int v7)] [] h (gb_wV r) := by
  unfold fbX6_search_133 at hF
  obtain ⟨x1, ex1, hF⟩ := gb_ltE hF
  refine gb_iinc (v := x1) (L' := [some (.ref v0), some (.int v1), none, some (.int v3), some (.int v4), some (.int v5), some (.int x1), some (.int v7)]) dX6_search_133 rfl (by rw [ex1]; rfl) (by decide) rfl rfl ?_
  refine gb_goto (tgt := 163) dX6_search_136 (by decide) ?_
  exact gb_wk (fbX6_search_163_ok hk91 v0 v1 v3 v4 v5 x1 v7 h r hF) (And.intro rfl (And.intro rfl (And.intro rfl (And.intro rfl (And.intro rfl (And.intro rfl (And.intro rfl trivial)))))))
def fbX6_search_169 (h : gb_H) : Option (Unit × gb_H) :=
  some ((), h)
theorem fbX6_search_169_ok {X : gb_X} (h : gb_H) (r : Unit × gb_H) (hF : fbX6_search_169 h = some r) : gb_Ev X 6 mX6_search 169 [none, none, none, none, none, none, none, none] [] h (gb_wV r) := by
  unfold fbX6_search_169 at hF
  cases hF
  exact gb_vret dX6_search_169 rfl
def fbX6_search_91 (k91 : Nat → Int32 → Int32 → Int32 → Int32 → Int32 → Int32 → gb_H → Option (Unit × gb_H)) (v0 : Nat) (v1 : Int32) (v3 : Int32) (v4 : Int32) (v5 : Int32) (v6 : Int32) (v7 : Int32) (h : gb_H) : Option (Unit × gb_H) :=
  if (10000 : Int32) ≤ v7 then
    fbX6_search_169 h
  else
    if v6 < 0 then
      fbX6_search_169 h
    else
      if v1 ≤ v6 then
        fbX6_search_133 k91 v0 v1 v3 v4 v5 v6 v7 h
      else
        if (3 : Int32) ≤ v6 then
          fbX6_search_133 k91 v0 v1 v3 v4 v5 v6 v7 h
        else
          gb_gd (gb_k h v0 6) <|
          gb_rd (gb_R h v0 5) fun a6 =>
          gb_gd (gb_k h a6 20) <|
          gb_gd (gb_in h a6 v6) <|
          gb_gd (gb_k h v0 6) <|
          gb_rd (gb_R h v0 0) fun a10 =>
          gb_gd (gb_k h a10 2) <|
          if (gb_I h a6 v6.toNatClampNeg) < (gb_I h a10 1) then
            gb_gd (gb_k h v0 6) <|
            gb_bd (fnX6_lengthen v0 v6 v1 v3 h) fun x14 h15 =>
            if x14 = 0 then
              fbX6_search_163 k91 v0 v1 v3 v4 v5 v6 v7 h15
            else
              gb_lt (v6 + (1 : Int32)) fun x17 =>
              gb_gd (gb_k h15 v0 6) <|
              gb_bd (fnX6_weigh v0 x17 v4 v5 h15) fun _ h20 =>
              fbX6_search_163 k91 v0 v1 v3 v4 v5 x17 v7 h20
          else
            fbX6_search_133 k91 v0 v1 v3 v4 v5 v6 v7 h
theorem fbX6_search_91_ok {X : gb_X} {k91 : Nat → Int32 → Int32 → Int32 → Int32 → Int32 → Int32 → gb_H → Option (Unit × gb_H)} (hk91 : ∀ v0 v1 v3 v4 v5 v6 v7 h r, k91 v0 v1 v3 v4 v5 v6 v7 h = some r → gb_Ev X 6 mX6_search 91 [some (.ref v0), some (.int v1), none, some (.int v3), some (.int v4), some (.int v5), some (.int v6), some (.int v7)] [] h (gb_wV r)) (v0 : Nat) (v1 : Int32) (v3 : Int32) (v4 : Int32) (v5 : Int32) (v6 : Int32) (v7 : Int32) (h : gb_H) (r : Unit × gb_H) (hF : fbX6_search_91 k91 v0 v1 v3 v4 v5 v6 v7 h = some r) : gb_Ev X 6 mX6_search 91 [some (.ref v0), some (.int v1), none, some (.int v3), some (.int v4), some (.int v5), some (.int v6), some (.int v7)] [] h (gb_wV r) := by
  unfold fbX6_search_91 at hF
  refine gb_iload dX6_search_91 rfl ?_
  refine gb_sipush (v := (10000 : Int32)) dX6_search_93 (by decide) ?_
  refine gb_icmp_ge (tgt := 169) dX6_search_96 (by decide) (fun c1 => ?_) (fun c1 => ?_)
  · replace hF := gb_ifT c1 hF
    exact gb_wk (fbX6_search_169_ok h r hF) trivial
  · replace hF := gb_ifF c1 hF
    refine gb_iload dX6_search_99 rfl ?_
    refine gb_if_lt (tgt := 169) dX6_search_101 (by decide) (fun c2 => ?_) (fun c2 => ?_)
    · replace hF := gb_ifT c2 hF
      exact gb_wk (fbX6_search_169_ok h r hF) trivial
    · replace hF := gb_ifF c2 hF
      refine gb_iload dX6_search_104 rfl ?_
      refine gb_iload_n dX6_search_106 rfl rfl ?_
      refine gb_icmp_ge (tgt := 133) dX6_search_107 (by decide) (fun c3 => ?_) (fun c3 => ?_)
      · replace hF := gb_ifT c3 hF
        exact gb_wk (fbX6_search_133_ok hk91 v0 v1 v3 v4 v5 v6 v7 h r hF) (And.intro rfl (And.intro rfl (And.intro rfl (And.intro rfl (And.intro rfl (And.intro rfl (And.intro rfl trivial)))))))
      · replace hF := gb_ifF c3 hF
        refine gb_iload dX6_search_110 rfl ?_
        refine gb_iconst (v := (3 : Int32)) dX6_search_112 (by decide) ?_
        refine gb_icmp_ge (tgt := 133) dX6_search_113 (by decide) (fun c4 => ?_) (fun c4 => ?_)
        · replace hF := gb_ifT c4 hF
          exact gb_wk (fbX6_search_133_ok hk91 v0 v1 v3 v4 v5 v6 v7 h r hF) (And.intro rfl (And.intro rfl (And.intro rfl (And.intro rfl (And.intro rfl (And.intro rfl (And.intro rfl trivial)))))))
        · replace hF := gb_ifF c4 hF
          refine gb_aload_n dX6_search_116 rfl rfl ?_
          obtain ⟨g5, hF⟩ := gb_gdE hF
          obtain ⟨a6, ea6, hF⟩ := gb_rdE hF
          refine gb_getR fX6_30 dX6_search_117 (gb_kE g5) ea6 ?_
          refine gb_iload dX6_search_120 rfl ?_
          obtain ⟨g7, hF⟩ := gb_gdE hF
          obtain ⟨g8, hF⟩ := gb_gdE hF
          refine gb_iald dX6_search_122 (gb_kE g7) (gb_inE g8) ?_
          refine gb_aload_n dX6_search_123 rfl rfl ?_
          obtain ⟨g9, hF⟩ := gb_gdE hF
          obtain ⟨a10, ea10, hF⟩ := gb_rdE hF
          refine gb_getR fX6_50 dX6_search_124 (gb_kE g9) ea10 ?_
          obtain ⟨g11, hF⟩ := gb_gdE hF
          refine gb_getI fX6_62 dX6_search_127 (gb_kE g11) ?_
          refine gb_icmp_lt (tgt := 139) dX6_search_130 (by decide) (fun c12 => ?_) (fun c12 => ?_)
          · replace hF := gb_ifT c12 hF
            refine gb_aload_n dX6_search_139 rfl rfl ?_
            refine gb_iload dX6_search_140 rfl ?_
            refine gb_iload_n dX6_search_142 rfl rfl ?_
            refine gb_iload_n dX6_search_143 rfl rfl ?_
            obtain ⟨g13, hF⟩ := gb_gdE hF
            obtain ⟨x14, h15, cx14, hF⟩ := gb_bdE hF
            refine gb_cV (As := [.int v6, .int v1, .int v3]) (S := []) (v := some (.int x14)) (h1 := h15) (S2 := [.int x14]) cf6 dX6_search_144 mtX6_lengthen lX6_82 inX6_lengthen seX6_lengthen (gb_kE g13) (fnX6_lengthen_ok _ _ cx14) (by decide) rfl (Nat.le_of_ble_eq_true rfl) (Nat.le_of_ble_eq_true rfl) rfl rfl ?_
            refine gb_if_eq (tgt := 163) dX6_search_147 (by decide) (fun c16 => ?_) (fun c16 => ?_)
            · replace hF := gb_ifT c16 hF
              exact gb_wk (fbX6_search_163_ok hk91 v0 v1 v3 v4 v5 v6 v7 h15 r hF) (And.intro rfl (And.intro rfl (And.intro rfl (And.intro rfl (And.intro rfl (And.intro rfl (And.intro rfl trivial)))))))
            · replace hF := gb_ifF c16 hF
              obtain ⟨x17, ex17, hF⟩ := gb_ltE hF
              refine gb_iinc (v := x17) (L' := [some (.ref v0), some (.int v1), none, some (.int v3), some (.int v4), some (.int v5), some (.int x17), some (.int v7)]) dX6_search_150 rfl (by rw [ex17]; rfl) (by decide) rfl rfl ?_
              refine gb_aload_n dX6_search_153 rfl rfl ?_
              refine gb_iload dX6_search_154 rfl ?_
              refine gb_iload dX6_search_156 rfl ?_
              refine gb_iload dX6_search_158 rfl ?_
              obtain ⟨g18, hF⟩ := gb_gdE hF
              obtain ⟨x19, h20, cx19, hF⟩ := gb_bdE hF
              refine gb_cV (As := [.int x17, .int v4, .int v5]) (S := []) (v := none) (h1 := h20) (S2 := []) cf6 dX6_search_160 mtX6_weigh lX6_78 inX6_weigh seX6_weigh (gb_kE g18) (fnX6_weigh_ok _ _ cx19) (by decide) rfl (Nat.le_of_ble_eq_true rfl) (Nat.le_of_ble_eq_true rfl) rfl rfl ?_
              exact gb_wk (fbX6_search_163_ok hk91 v0 v1 v3 v4 v5 x17 v7 h20 r hF) (And.intro rfl (And.intro rfl (And.intro rfl (And.intro rfl (And.intro rfl (And.intro rfl (And.intro rfl trivial)))))))
          · replace hF := gb_ifF c12 hF
            exact gb_wk (fbX6_search_133_ok hk91 v0 v1 v3 v4 v5 v6 v7 h r hF) (And.intro rfl (And.intro rfl (And.intro rfl (And.intro rfl (And.intro rfl (And.intro rfl (And.intro rfl trivial)))))))
def lpX6_search_91 (n : Nat) (v0 : Nat) (v1 : Int32) (v3 : Int32) (v4 : Int32) (v5 : Int32) (v6 : Int32) (v7 : Int32) (h : gb_H) : Option (Unit × gb_H) := gb_lp (σ := Nat × Int32 × Int32 × Int32 × Int32 × Int32 × Int32 × gb_H) (fun k s => fbX6_search_91 (fun v0 v1 v3 v4 v5 v6 v7 h => k (v0, v1, v3, v4, v5, v6, v7, h)) s.1 s.2.1 s.2.2.1 s.2.2.2.1 s.2.2.2.2.1 s.2.2.2.2.2.1 s.2.2.2.2.2.2.1 s.2.2.2.2.2.2.2) n (v0, v1, v3, v4, v5, v6, v7, h)
theorem lpX6_search_91_ok {X : gb_X}  (n : Nat) (v0 : Nat) (v1 : Int32) (v3 : Int32) (v4 : Int32) (v5 : Int32) (v6 : Int32) (v7 : Int32) (h : gb_H) (r : Unit × gb_H) (hF : lpX6_search_91 n v0 v1 v3 v4 v5 v6 v7 h = some r) : gb_Ev X 6 mX6_search 91 [some (.ref v0), some (.int v1), none, some (.int v3), some (.int v4), some (.int v5), some (.int v6), some (.int v7)] [] h (gb_wV r) := by
  exact gb_lpE (σ := Nat × Int32 × Int32 × Int32 × Int32 × Int32 × Int32 × gb_H) (P := fun s r => gb_Ev X 6 mX6_search 91 [some (.ref s.1), some (.int s.2.1), none, some (.int s.2.2.1), some (.int s.2.2.2.1), some (.int s.2.2.2.2.1), some (.int s.2.2.2.2.2.1), some (.int s.2.2.2.2.2.2.1)] [] s.2.2.2.2.2.2.2 (gb_wV r)) (fun k hk s r hs => fbX6_search_91_ok (fun v0 v1 v3 v4 v5 v6 v7 h r e => hk (v0, v1, v3, v4, v5, v6, v7, h) r e) _ _ _ _ _ _ _ _ r hs) n (v0, v1, v3, v4, v5, v6, v7, h) r hF
def fbX6_search_9 (k9 : Nat → Int32 → Int32 → Int32 → Int32 → Int32 → Int32 → gb_H → Option (Unit × gb_H)) (v0 : Nat) (v1 : Int32) (v2 : Int32) (v3 : Int32) (v4 : Int32) (v5 : Int32) (v6 : Int32) (h : gb_H) : Option (Unit × gb_H) :=
  gb_gd (gb_k h v0 6) <|
  gb_rd (gb_R h v0 0) fun a2 =>
  gb_gd (gb_k h a2 2) <|
  if (gb_I h a2 1) ≤ v6 then
    gb_gd (gb_k h v0 6) <|
    gb_lt (gb_sI h v0 7 (-1 : Int32)) fun h6 =>
    gb_gd (gb_k h6 v0 6) <|
    gb_rd (gb_R h6 v0 2) fun a8 =>
    gb_gd (gb_k h6 a8 30) <|
    gb_gd (gb_in h6 a8 (0 : Int32)) <|
    gb_rd (gb_R h6 a8 (0 : Int32).toNatClampNeg) fun a11 =>
    gb_gd (gb_k h6 a11 0) <|
    gb_bd (fnX0_begin a11 v2 h6) fun _ h14 =>
    gb_gd (gb_k h14 v0 6) <|
    gb_rd (gb_R h14 v0 3) fun a16 =>
    gb_gd (gb_k h14 a16 20) <|
    gb_gd (gb_in h14 a16 (0 : Int32)) <|
    gb_lt (gb_sI h14 a16 (0 : Int32).toNatClampNeg (1 : Int32)) fun h19 =>
    gb_gd (gb_k h19 v0 6) <|
    gb_rd (gb_R h19 v0 5) fun a21 =>
    gb_gd (gb_k h19 a21 20) <|
    gb_gd (gb_in h19 a21 (0 : Int32)) <|
    gb_lt (gb_sI h19 a21 (0 : Int32).toNatClampNeg (0 : Int32)) fun h24 =>
    gb_gd (gb_k h24 v0 6) <|
    gb_bd (fnX6_weigh v0 (0 : Int32) v4 v5 h24) fun _ h27 =>
    lpX6_search_91 gb_FU v0 v1 v3 v4 v5 (0 : Int32) (0 : Int32) h27
  else
    gb_gd (gb_k h v0 6) <|
    gb_rd (gb_R h v0 1) fun a29 =>
    gb_gd (gb_k h a29 34) <|
    gb_gd (gb_in h a29 v6) <|
    gb_rd (gb_R h a29 v6.toNatClampNeg) fun a32 =>
    gb_gd (gb_k h v0 6) <|
    gb_rd (gb_R h v0 0) fun a34 =>
    gb_gd (gb_k h a34 2) <|
    gb_rd (gb_R h a34 0) fun a36 =>
    gb_gd (gb_k h a36 35) <|
    gb_gd (gb_in h a36 v6) <|
    gb_rd (gb_R h a36 v6.toNatClampNeg) fun a39 =>
    gb_gd (gb_k h a32 4) <|
    gb_bd (fnX4_aim a32 a39 h) fun _ h42 =>
    gb_lt (v6 + (1 : Int32)) fun x43 =>
    k9 v0 v1 v2 v3 v4 v5 x43 h42
theorem fbX6_search_9_ok {X : gb_X} {k9 : Nat → Int32 → Int32 → Int32 → Int32 → Int32 → Int32 → gb_H → Option (Unit × gb_H)} (hk9 : ∀ v0 v1 v2 v3 v4 v5 v6 h r, k9 v0 v1 v2 v3 v4 v5 v6 h = some r → gb_Ev X 6 mX6_search 9 [some (.ref v0), some (.int v1), some (.int v2), some (.int v3), some (.int v4), some (.int v5), some (.int v6), none] [] h (gb_wV r)) (v0 : Nat) (v1 : Int32) (v2 : Int32) (v3 : Int32) (v4 : Int32) (v5 : Int32) (v6 : Int32) (h : gb_H) (r : Unit × gb_H) (hF : fbX6_search_9 k9 v0 v1 v2 v3 v4 v5 v6 h = some r) : gb_Ev X 6 mX6_search 9 [some (.ref v0), some (.int v1), some (.int v2), some (.int v3), some (.int v4), some (.int v5), some (.int v6), none] [] h (gb_wV r) := by
  unfold fbX6_search_9 at hF
  refine gb_iload dX6_search_9 rfl ?_
  refine gb_aload_n dX6_search_11 rfl rfl ?_
  obtain ⟨g1, hF⟩ := gb_gdE hF
  obtain ⟨a2, ea2, hF⟩ := gb_rdE hF
  refine gb_getR fX6_50 dX6_search_12 (gb_kE g1) ea2 ?_
  obtain ⟨g3, hF⟩ := gb_gdE hF
  refine gb_getI fX6_62 dX6_search_15 (gb_kE g3) ?_
  refine gb_icmp_ge (tgt := 47) dX6_search_18 (by decide) (fun c4 => ?_) (fun c4 => ?_)
  · replace hF := gb_ifT c4 hF
    refine gb_aload_n dX6_search_47 rfl rfl ?_
    refine gb_iconst (v := (-1 : Int32)) dX6_search_48 (by decide) ?_
    obtain ⟨g5, hF⟩ := gb_gdE hF
    obtain ⟨h6, eh6, hF⟩ := gb_ltE hF
    refine gb_putI fX6_36 (gb_nff nf6_7) dX6_search_49 (gb_kE g5) (fun _ => ⟨rfl, rfl⟩) (gb_hp eh6 ?_)
    refine gb_aload_n dX6_search_52 rfl rfl ?_
    obtain ⟨g7, hF⟩ := gb_gdE hF
    obtain ⟨a8, ea8, hF⟩ := gb_rdE hF
    refine gb_getR fX6_19 dX6_search_53 (gb_kE g7) ea8 ?_
    refine gb_iconst (v := (0 : Int32)) dX6_search_56 (by decide) ?_
    obtain ⟨g9, hF⟩ := gb_gdE hF
    obtain ⟨g10, hF⟩ := gb_gdE hF
    obtain ⟨a11, ea11, hF⟩ := gb_rdE hF
    refine gb_aald dX6_search_57 (gb_kE g9) (by decide) (gb_inE g10) ea11 ?_
    refine gb_iload_n dX6_search_58 rfl rfl ?_
    obtain ⟨g12, hF⟩ := gb_gdE hF
    obtain ⟨x13, h14, cx13, hF⟩ := gb_bdE hF
    refine gb_cV (As := [.int v2]) (S := []) (v := none) (h1 := h14) (S2 := []) cf0 dX6_search_59 mtX0_begin lX6_75 inX0_begin seX0_begin (gb_kE g12) (fnX0_begin_ok _ _ cx13) (by decide) rfl (Nat.le_of_ble_eq_true rfl) (Nat.le_of_ble_eq_true rfl) rfl rfl ?_
    refine gb_aload_n dX6_search_62 rfl rfl ?_
    obtain ⟨g15, hF⟩ := gb_gdE hF
    obtain ⟨a16, ea16, hF⟩ := gb_rdE hF
    refine gb_getR fX6_23 dX6_search_63 (gb_kE g15) ea16 ?_
    refine gb_iconst (v := (0 : Int32)) dX6_search_66 (by decide) ?_
    refine gb_iconst (v := (1 : Int32)) dX6_search_67 (by decide) ?_
    obtain ⟨g17, hF⟩ := gb_gdE hF
    obtain ⟨g18, hF⟩ := gb_gdE hF
    obtain ⟨h19, eh19, hF⟩ := gb_ltE hF
    refine gb_iast dX6_search_68 (gb_kE g17) (gb_inE g18) (gb_hp eh19 ?_)
    refine gb_aload_n dX6_search_69 rfl rfl ?_
    obtain ⟨g20, hF⟩ := gb_gdE hF
    obtain ⟨a21, ea21, hF⟩ := gb_rdE hF
    refine gb_getR fX6_30 dX6_search_70 (gb_kE g20) ea21 ?_
    refine gb_iconst (v := (0 : Int32)) dX6_search_73 (by decide) ?_
    refine gb_iconst (v := (0 : Int32)) dX6_search_74 (by decide) ?_
    obtain ⟨g22, hF⟩ := gb_gdE hF
    obtain ⟨g23, hF⟩ := gb_gdE hF
    obtain ⟨h24, eh24, hF⟩ := gb_ltE hF
    refine gb_iast dX6_search_75 (gb_kE g22) (gb_inE g23) (gb_hp eh24 ?_)
    refine gb_aload_n dX6_search_76 rfl rfl ?_
    refine gb_iconst (v := (0 : Int32)) dX6_search_77 (by decide) ?_
    refine gb_iload dX6_search_78 rfl ?_
    refine gb_iload dX6_search_80 rfl ?_
    obtain ⟨g25, hF⟩ := gb_gdE hF
    obtain ⟨x26, h27, cx26, hF⟩ := gb_bdE hF
    refine gb_cV (As := [.int (0 : Int32), .int v4, .int v5]) (S := []) (v := none) (h1 := h27) (S2 := []) cf6 dX6_search_82 mtX6_weigh lX6_78 inX6_weigh seX6_weigh (gb_kE g25) (fnX6_weigh_ok _ _ cx26) (by decide) rfl (Nat.le_of_ble_eq_true rfl) (Nat.le_of_ble_eq_true rfl) rfl rfl ?_
    refine gb_iconst (v := (0 : Int32)) dX6_search_85 (by decide) ?_
    refine gb_istore (L' := [some (.ref v0), some (.int v1), some (.int v2), some (.int v3), some (.int v4), some (.int v5), some (.int (0 : Int32)), none]) dX6_search_86 (by decide) rfl rfl ?_
    refine gb_iconst (v := (0 : Int32)) dX6_search_88 (by decide) ?_
    refine gb_istore (L' := [some (.ref v0), some (.int v1), some (.int v2), some (.int v3), some (.int v4), some (.int v5), some (.int (0 : Int32)), some (.int (0 : Int32))]) dX6_search_89 (by decide) rfl rfl ?_
    exact gb_wk (lpX6_search_91_ok gb_FU v0 v1 v3 v4 v5 (0 : Int32) (0 : Int32) h27 r hF) (And.intro rfl (And.intro rfl (And.intro rfl (And.intro rfl (And.intro rfl (And.intro rfl (And.intro rfl trivial)))))))
  · replace hF := gb_ifF c4 hF
    refine gb_aload_n dX6_search_21 rfl rfl ?_
    obtain ⟨g28, hF⟩ := gb_gdE hF
    obtain ⟨a29, ea29, hF⟩ := gb_rdE hF
    refine gb_getR fX6_11 dX6_search_22 (gb_kE g28) ea29 ?_
    refine gb_iload dX6_search_25 rfl ?_
    obtain ⟨g30, hF⟩ := gb_gdE hF
    obtain ⟨g31, hF⟩ := gb_gdE hF
    obtain ⟨a32, ea32, hF⟩ := gb_rdE hF
    refine gb_aald dX6_search_27 (gb_kE g30) (by decide) (gb_inE g31) ea32 ?_
    refine gb_aload_n dX6_search_28 rfl rfl ?_
    obtain ⟨g33, hF⟩ := gb_gdE hF
    obtain ⟨a34, ea34, hF⟩ := gb_rdE hF
    refine gb_getR fX6_50 dX6_search_29 (gb_kE g33) ea34 ?_
    obtain ⟨g35, hF⟩ := gb_gdE hF
    obtain ⟨a36, ea36, hF⟩ := gb_rdE hF
    refine gb_getR fX6_67 dX6_search_32 (gb_kE g35) ea36 ?_
    refine gb_iload dX6_search_35 rfl ?_
    obtain ⟨g37, hF⟩ := gb_gdE hF
    obtain ⟨g38, hF⟩ := gb_gdE hF
    obtain ⟨a39, ea39, hF⟩ := gb_rdE hF
    refine gb_aald dX6_search_37 (gb_kE g37) (by decide) (gb_inE g38) ea39 ?_
    obtain ⟨g40, hF⟩ := gb_gdE hF
    obtain ⟨x41, h42, cx41, hF⟩ := gb_bdE hF
    refine gb_cV (As := [.ref a39]) (S := []) (v := none) (h1 := h42) (S2 := []) cf4 dX6_search_38 mtX4_aim lX6_71 inX4_aim seX4_aim (gb_kE g40) (fnX4_aim_ok _ _ cx41) (by decide) rfl (Nat.le_of_ble_eq_true rfl) (Nat.le_of_ble_eq_true rfl) rfl rfl ?_
    obtain ⟨x43, ex43, hF⟩ := gb_ltE hF
    refine gb_iinc (v := x43) (L' := [some (.ref v0), some (.int v1), some (.int v2), some (.int v3), some (.int v4), some (.int v5), some (.int x43), none]) dX6_search_41 rfl (by rw [ex43]; rfl) (by decide) rfl rfl ?_
    refine gb_goto (tgt := 9) dX6_search_44 (by decide) ?_
    exact gb_wk (hk9 v0 v1 v2 v3 v4 v5 x43 h42 r hF) (And.intro rfl (And.intro rfl (And.intro rfl (And.intro rfl (And.intro rfl (And.intro rfl (And.intro rfl trivial)))))))
def lpX6_search_9 (n : Nat) (v0 : Nat) (v1 : Int32) (v2 : Int32) (v3 : Int32) (v4 : Int32) (v5 : Int32) (v6 : Int32) (h : gb_H) : Option (Unit × gb_H) := gb_lp (σ := Nat × Int32 × Int32 × Int32 × Int32 × Int32 × Int32 × gb_H) (fun k s => fbX6_search_9 (fun v0 v1 v2 v3 v4 v5 v6 h => k (v0, v1, v2, v3, v4, v5, v6, h)) s.1 s.2.1 s.2.2.1 s.2.2.2.1 s.2.2.2.2.1 s.2.2.2.2.2.1 s.2.2.2.2.2.2.1 s.2.2.2.2.2.2.2) n (v0, v1, v2, v3, v4, v5, v6, h)
theorem lpX6_search_9_ok {X : gb_X}  (n : Nat) (v0 : Nat) (v1 : Int32) (v2 : Int32) (v3 : Int32) (v4 : Int32) (v5 : Int32) (v6 : Int32) (h : gb_H) (r : Unit × gb_H) (hF : lpX6_search_9 n v0 v1 v2 v3 v4 v5 v6 h = some r) : gb_Ev X 6 mX6_search 9 [some (.ref v0), some (.int v1), some (.int v2), some (.int v3), some (.int v4), some (.int v5), some (.int v6), none] [] h (gb_wV r) := by
  exact gb_lpE (σ := Nat × Int32 × Int32 × Int32 × Int32 × Int32 × Int32 × gb_H) (P := fun s r => gb_Ev X 6 mX6_search 9 [some (.ref s.1), some (.int s.2.1), some (.int s.2.2.1), some (.int s.2.2.2.1), some (.int s.2.2.2.2.1), some (.int s.2.2.2.2.2.1), some (.int s.2.2.2.2.2.2.1), none] [] s.2.2.2.2.2.2.2 (gb_wV r)) (fun k hk s r hs => fbX6_search_9_ok (fun v0 v1 v2 v3 v4 v5 v6 h r e => hk (v0, v1, v2, v3, v4, v5, v6, h) r e) _ _ _ _ _ _ _ _ r hs) n (v0, v1, v2, v3, v4, v5, v6, h) r hF
def fnX6_search (p0 : Nat) (p1 : Int32) (p2 : Int32) (p3 : Int32) (p4 : Int32) (h : gb_H) : Option (Unit × gb_H) :=
  gb_bd (fnX0_orders p2 h) fun x1 h2 =>
  lpX6_search_9 gb_FU p0 p1 p2 p3 p4 x1 (0 : Int32) h2
theorem fnX6_search_ok {X : gb_X}  {p0 : Nat} {p1 : Int32} {p2 : Int32} {p3 : Int32} {p4 : Int32} (h : gb_H) (r : Unit × gb_H) (hF : fnX6_search p0 p1 p2 p3 p4 h = some r) : gb_Ev X 6 mX6_search 0 (gb_L0 [.ref p0, .int p1, .int p2, .int p3, .int p4]) [] h (gb_wV r) := by
  unfold fnX6_search at hF
  refine gb_weak (L' := [some (.ref p0), some (.int p1), some (.int p2), some (.int p3), some (.int p4), none, none, none]) (And.intro rfl (And.intro rfl (And.intro rfl (And.intro rfl (And.intro rfl trivial))))) ?_
  refine gb_iload_n dX6_search_0 rfl rfl ?_
  obtain ⟨x1, h2, cx1, hF⟩ := gb_bdE hF
  refine gb_cS (As := [.int p2]) (S := []) (v := some (.int x1)) (h1 := h2) (S2 := [.int x1]) dX6_search_1 mtX0_orders lX6_58 stX0_orders (fnX0_orders_ok _ _ cx1) (by decide) rfl (Nat.le_of_ble_eq_true rfl) (Nat.le_of_ble_eq_true rfl) rfl rfl ?_
  refine gb_istore (L' := [some (.ref p0), some (.int p1), some (.int p2), some (.int p3), some (.int p4), some (.int x1), none, none]) dX6_search_4 (by decide) rfl rfl ?_
  refine gb_iconst (v := (0 : Int32)) dX6_search_6 (by decide) ?_
  refine gb_istore (L' := [some (.ref p0), some (.int p1), some (.int p2), some (.int p3), some (.int p4), some (.int x1), some (.int (0 : Int32)), none]) dX6_search_7 (by decide) rfl rfl ?_
  exact gb_wk (lpX6_search_9_ok gb_FU p0 p1 p2 p3 p4 x1 (0 : Int32) h2 r hF) (And.intro rfl (And.intro rfl (And.intro rfl (And.intro rfl (And.intro rfl (And.intro rfl (And.intro rfl trivial)))))))
