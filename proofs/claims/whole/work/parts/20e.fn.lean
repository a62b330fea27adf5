def fbX10_init_48 (k48 : Nat → Int32 → gb_H → Option (Unit × gb_H)) (v0 : Nat) (v1 : Int32) (h : gb_H) : Option (Unit × gb_H) :=
  if (4 : Int32) ≤ v1 then
    gb_lt (gb_cn h) fun a2 =>
    gb_lt (gb_nw h 2 0 2) fun h3 =>
    gb_bd (fnX2_init a2 (8 : Int32) h3) fun _ h5 =>
    gb_gd (gb_k h5 v0 10) <|
    gb_lt (gb_sR h5 v0 3 (some a2)) fun h7 =>
    gb_lt (gb_cn h7) fun a8 =>
    gb_lt (gb_nw h7 3 0 8) fun h9 =>
    gb_bd (fnX3_init a8 h9) fun _ h11 =>
    gb_gd (gb_k h11 v0 10) <|
    gb_lt (gb_sR h11 v0 5 (some a8)) fun h13 =>
    gb_lt (gb_cn h13) fun a14 =>
    gb_lt (gb_nw h13 4 0 5) fun h15 =>
    gb_bd (fnX4_init a14 h15) fun _ h17 =>
    gb_gd (gb_k h17 v0 10) <|
    gb_lt (gb_sR h17 v0 7 (some a14)) fun h19 =>
    gb_lt (gb_cn h19) fun a20 =>
    gb_lt (gb_nw h19 6 0 10) fun h21 =>
    gb_gd (gb_k h21 v0 10) <|
    gb_rd (gb_R h21 v0 3) fun a23 =>
    gb_bd (fnX6_init a20 a23 h21) fun _ h25 =>
    gb_gd (gb_k h25 v0 10) <|
    gb_lt (gb_sR h25 v0 6 (some a20)) fun h27 =>
    gb_lt (gb_cn h27) fun a28 =>
    gb_lt (gb_nw h27 0 0 7) fun h29 =>
    gb_bd (fnX0_init a28 (17 : Int32) h29) fun _ h31 =>
    gb_gd (gb_k h31 v0 10) <|
    gb_lt (gb_sR h31 v0 8 (some a28)) fun h33 =>
    gb_lt (gb_cn h33) fun a34 =>
    gb_lt (gb_nw h33 0 0 7) fun h35 =>
    gb_bd (fnX0_init a34 (17 : Int32) h35) fun _ h37 =>
    gb_gd (gb_k h37 v0 10) <|
    gb_lt (gb_sR h37 v0 9 (some a34)) fun h39 =>
    gb_lt (gb_cn h39) fun a40 =>
    gb_lt (gb_nw h39 8 0 3) fun h41 =>
    gb_bd (fnX8_init a40 h41) fun _ h43 =>
    gb_gd (gb_k h43 v0 10) <|
    gb_lt (gb_sR h43 v0 10 (some a40)) fun h45 =>
    gb_lt (gb_cn h45) fun a46 =>
    gb_gd (gb_nn (3 : Int32) 4) <|
    gb_lt (gb_nw h45 20 (3 : Int32).toNatClampNeg (3 : Int32).toNatClampNeg) fun h48 =>
    gb_gd (gb_k h48 v0 10) <|
    gb_lt (gb_sR h48 v0 11 (some a46)) fun h50 =>
    gb_lt (gb_cn h50) fun a51 =>
    gb_gd (gb_nn (5 : Int32) 4) <|
    gb_lt (gb_nw h50 20 (5 : Int32).toNatClampNeg (5 : Int32).toNatClampNeg) fun h53 =>
    gb_gd (gb_k h53 v0 10) <|
    gb_lt (gb_sR h53 v0 12 (some a51)) fun h55 =>
    gb_gd (gb_k h55 v0 10) <|
    gb_lt (gb_sI h55 v0 14 (-1 : Int32)) fun h57 =>
    some ((), h57)
  else
    gb_gd (gb_k h v0 10) <|
    gb_rd (gb_R h v0 2) fun a59 =>
    gb_lt (gb_cn h) fun a60 =>
    gb_lt (gb_nw h 2 0 2) fun h61 =>
    gb_bd (fnX2_init a60 (16 : Int32) h61) fun _ h63 =>
    gb_gd (gb_k h63 a59 32) <|
    gb_gd (gb_in h63 a59 v1) <|
    gb_gd (gb_k h63 a60 2) <|
    gb_lt (gb_sR h63 a59 v1.toNatClampNeg (some a60)) fun h67 =>
    gb_gd (gb_k h67 v0 10) <|
    gb_rd (gb_R h67 v0 4) fun a69 =>
    gb_lt (gb_cn h67) fun a70 =>
    gb_lt (gb_nw h67 1 0 7) fun h71 =>
    gb_bd (fnX1_init a70 h71) fun _ h73 =>
    gb_gd (gb_k h73 a69 31) <|
    gb_gd (gb_in h73 a69 v1) <|
    gb_gd (gb_k h73 a70 1) <|
    gb_lt (gb_sR h73 a69 v1.toNatClampNeg (some a70)) fun h77 =>
    gb_lt (v1 + (1 : Int32)) fun x78 =>
    k48 v0 x78 h77
theorem fbX10_init_48_ok {X : gb_X} {k48 : Nat → Int32 → gb_H → Option (Unit × gb_H)} (hk48 : ∀ v0 v1 h r, k48 v0 v1 h = some r → gb_Ev X 5 mX10_init 48 [some (.ref v0), some (.int v1)] [] h (gb_wV r)) (v0 : Nat) (v1 : Int32) (h : gb_H) (r : Unit × gb_H) (hF : fbX10_init_48 k48 v0 v1 h = some r) : gb_Ev X 5 mX10_init 48 [some (.ref v0), some (.int v1)] [] h (gb_wV r) := by
  unfold fbX10_init_48 at hF
  refine gb_iload_n dX10_init_48 rfl rfl ?_
  refine gb_iconst (v := (4 : Int32)) dX10_init_49 (by decide) ?_
  refine gb_icmp_ge (tgt := 87) dX10_init_50 (by decide) (fun c1 => ?_) (fun c1 => ?_)
  · replace hF := gb_ifT c1 hF
    refine gb_aload_n dX10_init_87 rfl rfl ?_
    obtain ⟨a2, ea2, hF⟩ := gb_ltE hF
    obtain ⟨h3, eh3, hF⟩ := gb_ltE hF
    refine gb_new cf2 cX10_25 df2 dX10_init_88 (gb_hp eh3 (gb_topA ea2 ?_))
    refine gb_dup dX10_init_91 rfl ?_
    refine gb_bipush (v := (8 : Int32)) dX10_init_92 (by decide) ?_
    obtain ⟨x4, h5, cx4, hF⟩ := gb_bdE hF
    refine gb_callI (As := [.int (8 : Int32)]) (S := [.ref a2, .ref v0]) (h1 := h5) dX10_init_94 mtX2_init rfl rfl lX10_37 inX2_init (fnX2_init_ok _ _ cx4) (by decide) rfl (Nat.le_of_ble_eq_true rfl) (Nat.le_of_ble_eq_true rfl) rfl ?_
    obtain ⟨g6, hF⟩ := gb_gdE hF
    obtain ⟨h7, eh7, hF⟩ := gb_ltE hF
    refine gb_putR fX10_41 ffX10_41 dX10_init_97 (gb_kE g6) (fun _ => ⟨rfl, rfl⟩) (gb_hp eh7 ?_)
    refine gb_aload_n dX10_init_100 rfl rfl ?_
    obtain ⟨a8, ea8, hF⟩ := gb_ltE hF
    obtain ⟨h9, eh9, hF⟩ := gb_ltE hF
    refine gb_new cf3 cX10_45 df3 dX10_init_101 (gb_hp eh9 (gb_topA ea8 ?_))
    refine gb_dup dX10_init_104 rfl ?_
    obtain ⟨x10, h11, cx10, hF⟩ := gb_bdE hF
    refine gb_callI (As := []) (S := [.ref a8, .ref v0]) (h1 := h11) dX10_init_105 mtX3_init rfl rfl lX10_47 inX3_init (fnX3_init_ok _ _ cx10) (by decide) rfl (Nat.le_of_ble_eq_true rfl) (Nat.le_of_ble_eq_true rfl) rfl ?_
    obtain ⟨g12, hF⟩ := gb_gdE hF
    obtain ⟨h13, eh13, hF⟩ := gb_ltE hF
    refine gb_putR fX10_48 ffX10_48 dX10_init_108 (gb_kE g12) (fun _ => ⟨rfl, rfl⟩) (gb_hp eh13 ?_)
    refine gb_aload_n dX10_init_111 rfl rfl ?_
    obtain ⟨a14, ea14, hF⟩ := gb_ltE hF
    obtain ⟨h15, eh15, hF⟩ := gb_ltE hF
    refine gb_new cf4 cX10_52 df4 dX10_init_112 (gb_hp eh15 (gb_topA ea14 ?_))
    refine gb_dup dX10_init_115 rfl ?_
    obtain ⟨x16, h17, cx16, hF⟩ := gb_bdE hF
    refine gb_callI (As := []) (S := [.ref a14, .ref v0]) (h1 := h17) dX10_init_116 mtX4_init rfl rfl lX10_54 inX4_init (fnX4_init_ok _ _ cx16) (by decide) rfl (Nat.le_of_ble_eq_true rfl) (Nat.le_of_ble_eq_true rfl) rfl ?_
    obtain ⟨g18, hF⟩ := gb_gdE hF
    obtain ⟨h19, eh19, hF⟩ := gb_ltE hF
    refine gb_putR fX10_55 ffX10_55 dX10_init_119 (gb_kE g18) (fun _ => ⟨rfl, rfl⟩) (gb_hp eh19 ?_)
    refine gb_aload_n dX10_init_122 rfl rfl ?_
    obtain ⟨a20, ea20, hF⟩ := gb_ltE hF
    obtain ⟨h21, eh21, hF⟩ := gb_ltE hF
    refine gb_new cf6 cX10_59 df6 dX10_init_123 (gb_hp eh21 (gb_topA ea20 ?_))
    refine gb_dup dX10_init_126 rfl ?_
    refine gb_aload_n dX10_init_127 rfl rfl ?_
    obtain ⟨g22, hF⟩ := gb_gdE hF
    obtain ⟨a23, ea23, hF⟩ := gb_rdE hF
    refine gb_getR fX10_41 dX10_init_128 (gb_kE g22) ea23 ?_
    obtain ⟨x24, h25, cx24, hF⟩ := gb_bdE hF
    refine gb_callI (As := [.ref a23]) (S := [.ref a20, .ref v0]) (h1 := h25) dX10_init_131 mtX6_init rfl rfl lX10_61 inX6_init (fnX6_init_ok _ _ cx24) (by decide) rfl (Nat.le_of_ble_eq_true rfl) (Nat.le_of_ble_eq_true rfl) rfl ?_
    obtain ⟨g26, hF⟩ := gb_gdE hF
    obtain ⟨h27, eh27, hF⟩ := gb_ltE hF
    refine gb_putR fX10_64 ffX10_64 dX10_init_134 (gb_kE g26) (fun _ => ⟨rfl, rfl⟩) (gb_hp eh27 ?_)
    refine gb_aload_n dX10_init_137 rfl rfl ?_
    obtain ⟨a28, ea28, hF⟩ := gb_ltE hF
    obtain ⟨h29, eh29, hF⟩ := gb_ltE hF
    refine gb_new cf0 cX10_68 df0 dX10_init_138 (gb_hp eh29 (gb_topA ea28 ?_))
    refine gb_dup dX10_init_141 rfl ?_
    refine gb_bipush (v := (17 : Int32)) dX10_init_142 (by decide) ?_
    obtain ⟨x30, h31, cx30, hF⟩ := gb_bdE hF
    refine gb_callI (As := [.int (17 : Int32)]) (S := [.ref a28, .ref v0]) (h1 := h31) dX10_init_144 mtX0_init rfl rfl lX10_70 inX0_init (fnX0_init_ok _ _ cx30) (by decide) rfl (Nat.le_of_ble_eq_true rfl) (Nat.le_of_ble_eq_true rfl) rfl ?_
    obtain ⟨g32, hF⟩ := gb_gdE hF
    obtain ⟨h33, eh33, hF⟩ := gb_ltE hF
    refine gb_putR fX10_71 ffX10_71 dX10_init_147 (gb_kE g32) (fun _ => ⟨rfl, rfl⟩) (gb_hp eh33 ?_)
    refine gb_aload_n dX10_init_150 rfl rfl ?_
    obtain ⟨a34, ea34, hF⟩ := gb_ltE hF
    obtain ⟨h35, eh35, hF⟩ := gb_ltE hF
    refine gb_new cf0 cX10_68 df0 dX10_init_151 (gb_hp eh35 (gb_topA ea34 ?_))
    refine gb_dup dX10_init_154 rfl ?_
    refine gb_bipush (v := (17 : Int32)) dX10_init_155 (by decide) ?_
    obtain ⟨x36, h37, cx36, hF⟩ := gb_bdE hF
    refine gb_callI (As := [.int (17 : Int32)]) (S := [.ref a34, .ref v0]) (h1 := h37) dX10_init_157 mtX0_init rfl rfl lX10_70 inX0_init (fnX0_init_ok _ _ cx36) (by decide) rfl (Nat.le_of_ble_eq_true rfl) (Nat.le_of_ble_eq_true rfl) rfl ?_
    obtain ⟨g38, hF⟩ := gb_gdE hF
    obtain ⟨h39, eh39, hF⟩ := gb_ltE hF
    refine gb_putR fX10_75 ffX10_75 dX10_init_160 (gb_kE g38) (fun _ => ⟨rfl, rfl⟩) (gb_hp eh39 ?_)
    refine gb_aload_n dX10_init_163 rfl rfl ?_
    obtain ⟨a40, ea40, hF⟩ := gb_ltE hF
    obtain ⟨h41, eh41, hF⟩ := gb_ltE hF
    refine gb_new cf8 cX10_78 df8 dX10_init_164 (gb_hp eh41 (gb_topA ea40 ?_))
    refine gb_dup dX10_init_167 rfl ?_
    obtain ⟨x42, h43, cx42, hF⟩ := gb_bdE hF
    refine gb_callI (As := []) (S := [.ref a40, .ref v0]) (h1 := h43) dX10_init_168 mtX8_init rfl rfl lX10_80 inX8_init (fnX8_init_ok _ _ cx42) (by decide) rfl (Nat.le_of_ble_eq_true rfl) (Nat.le_of_ble_eq_true rfl) rfl ?_
    obtain ⟨g44, hF⟩ := gb_gdE hF
    obtain ⟨h45, eh45, hF⟩ := gb_ltE hF
    refine gb_putR fX10_81 ffX10_81 dX10_init_171 (gb_kE g44) (fun _ => ⟨rfl, rfl⟩) (gb_hp eh45 ?_)
    refine gb_aload_n dX10_init_174 rfl rfl ?_
    refine gb_iconst (v := (3 : Int32)) dX10_init_175 (by decide) ?_
    obtain ⟨a46, ea46, hF⟩ := gb_ltE hF
    obtain ⟨g47, hF⟩ := gb_gdE hF
    obtain ⟨h48, eh48, hF⟩ := gb_ltE hF
    refine gb_newa (t := 20) (by decide) rfl ac20 (gb_nnE g47).1 (gb_nnE g47).2 dX10_init_176 (gb_hp eh48 (gb_topA ea46 ?_))
    obtain ⟨g49, hF⟩ := gb_gdE hF
    obtain ⟨h50, eh50, hF⟩ := gb_ltE hF
    refine gb_putR fX10_85 ffX10_85 dX10_init_178 (gb_kE g49) (fun _ => ⟨rfl, rfl⟩) (gb_hp eh50 ?_)
    refine gb_aload_n dX10_init_181 rfl rfl ?_
    refine gb_iconst (v := (5 : Int32)) dX10_init_182 (by decide) ?_
    obtain ⟨a51, ea51, hF⟩ := gb_ltE hF
    obtain ⟨g52, hF⟩ := gb_gdE hF
    obtain ⟨h53, eh53, hF⟩ := gb_ltE hF
    refine gb_newa (t := 20) (by decide) rfl ac20 (gb_nnE g52).1 (gb_nnE g52).2 dX10_init_183 (gb_hp eh53 (gb_topA ea51 ?_))
    obtain ⟨g54, hF⟩ := gb_gdE hF
    obtain ⟨h55, eh55, hF⟩ := gb_ltE hF
    refine gb_putR fX10_89 ffX10_89 dX10_init_185 (gb_kE g54) (fun _ => ⟨rfl, rfl⟩) (gb_hp eh55 ?_)
    refine gb_aload_n dX10_init_188 rfl rfl ?_
    refine gb_iconst (v := (-1 : Int32)) dX10_init_189 (by decide) ?_
    obtain ⟨g56, hF⟩ := gb_gdE hF
    obtain ⟨h57, eh57, hF⟩ := gb_ltE hF
    refine gb_putI fX10_92 (gb_nff nf10_14) dX10_init_190 (gb_kE g56) (fun _ => ⟨rfl, rfl⟩) (gb_hp eh57 ?_)
    cases hF
    exact gb_vret dX10_init_193 rfl
  · replace hF := gb_ifF c1 hF
    refine gb_aload_n dX10_init_53 rfl rfl ?_
    obtain ⟨g58, hF⟩ := gb_gdE hF
    obtain ⟨a59, ea59, hF⟩ := gb_rdE hF
    refine gb_getR fX10_27 dX10_init_54 (gb_kE g58) ea59 ?_
    refine gb_iload_n dX10_init_57 rfl rfl ?_
    obtain ⟨a60, ea60, hF⟩ := gb_ltE hF
    obtain ⟨h61, eh61, hF⟩ := gb_ltE hF
    refine gb_new cf2 cX10_25 df2 dX10_init_58 (gb_hp eh61 (gb_topA ea60 ?_))
    refine gb_dup dX10_init_61 rfl ?_
    refine gb_bipush (v := (16 : Int32)) dX10_init_62 (by decide) ?_
    obtain ⟨x62, h63, cx62, hF⟩ := gb_bdE hF
    refine gb_callI (As := [.int (16 : Int32)]) (S := [.ref a60, .int v1, .ref a59]) (h1 := h63) dX10_init_64 mtX2_init rfl rfl lX10_37 inX2_init (fnX2_init_ok _ _ cx62) (by decide) rfl (Nat.le_of_ble_eq_true rfl) (Nat.le_of_ble_eq_true rfl) rfl ?_
    obtain ⟨g64, hF⟩ := gb_gdE hF
    obtain ⟨g65, hF⟩ := gb_gdE hF
    obtain ⟨g66, hF⟩ := gb_gdE hF
    obtain ⟨h67, eh67, hF⟩ := gb_ltE hF
    refine gb_aast cf2 dX10_init_67 (gb_kE g64) ⟨by decide, rfl⟩ (gb_kE g66) (gb_inE g65) (gb_hp eh67 ?_)
    refine gb_aload_n dX10_init_68 rfl rfl ?_
    obtain ⟨g68, hF⟩ := gb_gdE hF
    obtain ⟨a69, ea69, hF⟩ := gb_rdE hF
    refine gb_getR fX10_33 dX10_init_69 (gb_kE g68) ea69 ?_
    refine gb_iload_n dX10_init_72 rfl rfl ?_
    obtain ⟨a70, ea70, hF⟩ := gb_ltE hF
    obtain ⟨h71, eh71, hF⟩ := gb_ltE hF
    refine gb_new cf1 cX10_31 df1 dX10_init_73 (gb_hp eh71 (gb_topA ea70 ?_))
    refine gb_dup dX10_init_76 rfl ?_
    obtain ⟨x72, h73, cx72, hF⟩ := gb_bdE hF
    refine gb_callI (As := []) (S := [.ref a70, .int v1, .ref a69]) (h1 := h73) dX10_init_77 mtX1_init rfl rfl lX10_40 inX1_init (fnX1_init_ok _ _ cx72) (by decide) rfl (Nat.le_of_ble_eq_true rfl) (Nat.le_of_ble_eq_true rfl) rfl ?_
    obtain ⟨g74, hF⟩ := gb_gdE hF
    obtain ⟨g75, hF⟩ := gb_gdE hF
    obtain ⟨g76, hF⟩ := gb_gdE hF
    obtain ⟨h77, eh77, hF⟩ := gb_ltE hF
    refine gb_aast cf1 dX10_init_80 (gb_kE g74) ⟨by decide, rfl⟩ (gb_kE g76) (gb_inE g75) (gb_hp eh77 ?_)
    obtain ⟨x78, ex78, hF⟩ := gb_ltE hF
    refine gb_iinc (v := x78) (L' := [some (.ref v0), some (.int x78)]) dX10_init_81 rfl (by rw [ex78]; rfl) (by decide) rfl rfl ?_
    refine gb_goto (tgt := 48) dX10_init_84 (by decide) ?_
    exact gb_wk (hk48 v0 x78 h77 r hF) (And.intro rfl (And.intro rfl trivial))
def lpX10_init_48 (n : Nat) (v0 : Nat) (v1 : Int32) (h : gb_H) : Option (Unit × gb_H) := gb_lp (σ := Nat × Int32 × gb_H) (fun k s => fbX10_init_48 (fun v0 v1 h => k (v0, v1, h)) s.1 s.2.1 s.2.2) n (v0, v1, h)
theorem lpX10_init_48_ok {X : gb_X}  (n : Nat) (v0 : Nat) (v1 : Int32) (h : gb_H) (r : Unit × gb_H) (hF : lpX10_init_48 n v0 v1 h = some r) : gb_Ev X 5 mX10_init 48 [some (.ref v0), some (.int v1)] [] h (gb_wV r) := by
  exact gb_lpE (σ := Nat × Int32 × gb_H) (P := fun s r => gb_Ev X 5 mX10_init 48 [some (.ref s.1), some (.int s.2.1)] [] s.2.2 (gb_wV r)) (fun k hk s r hs => fbX10_init_48_ok (fun v0 v1 h r e => hk (v0, v1, h) r e) _ _ _ r hs) n (v0, v1, h) r hF
def fnX10_init (p0 : Nat) (h : gb_H) : Option (Unit × gb_H) :=
  gb_lt (gb_cn h) fun a1 =>
  gb_lt (gb_nw h 9 0 2) fun h2 =>
  gb_bd (fnX9_init a1 h2) fun _ h4 =>
  gb_gd (gb_k h4 p0 10) <|
  gb_lt (gb_sR h4 p0 0 (some a1)) fun h6 =>
  gb_lt (gb_cn h6) fun a7 =>
  gb_lt (gb_nw h6 7 0 7) fun h8 =>
  gb_gd (gb_k h8 p0 10) <|
  gb_rd (gb_R h8 p0 0) fun a10 =>
  gb_bd (fnX7_init a7 a10 h8) fun _ h12 =>
  gb_gd (gb_k h12 p0 10) <|
  gb_lt (gb_sR h12 p0 1 (some a7)) fun h14 =>
  gb_lt (gb_cn h14) fun a15 =>
  gb_gd (gb_nn (4 : Int32) 4) <|
  gb_lt (gb_nw h14 32 (4 : Int32).toNatClampNeg (4 : Int32).toNatClampNeg) fun h17 =>
  gb_gd (gb_k h17 p0 10) <|
  gb_lt (gb_sR h17 p0 2 (some a15)) fun h19 =>
  gb_lt (gb_cn h19) fun a20 =>
  gb_gd (gb_nn (4 : Int32) 4) <|
  gb_lt (gb_nw h19 31 (4 : Int32).toNatClampNeg (4 : Int32).toNatClampNeg) fun h22 =>
  gb_gd (gb_k h22 p0 10) <|
  gb_lt (gb_sR h22 p0 4 (some a20)) fun h24 =>
  lpX10_init_48 gb_FU p0 (0 : Int32) h24
theorem fnX10_init_ok {X : gb_X}  {p0 : Nat} (h : gb_H) (r : Unit × gb_H) (hF : fnX10_init p0 h = some r) : gb_Ev X 5 mX10_init 0 (gb_L0 [.ref p0]) [] h (gb_wV r) := by
  unfold fnX10_init at hF
  refine gb_weak (L' := [some (.ref p0), none]) (And.intro rfl trivial) ?_
  refine gb_aload_n dX10_init_0 rfl rfl ?_
  refine gb_objInit dX10_init_1 lX10_3 gb_oin gb_ocd (by decide) (Nat.le_of_ble_eq_true rfl) ?_
  refine gb_aload_n dX10_init_4 rfl rfl ?_
  obtain ⟨a1, ea1, hF⟩ := gb_ltE hF
  obtain ⟨h2, eh2, hF⟩ := gb_ltE hF
  refine gb_new cf9 cX10_9 df9 dX10_init_5 (gb_hp eh2 (gb_topA ea1 ?_))
  refine gb_dup dX10_init_8 rfl ?_
  obtain ⟨x3, h4, cx3, hF⟩ := gb_bdE hF
  refine gb_callI (As := []) (S := [.ref a1, .ref p0]) (h1 := h4) dX10_init_9 mtX9_init rfl rfl lX10_11 inX9_init (fnX9_init_ok _ _ cx3) (by decide) rfl (Nat.le_of_ble_eq_true rfl) (Nat.le_of_ble_eq_true rfl) rfl ?_
  obtain ⟨g5, hF⟩ := gb_gdE hF
  obtain ⟨h6, eh6, hF⟩ := gb_ltE hF
  refine gb_putR fX10_12 ffX10_12 dX10_init_12 (gb_kE g5) (fun _ => ⟨rfl, rfl⟩) (gb_hp eh6 ?_)
  refine gb_aload_n dX10_init_15 rfl rfl ?_
  obtain ⟨a7, ea7, hF⟩ := gb_ltE hF
  obtain ⟨h8, eh8, hF⟩ := gb_ltE hF
  refine gb_new cf7 cX10_16 df7 dX10_init_16 (gb_hp eh8 (gb_topA ea7 ?_))
  refine gb_dup dX10_init_19 rfl ?_
  refine gb_aload_n dX10_init_20 rfl rfl ?_
  obtain ⟨g9, hF⟩ := gb_gdE hF
  obtain ⟨a10, ea10, hF⟩ := gb_rdE hF
  refine gb_getR fX10_12 dX10_init_21 (gb_kE g9) ea10 ?_
  obtain ⟨x11, h12, cx11, hF⟩ := gb_bdE hF
  refine gb_callI (As := [.ref a10]) (S := [.ref a7, .ref p0]) (h1 := h12) dX10_init_24 mtX7_init rfl rfl lX10_18 inX7_init (fnX7_init_ok _ _ cx11) (by decide) rfl (Nat.le_of_ble_eq_true rfl) (Nat.le_of_ble_eq_true rfl) rfl ?_
  obtain ⟨g13, hF⟩ := gb_gdE hF
  obtain ⟨h14, eh14, hF⟩ := gb_ltE hF
  refine gb_putR fX10_21 ffX10_21 dX10_init_27 (gb_kE g13) (fun _ => ⟨rfl, rfl⟩) (gb_hp eh14 ?_)
  refine gb_aload_n dX10_init_30 rfl rfl ?_
  refine gb_iconst (v := (4 : Int32)) dX10_init_31 (by decide) ?_
  obtain ⟨a15, ea15, hF⟩ := gb_ltE hF
  obtain ⟨g16, hF⟩ := gb_gdE hF
  obtain ⟨h17, eh17, hF⟩ := gb_ltE hF
  refine gb_anew (t := 32) (by decide) rfl (by decide) cX10_25 (gb_nnE g16).1 (gb_nnE g16).2 dX10_init_32 (gb_hp eh17 (gb_topA ea15 ?_))
  obtain ⟨g18, hF⟩ := gb_gdE hF
  obtain ⟨h19, eh19, hF⟩ := gb_ltE hF
  refine gb_putR fX10_27 ffX10_27 dX10_init_35 (gb_kE g18) (fun _ => ⟨rfl, rfl⟩) (gb_hp eh19 ?_)
  refine gb_aload_n dX10_init_38 rfl rfl ?_
  refine gb_iconst (v := (4 : Int32)) dX10_init_39 (by decide) ?_
  obtain ⟨a20, ea20, hF⟩ := gb_ltE hF
  obtain ⟨g21, hF⟩ := gb_gdE hF
  obtain ⟨h22, eh22, hF⟩ := gb_ltE hF
  refine gb_anew (t := 31) (by decide) rfl (by decide) cX10_31 (gb_nnE g21).1 (gb_nnE g21).2 dX10_init_40 (gb_hp eh22 (gb_topA ea20 ?_))
  obtain ⟨g23, hF⟩ := gb_gdE hF
  obtain ⟨h24, eh24, hF⟩ := gb_ltE hF
  refine gb_putR fX10_33 ffX10_33 dX10_init_43 (gb_kE g23) (fun _ => ⟨rfl, rfl⟩) (gb_hp eh24 ?_)
  refine gb_iconst (v := (0 : Int32)) dX10_init_46 (by decide) ?_
  refine gb_istore_n (L' := [some (.ref p0), some (.int (0 : Int32))]) dX10_init_47 rfl (by decide) rfl rfl ?_
  exact gb_wk (lpX10_init_48_ok gb_FU p0 (0 : Int32) h24 r hF) (And.intro rfl (And.intro rfl trivial))
def fnX10_allow (p0 : Nat) (p1 : Int32) (h : gb_H) : Option (Int32 × gb_H) :=
  gb_gd (gb_k h p0 10) <|
  gb_lt (gb_sI h p0 15 (0 : Int32)) fun h2 =>
  some (p1, h2)
theorem fnX10_allow_ok {X : gb_X}  {p0 : Nat} {p1 : Int32} (h : gb_H) (r : Int32 × gb_H) (hF : fnX10_allow p0 p1 h = some r) : gb_Ev X 1 mX10_allow 0 (gb_L0 [.ref p0, .int p1]) [] h (gb_wI r) := by
  unfold fnX10_allow at hF
  refine gb_weak (L' := [some (.ref p0), some (.int p1)]) (And.intro rfl (And.intro rfl trivial)) ?_
  refine gb_aload_n dX10_allow_0 rfl rfl ?_
  refine gb_iconst (v := (0 : Int32)) dX10_allow_1 (by decide) ?_
  obtain ⟨g1, hF⟩ := gb_gdE hF
  obtain ⟨h2, eh2, hF⟩ := gb_ltE hF
  refine gb_putI fX10_256 (gb_nff nf10_15) dX10_allow_2 (gb_kE g1) (fun _ => ⟨rfl, rfl⟩) (gb_hp eh2 ?_)
  refine gb_iload_n dX10_allow_5 rfl rfl ?_
  cases hF
  exact gb_iret dX10_allow_6 rfl
def fbX10_areBits_15 (s0 : Int32) (h : gb_H) : Option (Int32 × gb_H) :=
  gb_gd (gb_b s0) <|
  some (s0, h)
theorem fbX10_areBits_15_ok {X : gb_X} (s0 : Int32) (h : gb_H) (r : Int32 × gb_H) (hF : fbX10_areBits_15 s0 h = some r) : gb_Ev X 1 mX10_areBits 15 [none] [.int s0] h (gb_wI r) := by
  unfold fbX10_areBits_15 at hF
  obtain ⟨g1, hF⟩ := gb_gdE hF
  cases hF
  exact gb_zret dX10_areBits_15 rfl (gb_bE g1)
def fbX10_areBits_14 (h : gb_H) : Option (Int32 × gb_H) :=
  fbX10_areBits_15 (0 : Int32) h
theorem fbX10_areBits_14_ok {X : gb_X} (h : gb_H) (r : Int32 × gb_H) (hF : fbX10_areBits_14 h = some r) : gb_Ev X 1 mX10_areBits 14 [none] [] h (gb_wI r) := by
  unfold fbX10_areBits_14 at hF
  refine gb_iconst (v := (0 : Int32)) dX10_areBits_14 (by decide) ?_
  exact gb_wk (fbX10_areBits_15_ok (0 : Int32) h r hF) trivial
def fnX10_areBits (p0 : Int32) (h : gb_H) : Option (Int32 × gb_H) :=
  if p0 < 0 then
    fbX10_areBits_14 h
  else
    if (32 : Int32) ≤ p0 then
      fbX10_areBits_14 h
    else
      fbX10_areBits_15 (1 : Int32) h
theorem fnX10_areBits_ok {X : gb_X}  {p0 : Int32} (h : gb_H) (r : Int32 × gb_H) (hF : fnX10_areBits p0 h = some r) : gb_Ev X 1 mX10_areBits 0 (gb_L0 [.int p0]) [] h (gb_wI r) := by
  unfold fnX10_areBits at hF
  refine gb_weak (L' := [some (.int p0)]) (And.intro rfl trivial) ?_
  refine gb_iload_n dX10_areBits_0 rfl rfl ?_
  refine gb_if_lt (tgt := 14) dX10_areBits_1 (by decide) (fun c1 => ?_) (fun c1 => ?_)
  · replace hF := gb_ifT c1 hF
    exact gb_wk (fbX10_areBits_14_ok h r hF) trivial
  · replace hF := gb_ifF c1 hF
    refine gb_iload_n dX10_areBits_4 rfl rfl ?_
    refine gb_bipush (v := (32 : Int32)) dX10_areBits_5 (by decide) ?_
    refine gb_icmp_ge (tgt := 14) dX10_areBits_7 (by decide) (fun c2 => ?_) (fun c2 => ?_)
    · replace hF := gb_ifT c2 hF
      exact gb_wk (fbX10_areBits_14_ok h r hF) trivial
    · replace hF := gb_ifF c2 hF
      refine gb_iconst (v := (1 : Int32)) dX10_areBits_10 (by decide) ?_
      refine gb_goto (tgt := 15) dX10_areBits_11 (by decide) ?_
      exact gb_wk (fbX10_areBits_15_ok (1 : Int32) h r hF) trivial
def fbX10_isBench_14 (s0 : Int32) (h : gb_H) : Option (Int32 × gb_H) :=
  gb_gd (gb_b s0) <|
  some (s0, h)
theorem fbX10_isBench_14_ok {X : gb_X} (s0 : Int32) (h : gb_H) (r : Int32 × gb_H) (hF : fbX10_isBench_14 s0 h = some r) : gb_Ev X 1 mX10_isBench 14 [none] [.int s0] h (gb_wI r) := by
  unfold fbX10_isBench_14 at hF
  obtain ⟨g1, hF⟩ := gb_gdE hF
  cases hF
  exact gb_zret dX10_isBench_14 rfl (gb_bE g1)
def fbX10_isBench_13 (h : gb_H) : Option (Int32 × gb_H) :=
  fbX10_isBench_14 (0 : Int32) h
theorem fbX10_isBench_13_ok {X : gb_X} (h : gb_H) (r : Int32 × gb_H) (hF : fbX10_isBench_13 h = some r) : gb_Ev X 1 mX10_isBench 13 [none] [] h (gb_wI r) := by
  unfold fbX10_isBench_13 at hF
  refine gb_iconst (v := (0 : Int32)) dX10_isBench_13 (by decide) ?_
  exact gb_wk (fbX10_isBench_14_ok (0 : Int32) h r hF) trivial
def fnX10_isBench (p0 : Int32) (h : gb_H) : Option (Int32 × gb_H) :=
  if p0 < 0 then
    fbX10_isBench_13 h
  else
    if (4 : Int32) ≤ p0 then
      fbX10_isBench_13 h
    else
      fbX10_isBench_14 (1 : Int32) h
theorem fnX10_isBench_ok {X : gb_X}  {p0 : Int32} (h : gb_H) (r : Int32 × gb_H) (hF : fnX10_isBench p0 h = some r) : gb_Ev X 1 mX10_isBench 0 (gb_L0 [.int p0]) [] h (gb_wI r) := by
  unfold fnX10_isBench at hF
  refine gb_weak (L' := [some (.int p0)]) (And.intro rfl trivial) ?_
  refine gb_iload_n dX10_isBench_0 rfl rfl ?_
  refine gb_if_lt (tgt := 13) dX10_isBench_1 (by decide) (fun c1 => ?_) (fun c1 => ?_)
  · replace hF := gb_ifT c1 hF
    exact gb_wk (fbX10_isBench_13_ok h r hF) trivial
  · replace hF := gb_ifF c1 hF
    refine gb_iload_n dX10_isBench_4 rfl rfl ?_
    refine gb_iconst (v := (4 : Int32)) dX10_isBench_5 (by decide) ?_
    refine gb_icmp_ge (tgt := 13) dX10_isBench_6 (by decide) (fun c2 => ?_) (fun c2 => ?_)
    · replace hF := gb_ifT c2 hF
      exact gb_wk (fbX10_isBench_13_ok h r hF) trivial
    · replace hF := gb_ifF c2 hF
      refine gb_iconst (v := (1 : Int32)) dX10_isBench_9 (by decide) ?_
      refine gb_goto (tgt := 14) dX10_isBench_10 (by decide) ?_
      exact gb_wk (fbX10_isBench_14_ok (1 : Int32) h r hF) trivial
def fnX10_refuse (p0 : Nat) (p1 : Int32) (h : gb_H) : Option (Int32 × gb_H) :=
  gb_gd (gb_k h p0 10) <|
  gb_lt (gb_sI h p0 15 p1) fun h2 =>
  some (p1, h2)
theorem fnX10_refuse_ok {X : gb_X}  {p0 : Nat} {p1 : Int32} (h : gb_H) (r : Int32 × gb_H) (hF : fnX10_refuse p0 p1 h = some r) : gb_Ev X 1 mX10_refuse 0 (gb_L0 [.ref p0, .int p1]) [] h (gb_wI r) := by
  unfold fnX10_refuse at hF
  refine gb_weak (L' := [some (.ref p0), some (.int p1)]) (And.intro rfl (And.intro rfl trivial)) ?_
  refine gb_aload_n dX10_refuse_0 rfl rfl ?_
  refine gb_iload_n dX10_refuse_1 rfl rfl ?_
  obtain ⟨g1, hF⟩ := gb_gdE hF
  obtain ⟨h2, eh2, hF⟩ := gb_ltE hF
  refine gb_putI fX10_256 (gb_nff nf10_15) dX10_refuse_2 (gb_kE g1) (fun _ => ⟨rfl, rfl⟩) (gb_hp eh2 ?_)
  refine gb_iload_n dX10_refuse_5 rfl rfl ?_
  cases hF
  exact gb_iret dX10_refuse_6 rfl
def fnX10_bench (p0 : Nat) (p1 : Int32) (h : gb_H) : Option (Int32 × gb_H) :=
  gb_bd (fnX10_isBench p1 h) fun x1 h2 =>
  if x1 = 0 then
    gb_gd (gb_k h2 p0 10) <|
    gb_rd (gb_R h2 p0 0) fun a5 =>
    gb_gd (gb_k h2 a5 9) <|
    gb_lt (gb_sI h2 a5 1 (0 : Int32)) fun h7 =>
    gb_gd (gb_k h7 p0 10) <|
    gb_bd (fnX10_refuse p0 (-2 : Int32) h7) fun x9 h10 =>
    some (x9, h10)
  else
    gb_gd (gb_k h2 p0 10) <|
    gb_rd (gb_R h2 p0 1) fun a12 =>
    gb_gd (gb_k h2 a12 7) <|
    gb_bd (fnX7_readParts a12 h2) fun x14 h15 =>
    gb_gd (gb_k h15 p0 10) <|
    gb_lt (gb_sI h15 p0 14 x14) fun h17 =>
    gb_gd (gb_k h17 p0 10) <|
    gb_rd (gb_R h17 p0 0) fun a19 =>
    gb_gd (gb_k h17 a19 9) <|
    gb_lt (gb_sI h17 a19 1 (0 : Int32)) fun h21 =>
    gb_gd (gb_k h21 p0 10) <|
    if (gb_I h21 p0 14) = (-1 : Int32) then
      gb_gd (gb_k h21 p0 10) <|
      gb_rd (gb_R h21 p0 2) fun a25 =>
      gb_gd (gb_k h21 a25 32) <|
      gb_gd (gb_in h21 a25 p1) <|
      gb_rd (gb_R h21 a25 p1.toNatClampNeg) fun a28 =>
      gb_gd (gb_k h21 p0 10) <|
      gb_rd (gb_R h21 p0 1) fun a30 =>
      gb_gd (gb_k h21 a30 7) <|
      gb_rd (gb_R h21 a30 1) fun a32 =>
      gb_gd (gb_k h21 a28 2) <|
      gb_bd (fnX2_copyAll a28 a32 h21) fun _ h35 =>
      gb_gd (gb_k h35 p0 10) <|
      gb_rd (gb_R h35 p0 4) fun a37 =>
      gb_gd (gb_k h35 a37 31) <|
      gb_gd (gb_in h35 a37 p1) <|
      gb_rd (gb_R h35 a37 p1.toNatClampNeg) fun a40 =>
      gb_gd (gb_k h35 a40 1) <|
      gb_lt (gb_sI h35 a40 6 (0 : Int32)) fun h42 =>
      gb_gd (gb_k h42 p0 10) <|
      gb_rd (gb_R h42 p0 2) fun a44 =>
      gb_gd (gb_k h42 a44 32) <|
      gb_gd (gb_in h42 a44 p1) <|
      gb_rd (gb_R h42 a44 p1.toNatClampNeg) fun a47 =>
      gb_gd (gb_k h42 a47 2) <|
      gb_gd (gb_k h42 p0 10) <|
      gb_bd (fnX10_allow p0 (gb_I h42 a47 1) h42) fun x50 h51 =>
      some (x50, h51)
    else
      gb_gd (gb_k h21 p0 10) <|
      gb_bd (fnX10_refuse p0 (-6 : Int32) h21) fun x53 h54 =>
      some (x53, h54)
theorem fnX10_bench_ok {X : gb_X}  {p0 : Nat} {p1 : Int32} (h : gb_H) (r : Int32 × gb_H) (hF : fnX10_bench p0 p1 h = some r) : gb_Ev X 12 mX10_bench 0 (gb_L0 [.ref p0, .int p1]) [] h (gb_wI r) := by
  unfold fnX10_bench at hF
  refine gb_weak (L' := [some (.ref p0), some (.int p1)]) (And.intro rfl (And.intro rfl trivial)) ?_
  refine gb_iload_n dX10_bench_0 rfl rfl ?_
  obtain ⟨x1, h2, cx1, hF⟩ := gb_bdE hF
  refine gb_cS (As := [.int p1]) (S := []) (v := some (.int x1)) (h1 := h2) (S2 := [.int x1]) dX10_bench_1 mtX10_isBench lX10_119 stX10_isBench (fnX10_isBench_ok _ _ cx1) (by decide) rfl (Nat.le_of_ble_eq_true rfl) (Nat.le_of_ble_eq_true rfl) rfl rfl ?_
  refine gb_if_ne (tgt := 22) dX10_bench_4 (by decide) (fun c3 => ?_) (fun c3 => ?_)
  · replace hF := gb_ifF c3 hF
    refine gb_aload_n dX10_bench_22 rfl rfl ?_
    refine gb_aload_n dX10_bench_23 rfl rfl ?_
    obtain ⟨g11, hF⟩ := gb_gdE hF
    obtain ⟨a12, ea12, hF⟩ := gb_rdE hF
    refine gb_getR fX10_21 dX10_bench_24 (gb_kE g11) ea12 ?_
    obtain ⟨g13, hF⟩ := gb_gdE hF
    obtain ⟨x14, h15, cx14, hF⟩ := gb_bdE hF
    refine gb_cV (As := []) (S := [.ref p0]) (v := some (.int x14)) (h1 := h15) (S2 := [.int x14, .ref p0]) cf7 dX10_bench_27 mtX7_readParts lX10_122 inX7_readParts seX7_readParts (gb_kE g13) (fnX7_readParts_ok _ _ cx14) (by decide) rfl (Nat.le_of_ble_eq_true rfl) (Nat.le_of_ble_eq_true rfl) rfl rfl ?_
    obtain ⟨g16, hF⟩ := gb_gdE hF
    obtain ⟨h17, eh17, hF⟩ := gb_ltE hF
    refine gb_putI fX10_92 (gb_nff nf10_14) dX10_bench_30 (gb_kE g16) (fun _ => ⟨rfl, rfl⟩) (gb_hp eh17 ?_)
    refine gb_aload_n dX10_bench_33 rfl rfl ?_
    obtain ⟨g18, hF⟩ := gb_gdE hF
    obtain ⟨a19, ea19, hF⟩ := gb_rdE hF
    refine gb_getR fX10_12 dX10_bench_34 (gb_kE g18) ea19 ?_
    refine gb_iconst (v := (0 : Int32)) dX10_bench_37 (by decide) ?_
    obtain ⟨g20, hF⟩ := gb_gdE hF
    obtain ⟨h21, eh21, hF⟩ := gb_ltE hF
    refine gb_putI fX10_116 (gb_nff nf9_1) dX10_bench_38 (gb_kE g20) (fun _ => ⟨rfl, rfl⟩) (gb_hp eh21 ?_)
    refine gb_aload_n dX10_bench_41 rfl rfl ?_
    obtain ⟨g22, hF⟩ := gb_gdE hF
    refine gb_getI fX10_92 dX10_bench_42 (gb_kE g22) ?_
    refine gb_iconst (v := (-1 : Int32)) dX10_bench_45 (by decide) ?_
    refine gb_icmp_eq (tgt := 56) dX10_bench_46 (by decide) (fun c23 => ?_) (fun c23 => ?_)
    · replace hF := gb_ifT c23 hF
      refine gb_aload_n dX10_bench_56 rfl rfl ?_
      obtain ⟨g24, hF⟩ := gb_gdE hF
      obtain ⟨a25, ea25, hF⟩ := gb_rdE hF
      refine gb_getR fX10_27 dX10_bench_57 (gb_kE g24) ea25 ?_
      refine gb_iload_n dX10_bench_60 rfl rfl ?_
      obtain ⟨g26, hF⟩ := gb_gdE hF
      obtain ⟨g27, hF⟩ := gb_gdE hF
      obtain ⟨a28, ea28, hF⟩ := gb_rdE hF
      refine gb_aald dX10_bench_61 (gb_kE g26) (by decide) (gb_inE g27) ea28 ?_
      refine gb_aload_n dX10_bench_62 rfl rfl ?_
      obtain ⟨g29, hF⟩ := gb_gdE hF
      obtain ⟨a30, ea30, hF⟩ := gb_rdE hF
      refine gb_getR fX10_21 dX10_bench_63 (gb_kE g29) ea30 ?_
      obtain ⟨g31, hF⟩ := gb_gdE hF
      obtain ⟨a32, ea32, hF⟩ := gb_rdE hF
      refine gb_getR fX10_126 dX10_bench_66 (gb_kE g31) ea32 ?_
      obtain ⟨g33, hF⟩ := gb_gdE hF
      obtain ⟨x34, h35, cx34, hF⟩ := gb_bdE hF
      refine gb_cV (As := [.ref a32]) (S := []) (v := none) (h1 := h35) (S2 := []) cf2 dX10_bench_69 mtX2_copyAll lX10_129 inX2_copyAll seX2_copyAll (gb_kE g33) (fnX2_copyAll_ok _ _ cx34) (by decide) rfl (Nat.le_of_ble_eq_true rfl) (Nat.le_of_ble_eq_true rfl) rfl rfl ?_
      refine gb_aload_n dX10_bench_72 rfl rfl ?_
      obtain ⟨g36, hF⟩ := gb_gdE hF
      obtain ⟨a37, ea37, hF⟩ := gb_rdE hF
      refine gb_getR fX10_33 dX10_bench_73 (gb_kE g36) ea37 ?_
      refine gb_iload_n dX10_bench_76 rfl rfl ?_
      obtain ⟨g38, hF⟩ := gb_gdE hF
      obtain ⟨g39, hF⟩ := gb_gdE hF
      obtain ⟨a40, ea40, hF⟩ := gb_rdE hF
      refine gb_aald dX10_bench_77 (gb_kE g38) (by decide) (gb_inE g39) ea40 ?_
      refine gb_iconst (v := (0 : Int32)) dX10_bench_78 (by decide) ?_
      obtain ⟨g41, hF⟩ := gb_gdE hF
      obtain ⟨h42, eh42, hF⟩ := gb_ltE hF
      refine gb_putI fX10_132 (gb_nff nf1_6) dX10_bench_79 (gb_kE g41) (fun _ => ⟨by decide, by decide⟩) (gb_hp eh42 ?_)
      refine gb_aload_n dX10_bench_82 rfl rfl ?_
      refine gb_aload_n dX10_bench_83 rfl rfl ?_
      obtain ⟨g43, hF⟩ := gb_gdE hF
      obtain ⟨a44, ea44, hF⟩ := gb_rdE hF
      refine gb_getR fX10_27 dX10_bench_84 (gb_kE g43) ea44 ?_
      refine gb_iload_n dX10_bench_87 rfl rfl ?_
      obtain ⟨g45, hF⟩ := gb_gdE hF
      obtain ⟨g46, hF⟩ := gb_gdE hF
      obtain ⟨a47, ea47, hF⟩ := gb_rdE hF
      refine gb_aald dX10_bench_88 (gb_kE g45) (by decide) (gb_inE g46) ea47 ?_
      obtain ⟨g48, hF⟩ := gb_gdE hF
      refine gb_getI fX10_136 dX10_bench_89 (gb_kE g48) ?_
      obtain ⟨g49, hF⟩ := gb_gdE hF
      obtain ⟨x50, h51, cx50, hF⟩ := gb_bdE hF
      refine gb_cV (As := [.int (gb_I h42 a47 1)]) (S := []) (v := some (.int x50)) (h1 := h51) (S2 := [.int x50]) cf10 dX10_bench_92 mtX10_allow lX10_106 inX10_allow seX10_allow (gb_kE g49) (fnX10_allow_ok _ _ cx50) (by decide) rfl (Nat.le_of_ble_eq_true rfl) (Nat.le_of_ble_eq_true rfl) rfl rfl ?_
      cases hF
      exact gb_iret dX10_bench_95 rfl
    · replace hF := gb_ifF c23 hF
      refine gb_aload_n dX10_bench_49 rfl rfl ?_
      refine gb_bipush (v := (-6 : Int32)) dX10_bench_50 (by decide) ?_
      obtain ⟨g52, hF⟩ := gb_gdE hF
      obtain ⟨x53, h54, cx53, hF⟩ := gb_bdE hF
      refine gb_cV (As := [.int (-6 : Int32)]) (S := []) (v := some (.int x53)) (h1 := h54) (S2 := [.int x53]) cf10 dX10_bench_52 mtX10_refuse lX10_96 inX10_refuse seX10_refuse (gb_kE g52) (fnX10_refuse_ok _ _ cx53) (by decide) rfl (Nat.le_of_ble_eq_true rfl) (Nat.le_of_ble_eq_true rfl) rfl rfl ?_
      cases hF
      exact gb_iret dX10_bench_55 rfl
  · replace hF := gb_ifT c3 hF
    refine gb_aload_n dX10_bench_7 rfl rfl ?_
    obtain ⟨g4, hF⟩ := gb_gdE hF
    obtain ⟨a5, ea5, hF⟩ := gb_rdE hF
    refine gb_getR fX10_12 dX10_bench_8 (gb_kE g4) ea5 ?_
    refine gb_iconst (v := (0 : Int32)) dX10_bench_11 (by decide) ?_
    obtain ⟨g6, hF⟩ := gb_gdE hF
    obtain ⟨h7, eh7, hF⟩ := gb_ltE hF
    refine gb_putI fX10_116 (gb_nff nf9_1) dX10_bench_12 (gb_kE g6) (fun _ => ⟨rfl, rfl⟩) (gb_hp eh7 ?_)
    refine gb_aload_n dX10_bench_15 rfl rfl ?_
    refine gb_bipush (v := (-2 : Int32)) dX10_bench_16 (by decide) ?_
    obtain ⟨g8, hF⟩ := gb_gdE hF
    obtain ⟨x9, h10, cx9, hF⟩ := gb_bdE hF
    refine gb_cV (As := [.int (-2 : Int32)]) (S := []) (v := some (.int x9)) (h1 := h10) (S2 := [.int x9]) cf10 dX10_bench_18 mtX10_refuse lX10_96 inX10_refuse seX10_refuse (gb_kE g8) (fnX10_refuse_ok _ _ cx9) (by decide) rfl (Nat.le_of_ble_eq_true rfl) (Nat.le_of_ble_eq_true rfl) rfl rfl ?_
    cases hF
    exact gb_iret dX10_bench_21 rfl
def fbX10_build_46 (k46 : Nat → Int32 → Nat → Int32 → gb_H → Option (Int32 × gb_H)) (v0 : Nat) (v1 : Int32) (v2 : Nat) (v3 : Int32) (h : gb_H) : Option (Int32 × gb_H) :=
  gb_gd (gb_k h v0 10) <|
  gb_rd (gb_R h v0 6) fun a2 =>
  gb_gd (gb_k h a2 6) <|
  if (gb_I h a2 7) ≤ v3 then
    gb_gd (gb_k h v0 10) <|
    gb_rd (gb_R h v0 4) fun a6 =>
    gb_gd (gb_k h a6 31) <|
    gb_gd (gb_in h a6 v1) <|
    gb_rd (gb_R h a6 v1.toNatClampNeg) fun a9 =>
    gb_gd (gb_k h a9 1) <|
    gb_lt (gb_sI h a9 6 (0 : Int32)) fun h11 =>
    gb_gd (gb_k h11 v2 2) <|
    gb_gd (gb_k h11 v0 10) <|
    gb_bd (fnX10_allow v0 (gb_I h11 v2 1) h11) fun x14 h15 =>
    some (x14, h15)
  else
    gb_gd (gb_k h v0 10) <|
    gb_rd (gb_R h v0 3) fun a17 =>
    gb_gd (gb_k h a17 2) <|
    gb_rd (gb_R h a17 0) fun a19 =>
    gb_gd (gb_k h v0 10) <|
    gb_rd (gb_R h v0 6) fun a21 =>
    gb_gd (gb_k h a21 6) <|
    gb_rd (gb_R h a21 6) fun a23 =>
    gb_gd (gb_k h a23 20) <|
    gb_gd (gb_in h a23 v3) <|
    gb_lt (gb_I h a23 v3.toNatClampNeg) fun x26 =>
    gb_gd (gb_k h a19 35) <|
    gb_gd (gb_in h a19 x26) <|
    gb_rd (gb_R h a19 x26.toNatClampNeg) fun a29 =>
    gb_gd (gb_k h v2 2) <|
    gb_bd (fnX2_append v2 a29 h) fun _ h32 =>
    gb_lt (v3 + (1 : Int32)) fun x33 =>
    k46 v0 v1 v2 x33 h32
theorem fbX10_build_46_ok {X : gb_X} {k46 : Nat → Int32 → Nat → Int32 → gb_H → Option (Int32 × gb_H)} (hk46 : ∀ v0 v1 v2 v3 h r, k46 v0 v1 v2 v3 h = some r → gb_Ev X 3 mX10_build 46 [some (.ref v0), some (.int v1), some (.ref v2), some (.int v3)] [] h (gb_wI r)) (v0 : Nat) (v1 : Int32) (v2 : Nat) (v3 : Int32) (h : gb_H) (r : Int32 × gb_H) (hF : fbX10_build_46 k46 v0 v1 v2 v3 h = some r) : gb_Ev X 3 mX10_build 46 [some (.ref v0), some (.int v1), some (.ref v2), some (.int v3)] [] h (gb_wI r) := by
  unfold fbX10_build_46 at hF
  refine gb_iload_n dX10_build_46 rfl rfl ?_
  refine gb_aload_n dX10_build_47 rfl rfl ?_
  obtain ⟨g1, hF⟩ := gb_gdE hF
  obtain ⟨a2, ea2, hF⟩ := gb_rdE hF
  refine gb_getR fX10_64 dX10_build_48 (gb_kE g1) ea2 ?_
  obtain ⟨g3, hF⟩ := gb_gdE hF
  refine gb_getI fX10_247 dX10_build_51 (gb_kE g3) ?_
  refine gb_icmp_ge (tgt := 84) dX10_build_54 (by decide) (fun c4 => ?_) (fun c4 => ?_)
  · replace hF := gb_ifT c4 hF
    refine gb_aload_n dX10_build_84 rfl rfl ?_
    obtain ⟨g5, hF⟩ := gb_gdE hF
    obtain ⟨a6, ea6, hF⟩ := gb_rdE hF
    refine gb_getR fX10_33 dX10_build_85 (gb_kE g5) ea6 ?_
    refine gb_iload_n dX10_build_88 rfl rfl ?_
    obtain ⟨g7, hF⟩ := gb_gdE hF
    obtain ⟨g8, hF⟩ := gb_gdE hF
    obtain ⟨a9, ea9, hF⟩ := gb_rdE hF
    refine gb_aald dX10_build_89 (gb_kE g7) (by decide) (gb_inE g8) ea9 ?_
    refine gb_iconst (v := (0 : Int32)) dX10_build_90 (by decide) ?_
    obtain ⟨g10, hF⟩ := gb_gdE hF
    obtain ⟨h11, eh11, hF⟩ := gb_ltE hF
    refine gb_putI fX10_132 (gb_nff nf1_6) dX10_build_91 (gb_kE g10) (fun _ => ⟨by decide, by decide⟩) (gb_hp eh11 ?_)
    refine gb_aload_n dX10_build_94 rfl rfl ?_
    refine gb_aload_n dX10_build_95 rfl rfl ?_
    obtain ⟨g12, hF⟩ := gb_gdE hF
    refine gb_getI fX10_136 dX10_build_96 (gb_kE g12) ?_
    obtain ⟨g13, hF⟩ := gb_gdE hF
    obtain ⟨x14, h15, cx14, hF⟩ := gb_bdE hF
    refine gb_cV (As := [.int (gb_I h11 v2 1)]) (S := []) (v := some (.int x14)) (h1 := h15) (S2 := [.int x14]) cf10 dX10_build_99 mtX10_allow lX10_106 inX10_allow seX10_allow (gb_kE g13) (fnX10_allow_ok _ _ cx14) (by decide) rfl (Nat.le_of_ble_eq_true rfl) (Nat.le_of_ble_eq_true rfl) rfl rfl ?_
    cases hF
    exact gb_iret dX10_build_102 rfl
  · replace hF := gb_ifF c4 hF
    refine gb_aload_n dX10_build_57 rfl rfl ?_
    refine gb_aload_n dX10_build_58 rfl rfl ?_
    obtain ⟨g16, hF⟩ := gb_gdE hF
    obtain ⟨a17, ea17, hF⟩ := gb_rdE hF
    refine gb_getR fX10_41 dX10_build_59 (gb_kE g16) ea17 ?_
    obtain ⟨g18, hF⟩ := gb_gdE hF
    obtain ⟨a19, ea19, hF⟩ := gb_rdE hF
    refine gb_getR fX10_142 dX10_build_62 (gb_kE g18) ea19 ?_
    refine gb_aload_n dX10_build_65 rfl rfl ?_
    obtain ⟨g20, hF⟩ := gb_gdE hF
    obtain ⟨a21, ea21, hF⟩ := gb_rdE hF
    refine gb_getR fX10_64 dX10_build_66 (gb_kE g20) ea21 ?_
    obtain ⟨g22, hF⟩ := gb_gdE hF
    obtain ⟨a23, ea23, hF⟩ := gb_rdE hF
    refine gb_getR fX10_253 dX10_build_69 (gb_kE g22) ea23 ?_
    refine gb_iload_n dX10_build_72 rfl rfl ?_
    obtain ⟨g24, hF⟩ := gb_gdE hF
    obtain ⟨g25, hF⟩ := gb_gdE hF
    refine gb_iald dX10_build_73 (gb_kE g24) (gb_inE g25) ?_
    obtain ⟨x26, ex26, hF⟩ := gb_ltE hF
    refine gb_topI ex26 ?_
    obtain ⟨g27, hF⟩ := gb_gdE hF
    obtain ⟨g28, hF⟩ := gb_gdE hF
    obtain ⟨a29, ea29, hF⟩ := gb_rdE hF
    refine gb_aald dX10_build_74 (gb_kE g27) (by decide) (gb_inE g28) ea29 ?_
    obtain ⟨g30, hF⟩ := gb_gdE hF
    obtain ⟨x31, h32, cx31, hF⟩ := gb_bdE hF
    refine gb_cV (As := [.ref a29]) (S := []) (v := none) (h1 := h32) (S2 := []) cf2 dX10_build_75 mtX2_append lX10_146 inX2_append seX2_append (gb_kE g30) (fnX2_append_ok _ _ cx31) (by decide) rfl (Nat.le_of_ble_eq_true rfl) (Nat.le_of_ble_eq_true rfl) rfl rfl ?_
    obtain ⟨x33, ex33, hF⟩ := gb_ltE hF
    refine gb_iinc (v := x33) (L' := [some (.ref v0), some (.int v1), some (.ref v2), some (.int x33)]) dX10_build_78 rfl (by rw [ex33]; rfl) (by decide) rfl rfl ?_
    refine gb_goto (tgt := 46) dX10_build_81 (by decide) ?_
    exact gb_wk (hk46 v0 v1 v2 x33 h32 r hF) (And.intro rfl (And.intro rfl (And.intro rfl (And.intro rfl trivial))))
def lpX10_build_46 (n : Nat) (v0 : Nat) (v1 : Int32) (v2 : Nat) (v3 : Int32) (h : gb_H) : Option (Int32 × gb_H) := gb_lp (σ := Nat × Int32 × Nat × Int32 × gb_H) (fun k s => fbX10_build_46 (fun v0 v1 v2 v3 h => k (v0, v1, v2, v3, h)) s.1 s.2.1 s.2.2.1 s.2.2.2.1 s.2.2.2.2) n (v0, v1, v2, v3, h)
theorem lpX10_build_46_ok {X : gb_X}  (n : Nat) (v0 : Nat) (v1 : Int32) (v2 : Nat) (v3 : Int32) (h : gb_H) (r : Int32 × gb_H) (hF : lpX10_build_46 n v0 v1 v2 v3 h = some r) : gb_Ev X 3 mX10_build 46 [some (.ref v0), some (.int v1), some (.ref v2), some (.int v3)] [] h (gb_wI r) := by
  exact gb_lpE (σ := Nat × Int32 × Nat × Int32 × gb_H) (P := fun s r => gb_Ev X 3 mX10_build 46 [some (.ref s.1), some (.int s.2.1), some (.ref s.2.2.1), some (.int s.2.2.2.1)] [] s.2.2.2.2 (gb_wI r)) (fun k hk s r hs => fbX10_build_46_ok (fun v0 v1 v2 v3 h r e => hk (v0, v1, v2, v3, h) r e) _ _ _ _ _ r hs) n (v0, v1, v2, v3, h) r hF
def fnX10_build (p0 : Nat) (p1 : Int32) (h : gb_H) : Option (Int32 × gb_H) :=
  gb_bd (fnX10_isBench p1 h) fun x1 h2 =>
  if x1 = 0 then
    gb_gd (gb_k h2 p0 10) <|
    gb_bd (fnX10_refuse p0 (-2 : Int32) h2) fun x5 h6 =>
    some (x5, h6)
  else
    gb_gd (gb_k h2 p0 10) <|
    gb_rd (gb_R h2 p0 6) fun a8 =>
    gb_gd (gb_k h2 a8 6) <|
    if (gb_I h2 a8 7) = (-1 : Int32) then
      gb_gd (gb_k h2 p0 10) <|
      gb_bd (fnX10_refuse p0 (-6 : Int32) h2) fun x12 h13 =>
      some (x12, h13)
    else
      gb_gd (gb_k h2 p0 10) <|
      gb_rd (gb_R h2 p0 2) fun a15 =>
      gb_gd (gb_k h2 a15 32) <|
      gb_gd (gb_in h2 a15 p1) <|
      gb_rd (gb_R h2 a15 p1.toNatClampNeg) fun a18 =>
      gb_gd (gb_k h2 a18 2) <|
      gb_lt (gb_sI h2 a18 1 (0 : Int32)) fun h20 =>
      lpX10_build_46 gb_FU p0 p1 a18 (0 : Int32) h20
theorem fnX10_build_ok {X : gb_X}  {p0 : Nat} {p1 : Int32} (h : gb_H) (r : Int32 × gb_H) (hF : fnX10_build p0 p1 h = some r) : gb_Ev X 3 mX10_build 0 (gb_L0 [.ref p0, .int p1]) [] h (gb_wI r) := by
  unfold fnX10_build at hF
  refine gb_weak (L' := [some (.ref p0), some (.int p1), none, none]) (And.intro rfl (And.intro rfl trivial)) ?_
  refine gb_iload_n dX10_build_0 rfl rfl ?_
  obtain ⟨x1, h2, cx1, hF⟩ := gb_bdE hF
  refine gb_cS (As := [.int p1]) (S := []) (v := some (.int x1)) (h1 := h2) (S2 := [.int x1]) dX10_build_1 mtX10_isBench lX10_119 stX10_isBench (fnX10_isBench_ok _ _ cx1) (by decide) rfl (Nat.le_of_ble_eq_true rfl) (Nat.le_of_ble_eq_true rfl) rfl rfl ?_
  refine gb_if_ne (tgt := 14) dX10_build_4 (by decide) (fun c3 => ?_) (fun c3 => ?_)
  · replace hF := gb_ifF c3 hF
    refine gb_aload_n dX10_build_14 rfl rfl ?_
    obtain ⟨g7, hF⟩ := gb_gdE hF
    obtain ⟨a8, ea8, hF⟩ := gb_rdE hF
    refine gb_getR fX10_64 dX10_build_15 (gb_kE g7) ea8 ?_
    obtain ⟨g9, hF⟩ := gb_gdE hF
    refine gb_getI fX10_247 dX10_build_18 (gb_kE g9) ?_
    refine gb_iconst (v := (-1 : Int32)) dX10_build_21 (by decide) ?_
    refine gb_icmp_ne (tgt := 32) dX10_build_22 (by decide) (fun c10 => ?_) (fun c10 => ?_)
    · replace hF := gb_ifF c10 hF
      refine gb_aload_n dX10_build_32 rfl rfl ?_
      obtain ⟨g14, hF⟩ := gb_gdE hF
      obtain ⟨a15, ea15, hF⟩ := gb_rdE hF
      refine gb_getR fX10_27 dX10_build_33 (gb_kE g14) ea15 ?_
      refine gb_iload_n dX10_build_36 rfl rfl ?_
      obtain ⟨g16, hF⟩ := gb_gdE hF
      obtain ⟨g17, hF⟩ := gb_gdE hF
      obtain ⟨a18, ea18, hF⟩ := gb_rdE hF
      refine gb_aald dX10_build_37 (gb_kE g16) (by decide) (gb_inE g17) ea18 ?_
      refine gb_astore_n (L' := [some (.ref p0), some (.int p1), some (.ref a18), none]) dX10_build_38 rfl (by decide) rfl rfl ?_
      refine gb_aload_n dX10_build_39 rfl rfl ?_
      refine gb_iconst (v := (0 : Int32)) dX10_build_40 (by decide) ?_
      obtain ⟨g19, hF⟩ := gb_gdE hF
      obtain ⟨h20, eh20, hF⟩ := gb_ltE hF
      refine gb_putI fX10_136 (gb_nff nf2_1) dX10_build_41 (gb_kE g19) (fun _ => ⟨rfl, rfl⟩) (gb_hp eh20 ?_)
      refine gb_iconst (v := (0 : Int32)) dX10_build_44 (by decide) ?_
      refine gb_istore_n (L' := [some (.ref p0), some (.int p1), some (.ref a18), some (.int (0 : Int32))]) dX10_build_45 rfl (by decide) rfl rfl ?_
      exact gb_wk (lpX10_build_46_ok gb_FU p0 p1 a18 (0 : Int32) h20 r hF) (And.intro rfl (And.intro rfl (And.intro rfl (And.intro rfl trivial))))
    · replace hF := gb_ifT c10 hF
      refine gb_aload_n dX10_build_25 rfl rfl ?_
      refine gb_bipush (v := (-6 : Int32)) dX10_build_26 (by decide) ?_
      obtain ⟨g11, hF⟩ := gb_gdE hF
      obtain ⟨x12, h13, cx12, hF⟩ := gb_bdE hF
      refine gb_cV (As := [.int (-6 : Int32)]) (S := []) (v := some (.int x12)) (h1 := h13) (S2 := [.int x12]) cf10 dX10_build_28 mtX10_refuse lX10_96 inX10_refuse seX10_refuse (gb_kE g11) (fnX10_refuse_ok _ _ cx12) (by decide) rfl (Nat.le_of_ble_eq_true rfl) (Nat.le_of_ble_eq_true rfl) rfl rfl ?_
      cases hF
      exact gb_iret dX10_build_31 rfl
  · replace hF := gb_ifT c3 hF
    refine gb_aload_n dX10_build_7 rfl rfl ?_
    refine gb_bipush (v := (-2 : Int32)) dX10_build_8 (by decide) ?_
    obtain ⟨g4, hF⟩ := gb_gdE hF
    obtain ⟨x5, h6, cx5, hF⟩ := gb_bdE hF
    refine gb_cV (As := [.int (-2 : Int32)]) (S := []) (v := some (.int x5)) (h1 := h6) (S2 := [.int x5]) cf10 dX10_build_10 mtX10_refuse lX10_96 inX10_refuse seX10_refuse (gb_kE g4) (fnX10_refuse_ok _ _ cx5) (by decide) rfl (Nat.le_of_ble_eq_true rfl) (Nat.le_of_ble_eq_true rfl) rfl rfl ?_
    cases hF
    exact gb_iret dX10_build_13 rfl
def fbX10_forgetChances_2 (k2 : Nat → Int32 → gb_H → Option (Unit × gb_H)) (v0 : Nat) (v1 : Int32) (h : gb_H) : Option (Unit × gb_H) :=
  if (4 : Int32) ≤ v1 then
    some ((), h)
  else
    gb_gd (gb_k h v0 10) <|
    gb_rd (gb_R h v0 4) fun a3 =>
    gb_gd (gb_k h a3 31) <|
    gb_gd (gb_in h a3 v1) <|
    gb_rd (gb_R h a3 v1.toNatClampNeg) fun a6 =>
    gb_gd (gb_k h a6 1) <|
    gb_lt (gb_sI h a6 6 (0 : Int32)) fun h8 =>
    gb_lt (v1 + (1 : Int32)) fun x9 =>
    k2 v0 x9 h8
theorem fbX10_forgetChances_2_ok {X : gb_X} {k2 : Nat → Int32 → gb_H → Option (Unit × gb_H)} (hk2 : ∀ v0 v1 h r, k2 v0 v1 h = some r → gb_Ev X 1 mX10_forgetChances 2 [some (.ref v0), some (.int v1)] [] h (gb_wV r)) (v0 : Nat) (v1 : Int32) (h : gb_H) (r : Unit × gb_H) (hF : fbX10_forgetChances_2 k2 v0 v1 h = some r) : gb_Ev X 1 mX10_forgetChances 2 [some (.ref v0), some (.int v1)] [] h (gb_wV r) := by
  unfold fbX10_forgetChances_2 at hF
  refine gb_iload_n dX10_forgetChances_2 rfl rfl ?_
  refine gb_iconst (v := (4 : Int32)) dX10_forgetChances_3 (by decide) ?_
  refine gb_icmp_ge (tgt := 23) dX10_forgetChances_4 (by decide) (fun c1 => ?_) (fun c1 => ?_)
  · replace hF := gb_ifT c1 hF
    cases hF
    exact gb_vret dX10_forgetChances_23 rfl
  · replace hF := gb_ifF c1 hF
    refine gb_aload_n dX10_forgetChances_7 rfl rfl ?_
    obtain ⟨g2, hF⟩ := gb_gdE hF
    obtain ⟨a3, ea3, hF⟩ := gb_rdE hF
    refine gb_getR fX10_33 dX10_forgetChances_8 (gb_kE g2) ea3 ?_
    refine gb_iload_n dX10_forgetChances_11 rfl rfl ?_
    obtain ⟨g4, hF⟩ := gb_gdE hF
    obtain ⟨g5, hF⟩ := gb_gdE hF
    obtain ⟨a6, ea6, hF⟩ := gb_rdE hF
    refine gb_aald dX10_forgetChances_12 (gb_kE g4) (by decide) (gb_inE g5) ea6 ?_
    refine gb_iconst (v := (0 : Int32)) dX10_forgetChances_13 (by decide) ?_
    obtain ⟨g7, hF⟩ := gb_gdE hF
    obtain ⟨h8, eh8, hF⟩ := gb_ltE hF
    refine gb_putI fX10_132 (gb_nff nf1_6) dX10_forgetChances_14 (gb_kE g7) (fun _ => ⟨by decide, by decide⟩) (gb_hp eh8 ?_)
    obtain ⟨x9, ex9, hF⟩ := gb_ltE hF
    refine gb_iinc (v := x9) (L' := [some (.ref v0), some (.int x9)]) dX10_forgetChances_17 rfl (by rw [ex9]; rfl) (by decide) rfl rfl ?_
    refine gb_goto (tgt := 2) dX10_forgetChances_20 (by decide) ?_
    exact gb_wk (hk2 v0 x9 h8 r hF) (And.intro rfl (And.intro rfl trivial))
def lpX10_forgetChances_2 (n : Nat) (v0 : Nat) (v1 : Int32) (h : gb_H) : Option (Unit × gb_H) := gb_lp (σ := Nat × Int32 × gb_H) (fun k s => fbX10_forgetChances_2 (fun v0 v1 h => k (v0, v1, h)) s.1 s.2.1 s.2.2) n (v0, v1, h)
theorem lpX10_forgetChances_2_ok {X : gb_X}  (n : Nat) (v0 : Nat) (v1 : Int32) (h : gb_H) (r : Unit × gb_H) (hF : lpX10_forgetChances_2 n v0 v1 h = some r) : gb_Ev X 1 mX10_forgetChances 2 [some (.ref v0), some (.int v1)] [] h (gb_wV r) := by
  exact gb_lpE (σ := Nat × Int32 × gb_H) (P := fun s r => gb_Ev X 1 mX10_forgetChances 2 [some (.ref s.1), some (.int s.2.1)] [] s.2.2 (gb_wV r)) (fun k hk s r hs => fbX10_forgetChances_2_ok (fun v0 v1 h r e => hk (v0, v1, h) r e) _ _ _ r hs) n (v0, v1, h) r hF
def fnX10_forgetChances (p0 : Nat) (h : gb_H) : Option (Unit × gb_H) :=
  lpX10_forgetChances_2 gb_FU p0 (0 : Int32) h
theorem fnX10_forgetChances_ok {X : gb_X}  {p0 : Nat} (h : gb_H) (r : Unit × gb_H) (hF : fnX10_forgetChances p0 h = some r) : gb_Ev X 1 mX10_forgetChances 0 (gb_L0 [.ref p0]) [] h (gb_wV r) := by
  unfold fnX10_forgetChances at hF
  refine gb_weak (L' := [some (.ref p0), none]) (And.intro rfl trivial) ?_
  refine gb_iconst (v := (0 : Int32)) dX10_forgetChances_0 (by decide) ?_
  refine gb_istore_n (L' := [some (.ref p0), some (.int (0 : Int32))]) dX10_forgetChances_1 rfl (by decide) rfl rfl ?_
  exact gb_wk (lpX10_forgetChances_2_ok gb_FU p0 (0 : Int32) h r hF) (And.intro rfl (And.intro rfl trivial))
def fbX10_clear_12 (k12 : Nat → Int32 → Int32 → gb_H → Option (Int32 × gb_H)) (v0 : Nat) (v1 : Int32) (v2 : Int32) (h : gb_H) : Option (Int32 × gb_H) :=
  if (3 : Int32) ≤ v2 then
    gb_gd (gb_k h v0 10) <|
    gb_bd (fnX10_forgetChances v0 h) fun _ h4 =>
    some (v1, h4)
  else
    gb_gd (gb_k h v0 10) <|
    gb_rd (gb_R h v0 11) fun a6 =>
    gb_gd (gb_k h a6 20) <|
    gb_gd (gb_in h a6 v2) <|
    gb_lt (gb_sI h a6 v2.toNatClampNeg (0 : Int32)) fun h9 =>
    gb_lt (v2 + (1 : Int32)) fun x10 =>
    k12 v0 v1 x10 h9
theorem fbX10_clear_12_ok {X : gb_X} {k12 : Nat → Int32 → Int32 → gb_H → Option (Int32 × gb_H)} (hk12 : ∀ v0 v1 v2 h r, k12 v0 v1 v2 h = some r → gb_Ev X 2 mX10_clear 12 [some (.ref v0), some (.int v1), some (.int v2)] [] h (gb_wI r)) (v0 : Nat) (v1 : Int32) (v2 : Int32) (h : gb_H) (r : Int32 × gb_H) (hF : fbX10_clear_12 k12 v0 v1 v2 h = some r) : gb_Ev X 2 mX10_clear 12 [some (.ref v0), some (.int v1), some (.int v2)] [] h (gb_wI r) := by
  unfold fbX10_clear_12 at hF
  refine gb_iload_n dX10_clear_12 rfl rfl ?_
  refine gb_iconst (v := (3 : Int32)) dX10_clear_13 (by decide) ?_
  refine gb_icmp_ge (tgt := 30) dX10_clear_14 (by decide) (fun c1 => ?_) (fun c1 => ?_)
  · replace hF := gb_ifT c1 hF
    refine gb_aload_n dX10_clear_30 rfl rfl ?_
    obtain ⟨g2, hF⟩ := gb_gdE hF
    obtain ⟨x3, h4, cx3, hF⟩ := gb_bdE hF
    refine gb_cV (As := []) (S := []) (v := none) (h1 := h4) (S2 := []) cf10 dX10_clear_31 mtX10_forgetChances lX10_103 inX10_forgetChances seX10_forgetChances (gb_kE g2) (fnX10_forgetChances_ok _ _ cx3) (by decide) rfl (Nat.le_of_ble_eq_true rfl) (Nat.le_of_ble_eq_true rfl) rfl rfl ?_
    refine gb_iload_n dX10_clear_34 rfl rfl ?_
    cases hF
    exact gb_iret dX10_clear_35 rfl
  · replace hF := gb_ifF c1 hF
    refine gb_aload_n dX10_clear_17 rfl rfl ?_
    obtain ⟨g5, hF⟩ := gb_gdE hF
    obtain ⟨a6, ea6, hF⟩ := gb_rdE hF
    refine gb_getR fX10_85 dX10_clear_18 (gb_kE g5) ea6 ?_
    refine gb_iload_n dX10_clear_21 rfl rfl ?_
    refine gb_iconst (v := (0 : Int32)) dX10_clear_22 (by decide) ?_
    obtain ⟨g7, hF⟩ := gb_gdE hF
    obtain ⟨g8, hF⟩ := gb_gdE hF
    obtain ⟨h9, eh9, hF⟩ := gb_ltE hF
    refine gb_iast dX10_clear_23 (gb_kE g7) (gb_inE g8) (gb_hp eh9 ?_)
    obtain ⟨x10, ex10, hF⟩ := gb_ltE hF
    refine gb_iinc (v := x10) (L' := [some (.ref v0), some (.int v1), some (.int x10)]) dX10_clear_24 rfl (by rw [ex10]; rfl) (by decide) rfl rfl ?_
    refine gb_goto (tgt := 12) dX10_clear_27 (by decide) ?_
    exact gb_wk (hk12 v0 v1 x10 h9 r hF) (And.intro rfl (And.intro rfl (And.intro rfl trivial)))
def lpX10_clear_12 (n : Nat) (v0 : Nat) (v1 : Int32) (v2 : Int32) (h : gb_H) : Option (Int32 × gb_H) := gb_lp (σ := Nat × Int32 × Int32 × gb_H) (fun k s => fbX10_clear_12 (fun v0 v1 v2 h => k (v0, v1, v2, h)) s.1 s.2.1 s.2.2.1 s.2.2.2) n (v0, v1, v2, h)
theorem lpX10_clear_12_ok {X : gb_X}  (n : Nat) (v0 : Nat) (v1 : Int32) (v2 : Int32) (h : gb_H) (r : Int32 × gb_H) (hF : lpX10_clear_12 n v0 v1 v2 h = some r) : gb_Ev X 2 mX10_clear 12 [some (.ref v0), some (.int v1), some (.int v2)] [] h (gb_wI r) := by
  exact gb_lpE (σ := Nat × Int32 × Int32 × gb_H) (P := fun s r => gb_Ev X 2 mX10_clear 12 [some (.ref s.1), some (.int s.2.1), some (.int s.2.2.1)] [] s.2.2.2 (gb_wI r)) (fun k hk s r hs => fbX10_clear_12_ok (fun v0 v1 v2 h r e => hk (v0, v1, v2, h) r e) _ _ _ _ r hs) n (v0, v1, v2, h) r hF
def fnX10_clear (p0 : Nat) (h : gb_H) : Option (Int32 × gb_H) :=
  gb_gd (gb_k h p0 10) <|
  gb_lt (gb_I h p0 13) fun x2 =>
  gb_gd (gb_k h p0 10) <|
  gb_lt (gb_sI h p0 13 (0 : Int32)) fun h4 =>
  lpX10_clear_12 gb_FU p0 x2 (0 : Int32) h4
theorem fnX10_clear_ok {X : gb_X}  {p0 : Nat} (h : gb_H) (r : Int32 × gb_H) (hF : fnX10_clear p0 h = some r) : gb_Ev X 2 mX10_clear 0 (gb_L0 [.ref p0]) [] h (gb_wI r) := by
  unfold fnX10_clear at hF
  refine gb_weak (L' := [some (.ref p0), none, none]) (And.intro rfl trivial) ?_
  refine gb_aload_n dX10_clear_0 rfl rfl ?_
  obtain ⟨g1, hF⟩ := gb_gdE hF
  refine gb_getI fX10_100 dX10_clear_1 (gb_kE g1) ?_
  obtain ⟨x2, ex2, hF⟩ := gb_ltE hF
  refine gb_topI ex2 ?_
  refine gb_istore_n (L' := [some (.ref p0), some (.int x2), none]) dX10_clear_4 rfl (by decide) rfl rfl ?_
  refine gb_aload_n dX10_clear_5 rfl rfl ?_
  refine gb_iconst (v := (0 : Int32)) dX10_clear_6 (by decide) ?_
  obtain ⟨g3, hF⟩ := gb_gdE hF
  obtain ⟨h4, eh4, hF⟩ := gb_ltE hF
  refine gb_putI fX10_100 (gb_nff nf10_13) dX10_clear_7 (gb_kE g3) (fun _ => ⟨rfl, rfl⟩) (gb_hp eh4 ?_)
  refine gb_iconst (v := (0 : Int32)) dX10_clear_10 (by decide) ?_
  refine gb_istore_n (L' := [some (.ref p0), some (.int x2), some (.int (0 : Int32))]) dX10_clear_11 rfl (by decide) rfl rfl ?_
  exact gb_wk (lpX10_clear_12_ok gb_FU p0 x2 (0 : Int32) h4 r hF) (And.intro rfl (And.intro rfl (And.intro rfl trivial)))
def fnX10_startKey (p0 : Nat) (h : gb_H) : Option (Int32 × gb_H) :=
  gb_gd (gb_k h p0 10) <|
  gb_rd (gb_R h p0 11) fun a2 =>
  gb_gd (gb_k h a2 20) <|
  gb_gd (gb_in h a2 (0 : Int32)) <|
  gb_gd (gb_k h p0 10) <|
  gb_rd (gb_R h p0 11) fun a6 =>
  gb_gd (gb_k h a6 20) <|
  gb_gd (gb_in h a6 (1 : Int32)) <|
  gb_gd (gb_k h p0 10) <|
  gb_rd (gb_R h p0 11) fun a10 =>
  gb_gd (gb_k h a10 20) <|
  gb_gd (gb_in h a10 (2 : Int32)) <|
  gb_bd (fnX0_keyOf (gb_I h a2 (0 : Int32).toNatClampNeg) (gb_I h a6 (1 : Int32).toNatClampNeg) (gb_I h a10 (2 : Int32).toNatClampNeg) h) fun x13 h14 =>
  some (x13, h14)
theorem fnX10_startKey_ok {X : gb_X}  {p0 : Nat} (h : gb_H) (r : Int32 × gb_H) (hF : fnX10_startKey p0 h = some r) : gb_Ev X 3 mX10_startKey 0 (gb_L0 [.ref p0]) [] h (gb_wI r) := by
  unfold fnX10_startKey at hF
  refine gb_weak (L' := [some (.ref p0)]) (And.intro rfl trivial) ?_
  refine gb_aload_n dX10_startKey_0 rfl rfl ?_
  obtain ⟨g1, hF⟩ := gb_gdE hF
  obtain ⟨a2, ea2, hF⟩ := gb_rdE hF
  refine gb_getR fX10_85 dX10_startKey_1 (gb_kE g1) ea2 ?_
  refine gb_iconst (v := (0 : Int32)) dX10_startKey_4 (by decide) ?_
  obtain ⟨g3, hF⟩ := gb_gdE hF
  obtain ⟨g4, hF⟩ := gb_gdE hF
  refine gb_iald dX10_startKey_5 (gb_kE g3) (gb_inE g4) ?_
  refine gb_aload_n dX10_startKey_6 rfl rfl ?_
  obtain ⟨g5, hF⟩ := gb_gdE hF
  obtain ⟨a6, ea6, hF⟩ := gb_rdE hF
  refine gb_getR fX10_85 dX10_startKey_7 (gb_kE g5) ea6 ?_
  refine gb_iconst (v := (1 : Int32)) dX10_startKey_10 (by decide) ?_
  obtain ⟨g7, hF⟩ := gb_gdE hF
  obtain ⟨g8, hF⟩ := gb_gdE hF
  refine gb_iald dX10_startKey_11 (gb_kE g7) (gb_inE g8) ?_
  refine gb_aload_n dX10_startKey_12 rfl rfl ?_
  obtain ⟨g9, hF⟩ := gb_gdE hF
  obtain ⟨a10, ea10, hF⟩ := gb_rdE hF
  refine gb_getR fX10_85 dX10_startKey_13 (gb_kE g9) ea10 ?_
  refine gb_iconst (v := (2 : Int32)) dX10_startKey_16 (by decide) ?_
  obtain ⟨g11, hF⟩ := gb_gdE hF
  obtain ⟨g12, hF⟩ := gb_gdE hF
  refine gb_iald dX10_startKey_17 (gb_kE g11) (gb_inE g12) ?_
  obtain ⟨x13, h14, cx13, hF⟩ := gb_bdE hF
  refine gb_cS (As := [.int (gb_I h a2 (0 : Int32).toNatClampNeg), .int (gb_I h a6 (1 : Int32).toNatClampNeg), .int (gb_I h a10 (2 : Int32).toNatClampNeg)]) (S := []) (v := some (.int x13)) (h1 := h14) (S2 := [.int x13]) dX10_startKey_18 mtX0_keyOf lX10_155 stX0_keyOf (fnX0_keyOf_ok _ _ cx13) (by decide) rfl (Nat.le_of_ble_eq_true rfl) (Nat.le_of_ble_eq_true rfl) rfl rfl ?_
  cases hF
  exact gb_iret dX10_startKey_21 rfl
def fbX10_lightThrough_77 (k19 : Nat → Nat → Nat → Nat → Int32 → gb_H → Option (Nat × gb_H)) (v0 : Nat) (v1 : Nat) (v3 : Nat) (v4 : Nat) (v5 : Int32) (h : gb_H) : Option (Nat × gb_H) :=
  gb_lt (v5 + (1 : Int32)) fun x1 =>
  k19 v0 v1 v3 v4 x1 h
theorem fbX10_lightThrough_77_ok {X : gb_X} {k19 : Nat → Nat → Nat → Nat → Int32 → gb_H → Option (Nat × gb_H)} (hk19 : ∀ v0 v1 v3 v4 v5 h r, k19 v0 v1 v3 v4 v5 h = some r → gb_Ev X 5 mX10_lightThrough 19 [some (.ref v0), some (.ref v1), none, some (.ref v3), some (.ref v4), some (.int v5), none, none] [] h (gb_wA r)) (v0 : Nat) (v1 : Nat) (v3 : Nat) (v4 : Nat) (v5 : Int32) (h : gb_H) (r : Nat × gb_H) (hF : fbX10_lightThrough_77 k19 v0 v1 v3 v4 v5 h = some r) : gb_Ev X 5 mX10_lightThrough 77 [some (.ref v0), some (.ref v1), none, some (.ref v3), some (.ref v4), some (.int v5), none, none] [] h (gb_wA r) := by
  unfold fbX10_lightThrough_77 at hF
  obtain ⟨x1, ex1, hF⟩ := gb_ltE hF
  refine gb_iinc (v := x1) (L' := [some (.ref v0), some (.ref v1), none, some (.ref v3), some (.ref v4), some (.int x1), none, none]) dX10_lightThrough_77 rfl (by rw [ex1]; rfl) (by decide) rfl rfl ?_
  refine gb_goto (tgt := 19) dX10_lightThrough_80 (by decide) ?_
  exact gb_wk (hk19 v0 v1 v3 v4 x1 h r hF) (And.intro rfl (And.intro rfl (And.intro rfl (And.intro rfl (And.intro rfl trivial)))))
def fbX10_lightThrough_19 (k19 : Nat → Nat → Nat → Nat → Int32 → gb_H → Option (Nat × gb_H)) (v0 : Nat) (v1 : Nat) (v3 : Nat) (v4 : Nat) (v5 : Int32) (h : gb_H) : Option (Nat × gb_H) :=
  gb_gd (gb_k h v1 2) <|
  if (gb_I h v1 1) ≤ v5 then
    some (v3, h)
  else
    gb_gd (gb_k h v1 2) <|
    gb_rd (gb_R h v1 0) fun a4 =>
    gb_gd (gb_k h a4 35) <|
    gb_gd (gb_in h a4 v5) <|
    gb_rd (gb_R h a4 v5.toNatClampNeg) fun a7 =>
    gb_gd (gb_k h a7 5) <|
    if (gb_I h a7 0) = (5 : Int32) then
      fbX10_lightThrough_77 k19 v0 v1 v3 v4 v5 h
    else
      gb_gd (gb_k h v0 10) <|
      gb_rd (gb_R h v0 7) fun a11 =>
      gb_gd (gb_k h a11 4) <|
      gb_bd (fnX4_aim a11 a7 h) fun _ h14 =>
      gb_gd (gb_k h14 v0 10) <|
      gb_rd (gb_R h14 v0 7) fun a16 =>
      gb_gd (gb_k h14 v3 0) <|
      gb_bd (fnX0_send v3 a7 a16 v4 h14) fun _ h19 =>
      fbX10_lightThrough_77 k19 v0 v1 v4 v3 v5 h19
theorem fbX10_lightThrough_19_ok {X : gb_X} {k19 : Nat → Nat → Nat → Nat → Int32 → gb_H → Option (Nat × gb_H)} (hk19 : ∀ v0 v1 v3 v4 v5 h r, k19 v0 v1 v3 v4 v5 h = some r → gb_Ev X 5 mX10_lightThrough 19 [some (.ref v0), some (.ref v1), none, some (.ref v3), some (.ref v4), some (.int v5), none, none] [] h (gb_wA r)) (v0 : Nat) (v1 : Nat) (v3 : Nat) (v4 : Nat) (v5 : Int32) (h : gb_H) (r : Nat × gb_H) (hF : fbX10_lightThrough_19 k19 v0 v1 v3 v4 v5 h = some r) : gb_Ev X 5 mX10_lightThrough 19 [some (.ref v0), some (.ref v1), none, some (.ref v3), some (.ref v4), some (.int v5), none, none] [] h (gb_wA r) := by
  unfold fbX10_lightThrough_19 at hF
  refine gb_iload dX10_lightThrough_19 rfl ?_
  refine gb_aload_n dX10_lightThrough_21 rfl rfl ?_
  obtain ⟨g1, hF⟩ := gb_gdE hF
  refine gb_getI fX10_136 dX10_lightThrough_22 (gb_kE g1) ?_
  refine gb_icmp_ge (tgt := 83) dX10_lightThrough_25 (by decide) (fun c2 => ?_) (fun c2 => ?_)
  · replace hF := gb_ifT c2 hF
    refine gb_aload_n dX10_lightThrough_83 rfl rfl ?_
    cases hF
    exact gb_aret dX10_lightThrough_84 rfl
  · replace hF := gb_ifF c2 hF
    refine gb_aload_n dX10_lightThrough_28 rfl rfl ?_
    obtain ⟨g3, hF⟩ := gb_gdE hF
    obtain ⟨a4, ea4, hF⟩ := gb_rdE hF
    refine gb_getR fX10_142 dX10_lightThrough_29 (gb_kE g3) ea4 ?_
    refine gb_iload dX10_lightThrough_32 rfl ?_
    obtain ⟨g5, hF⟩ := gb_gdE hF
    obtain ⟨g6, hF⟩ := gb_gdE hF
    obtain ⟨a7, ea7, hF⟩ := gb_rdE hF
    refine gb_aald dX10_lightThrough_34 (gb_kE g5) (by decide) (gb_inE g6) ea7 ?_
    refine gb_astore (L' := [some (.ref v0), some (.ref v1), none, some (.ref v3), some (.ref v4), some (.int v5), some (.ref a7), none]) dX10_lightThrough_35 (by decide) rfl rfl ?_
    refine gb_aload dX10_lightThrough_37 rfl ?_
    obtain ⟨g8, hF⟩ := gb_gdE hF
    refine gb_getI fX10_289 dX10_lightThrough_39 (gb_kE g8) ?_
    refine gb_iconst (v := (5 : Int32)) dX10_lightThrough_42 (by decide) ?_
    refine gb_icmp_eq (tgt := 77) dX10_lightThrough_43 (by decide) (fun c9 => ?_) (fun c9 => ?_)
    · replace hF := gb_ifT c9 hF
      exact gb_wk (fbX10_lightThrough_77_ok hk19 v0 v1 v3 v4 v5 h r hF) (And.intro rfl (And.intro rfl (And.intro rfl (And.intro rfl (And.intro rfl trivial)))))
    · replace hF := gb_ifF c9 hF
      refine gb_aload_n dX10_lightThrough_46 rfl rfl ?_
      obtain ⟨g10, hF⟩ := gb_gdE hF
      obtain ⟨a11, ea11, hF⟩ := gb_rdE hF
      refine gb_getR fX10_55 dX10_lightThrough_47 (gb_kE g10) ea11 ?_
      refine gb_aload dX10_lightThrough_50 rfl ?_
      obtain ⟨g12, hF⟩ := gb_gdE hF
      obtain ⟨x13, h14, cx13, hF⟩ := gb_bdE hF
      refine gb_cV (As := [.ref a7]) (S := []) (v := none) (h1 := h14) (S2 := []) cf4 dX10_lightThrough_52 mtX4_aim lX10_294 inX4_aim seX4_aim (gb_kE g12) (fnX4_aim_ok _ _ cx13) (by decide) rfl (Nat.le_of_ble_eq_true rfl) (Nat.le_of_ble_eq_true rfl) rfl rfl ?_
      refine gb_aload_n dX10_lightThrough_55 rfl rfl ?_
      refine gb_aload dX10_lightThrough_56 rfl ?_
      refine gb_aload_n dX10_lightThrough_58 rfl rfl ?_
      obtain ⟨g15, hF⟩ := gb_gdE hF
      obtain ⟨a16, ea16, hF⟩ := gb_rdE hF
      refine gb_getR fX10_55 dX10_lightThrough_59 (gb_kE g15) ea16 ?_
      refine gb_aload dX10_lightThrough_62 rfl ?_
      obtain ⟨g17, hF⟩ := gb_gdE hF
      obtain ⟨x18, h19, cx18, hF⟩ := gb_bdE hF
      refine gb_cV (As := [.ref a7, .ref a16, .ref v4]) (S := []) (v := none) (h1 := h19) (S2 := []) cf0 dX10_lightThrough_64 mtX0_send lX10_297 inX0_send seX0_send (gb_kE g17) (fnX0_send_ok _ _ cx18) (by decide) rfl (Nat.le_of_ble_eq_true rfl) (Nat.le_of_ble_eq_true rfl) rfl rfl ?_
      refine gb_aload_n dX10_lightThrough_67 rfl rfl ?_
      refine gb_astore (L' := [some (.ref v0), some (.ref v1), none, some (.ref v3), some (.ref v4), some (.int v5), some (.ref a7), some (.ref v3)]) dX10_lightThrough_68 (by decide) rfl rfl ?_
      refine gb_aload dX10_lightThrough_70 rfl ?_
      refine gb_astore_n (L' := [some (.ref v0), some (.ref v1), none, some (.ref v4), some (.ref v4), some (.int v5), some (.ref a7), some (.ref v3)]) dX10_lightThrough_72 rfl (by decide) rfl rfl ?_
      refine gb_aload dX10_lightThrough_73 rfl ?_
      refine gb_astore (L' := [some (.ref v0), some (.ref v1), none, some (.ref v4), some (.ref v3), some (.int v5), some (.ref a7), some (.ref v3)]) dX10_lightThrough_75 (by decide) rfl rfl ?_
      exact gb_wk (fbX10_lightThrough_77_ok hk19 v0 v1 v4 v3 v5 h19 r hF) (And.intro rfl (And.intro rfl (And.intro rfl (And.intro rfl (And.intro rfl trivial)))))
def lpX10_lightThrough_19 (n : Nat) (v0 : Nat) (v1 : Nat) (v3 : Nat) (v4 : Nat) (v5 : Int32) (h : gb_H) : Option (Nat × gb_H) := gb_lp (σ := Nat × Nat × Nat × Nat × Int32 × gb_H) (fun k s => fbX10_lightThrough_19 (fun v0 v1 v3 v4 v5 h => k (v0, v1, v3, v4, v5, h)) s.1 s.2.1 s.2.2.1 s.2.2.2.1 s.2.2.2.2.1 s.2.2.2.2.2) n (v0, v1, v3, v4, v5, h)
theorem lpX10_lightThrough_19_ok {X : gb_X}  (n : Nat) (v0 : Nat) (v1 : Nat) (v3 : Nat) (v4 : Nat) (v5 : Int32) (h : gb_H) (r : Nat × gb_H) (hF : lpX10_lightThrough_19 n v0 v1 v3 v4 v5 h = some r) : gb_Ev X 5 mX10_lightThrough 19 [some (.ref v0), some (.ref v1), none, some (.ref v3), some (.ref v4), some (.int v5), none, none] [] h (gb_wA r) := by
  exact gb_lpE (σ := Nat × Nat × Nat × Nat × Int32 × gb_H) (P := fun s r => gb_Ev X 5 mX10_lightThrough 19 [some (.ref s.1), some (.ref s.2.1), none, some (.ref s.2.2.1), some (.ref s.2.2.2.1), some (.int s.2.2.2.2.1), none, none] [] s.2.2.2.2.2 (gb_wA r)) (fun k hk s r hs => fbX10_lightThrough_19_ok (fun v0 v1 v3 v4 v5 h r e => hk (v0, v1, v3, v4, v5, h) r e) _ _ _ _ _ _ r hs) n (v0, v1, v3, v4, v5, h) r hF
def fnX10_lightThrough (p0 : Nat) (p1 : Nat) (p2 : Int32) (h : gb_H) : Option (Nat × gb_H) :=
  gb_gd (gb_k h p0 10) <|
  gb_rd (gb_R h p0 8) fun a2 =>
  gb_gd (gb_k h p0 10) <|
  gb_rd (gb_R h p0 9) fun a4 =>
  gb_gd (gb_k h a2 0) <|
  gb_bd (fnX0_begin a2 p2 h) fun _ h7 =>
  lpX10_lightThrough_19 gb_FU p0 p1 a2 a4 (0 : Int32) h7
theorem fnX10_lightThrough_ok {X : gb_X}  {p0 : Nat} {p1 : Nat} {p2 : Int32} (h : gb_H) (r : Nat × gb_H) (hF : fnX10_lightThrough p0 p1 p2 h = some r) : gb_Ev X 5 mX10_lightThrough 0 (gb_L0 [.ref p0, .ref p1, .int p2]) [] h (gb_wA r) := by
  unfold fnX10_lightThrough at hF
  refine gb_weak (L' := [some (.ref p0), some (.ref p1), some (.int p2), none, none, none, none, none]) (And.intro rfl (And.intro rfl (And.intro rfl trivial))) ?_
  refine gb_aload_n dX10_lightThrough_0 rfl rfl ?_
  obtain ⟨g1, hF⟩ := gb_gdE hF
  obtain ⟨a2, ea2, hF⟩ := gb_rdE hF
  refine gb_getR fX10_71 dX10_lightThrough_1 (gb_kE g1) ea2 ?_
  refine gb_astore_n (L' := [some (.ref p0), some (.ref p1), some (.int p2), some (.ref a2), none, none, none, none]) dX10_lightThrough_4 rfl (by decide) rfl rfl ?_
  refine gb_aload_n dX10_lightThrough_5 rfl rfl ?_
  obtain ⟨g3, hF⟩ := gb_gdE hF
  obtain ⟨a4, ea4, hF⟩ := gb_rdE hF
  refine gb_getR fX10_75 dX10_lightThrough_6 (gb_kE g3) ea4 ?_
  refine gb_astore (L' := [some (.ref p0), some (.ref p1), some (.int p2), some (.ref a2), some (.ref a4), none, none, none]) dX10_lightThrough_9 (by decide) rfl rfl ?_
  refine gb_aload_n dX10_lightThrough_11 rfl rfl ?_
  refine gb_iload_n dX10_lightThrough_12 rfl rfl ?_
  obtain ⟨g5, hF⟩ := gb_gdE hF
  obtain ⟨x6, h7, cx6, hF⟩ := gb_bdE hF
  refine gb_cV (As := [.int p2]) (S := []) (v := none) (h1 := h7) (S2 := []) cf0 dX10_lightThrough_13 mtX0_begin lX10_286 inX0_begin seX0_begin (gb_kE g5) (fnX0_begin_ok _ _ cx6) (by decide) rfl (Nat.le_of_ble_eq_true rfl) (Nat.le_of_ble_eq_true rfl) rfl rfl ?_
  refine gb_iconst (v := (0 : Int32)) dX10_lightThrough_16 (by decide) ?_
  refine gb_istore (L' := [some (.ref p0), some (.ref p1), some (.int p2), some (.ref a2), some (.ref a4), some (.int (0 : Int32)), none, none]) dX10_lightThrough_17 (by decide) rfl rfl ?_
  exact gb_wk (lpX10_lightThrough_19_ok gb_FU p0 p1 a2 a4 (0 : Int32) h7 r hF) (And.intro rfl (And.intro rfl (And.intro rfl (And.intro rfl (And.intro rfl trivial)))))
def fbX10_isTold_37 (s0 : Int32) (h : gb_H) : Option (Int32 × gb_H) :=
  gb_gd (gb_b s0) <|
  some (s0, h)
theorem fbX10_isTold_37_ok {X : gb_X} (s0 : Int32) (h : gb_H) (r : Int32 × gb_H) (hF : fbX10_isTold_37 s0 h = some r) : gb_Ev X 6 mX10_isTold 37 [none, none, none, none, none, none] [.int s0] h (gb_wI r) := by
  unfold fbX10_isTold_37 at hF
  obtain ⟨g1, hF⟩ := gb_gdE hF
  cases hF
  exact gb_zret dX10_isTold_37 rfl (gb_bE g1)
def fnX10_isTold (p0 : Nat) (p1 : Int32) (h : gb_H) : Option (Int32 × gb_H) :=
  gb_bd (fnX10_isBench p1 h) fun x1 h2 =>
  if x1 = 0 then
    some ((0 : Int32), h2)
  else
    gb_gd (gb_k h2 p0 10) <|
    gb_rd (gb_R h2 p0 4) fun a5 =>
    gb_gd (gb_k h2 a5 31) <|
    gb_gd (gb_in h2 a5 p1) <|
    gb_rd (gb_R h2 a5 p1.toNatClampNeg) fun a8 =>
    gb_gd (gb_k h2 a8 1) <|
    if (gb_I h2 a8 6) = 0 then
      gb_gd (gb_k h2 a8 1) <|
      gb_lt (gb_sI h2 a8 6 (1 : Int32)) fun h12 =>
      gb_gd (gb_k h12 p0 10) <|
      gb_rd (gb_R h12 p0 2) fun a14 =>
      gb_gd (gb_k h12 a14 32) <|
      gb_gd (gb_in h12 a14 p1) <|
      gb_rd (gb_R h12 a14 p1.toNatClampNeg) fun a17 =>
      gb_gd (gb_k h12 p0 10) <|
      gb_gd (gb_k h12 a17 2) <|
      gb_bd (fnX2_depthFor a17 (gb_I h12 p0 13) h12) fun x20 h21 =>
      gb_gd (gb_k h21 a8 1) <|
      gb_lt (gb_sI h21 a8 5 x20) fun h23 =>
      gb_gd (gb_k h23 a8 1) <|
      if (gb_I h23 a8 5) ≤ (300000 : Int32) then
        gb_gd (gb_k h23 p0 10) <|
        gb_bd (fnX10_startKey p0 h23) fun x27 h28 =>
        gb_gd (gb_k h28 a8 1) <|
        gb_gd (gb_k h28 a8 1) <|
        gb_bd (fnX0_orders x27 h28) fun x31 h32 =>
        gb_lt ((((gb_I h28 a8 5).toInt64) * ((gb_I h28 a8 5).toInt64)) * (x31.toInt64)) fun x33 =>
        gb_gd (gb_k h32 p0 10) <|
        gb_rd (gb_R h32 p0 2) fun a35 =>
        gb_gd (gb_k h32 a35 32) <|
        gb_gd (gb_in h32 a35 p1) <|
        gb_rd (gb_R h32 a35 p1.toNatClampNeg) fun a38 =>
        gb_gd (gb_k h32 p0 10) <|
        gb_bd (fnX10_lightThrough p0 a38 x27 h32) fun x40 h41 =>
        gb_gd (gb_k h41 a8 1) <|
        gb_bd (fnX1_gather a8 x40 x33 h41) fun _ h44 =>
        some ((1 : Int32), h44)
      else
        some ((0 : Int32), h23)
    else
      gb_gd (gb_k h2 a8 1) <|
      if (300000 : Int32) < (gb_I h2 a8 5) then
        fbX10_isTold_37 (0 : Int32) h2
      else
        fbX10_isTold_37 (1 : Int32) h2
theorem fnX10_isTold_ok {X : gb_X}  {p0 : Nat} {p1 : Int32} (h : gb_H) (r : Int32 × gb_H) (hF : fnX10_isTold p0 p1 h = some r) : gb_Ev X 6 mX10_isTold 0 (gb_L0 [.ref p0, .int p1]) [] h (gb_wI r) := by
  unfold fnX10_isTold at hF
  refine gb_weak (L' := [some (.ref p0), some (.int p1), none, none, none, none]) (And.intro rfl (And.intro rfl trivial)) ?_
  refine gb_iload_n dX10_isTold_0 rfl rfl ?_
  obtain ⟨x1, h2, cx1, hF⟩ := gb_bdE hF
  refine gb_cS (As := [.int p1]) (S := []) (v := some (.int x1)) (h1 := h2) (S2 := [.int x1]) dX10_isTold_1 mtX10_isBench lX10_119 stX10_isBench (fnX10_isBench_ok _ _ cx1) (by decide) rfl (Nat.le_of_ble_eq_true rfl) (Nat.le_of_ble_eq_true rfl) rfl rfl ?_
  refine gb_if_ne (tgt := 9) dX10_isTold_4 (by decide) (fun c3 => ?_) (fun c3 => ?_)
  · replace hF := gb_ifF c3 hF
    refine gb_aload_n dX10_isTold_9 rfl rfl ?_
    obtain ⟨g4, hF⟩ := gb_gdE hF
    obtain ⟨a5, ea5, hF⟩ := gb_rdE hF
    refine gb_getR fX10_33 dX10_isTold_10 (gb_kE g4) ea5 ?_
    refine gb_iload_n dX10_isTold_13 rfl rfl ?_
    obtain ⟨g6, hF⟩ := gb_gdE hF
    obtain ⟨g7, hF⟩ := gb_gdE hF
    obtain ⟨a8, ea8, hF⟩ := gb_rdE hF
    refine gb_aald dX10_isTold_14 (gb_kE g6) (by decide) (gb_inE g7) ea8 ?_
    refine gb_astore_n (L' := [some (.ref p0), some (.int p1), some (.ref a8), none, none, none]) dX10_isTold_15 rfl (by decide) rfl rfl ?_
    refine gb_aload_n dX10_isTold_16 rfl rfl ?_
    obtain ⟨g9, hF⟩ := gb_gdE hF
    refine gb_getI fX10_132 dX10_isTold_17 (gb_kE g9) ?_
    refine gb_if_eq (tgt := 38) dX10_isTold_20 (by decide) (fun c10 => ?_) (fun c10 => ?_)
    · replace hF := gb_ifT c10 hF
      refine gb_aload_n dX10_isTold_38 rfl rfl ?_
      refine gb_iconst (v := (1 : Int32)) dX10_isTold_39 (by decide) ?_
      obtain ⟨g11, hF⟩ := gb_gdE hF
      obtain ⟨h12, eh12, hF⟩ := gb_ltE hF
      refine gb_putI fX10_132 (gb_nff nf1_6) dX10_isTold_40 (gb_kE g11) (fun _ => ⟨by decide, by decide⟩) (gb_hp eh12 ?_)
      refine gb_aload_n dX10_isTold_43 rfl rfl ?_
      refine gb_aload_n dX10_isTold_44 rfl rfl ?_
      obtain ⟨g13, hF⟩ := gb_gdE hF
      obtain ⟨a14, ea14, hF⟩ := gb_rdE hF
      refine gb_getR fX10_27 dX10_isTold_45 (gb_kE g13) ea14 ?_
      refine gb_iload_n dX10_isTold_48 rfl rfl ?_
      obtain ⟨g15, hF⟩ := gb_gdE hF
      obtain ⟨g16, hF⟩ := gb_gdE hF
      obtain ⟨a17, ea17, hF⟩ := gb_rdE hF
      refine gb_aald dX10_isTold_49 (gb_kE g15) (by decide) (gb_inE g16) ea17 ?_
      refine gb_aload_n dX10_isTold_50 rfl rfl ?_
      obtain ⟨g18, hF⟩ := gb_gdE hF
      refine gb_getI fX10_100 dX10_isTold_51 (gb_kE g18) ?_
      obtain ⟨g19, hF⟩ := gb_gdE hF
      obtain ⟨x20, h21, cx20, hF⟩ := gb_bdE hF
      refine gb_cV (As := [.int (gb_I h12 p0 13)]) (S := [.ref a8]) (v := some (.int x20)) (h1 := h21) (S2 := [.int x20, .ref a8]) cf2 dX10_isTold_54 mtX2_depthFor lX10_150 inX2_depthFor seX2_depthFor (gb_kE g19) (fnX2_depthFor_ok _ _ cx20) (by decide) rfl (Nat.le_of_ble_eq_true rfl) (Nat.le_of_ble_eq_true rfl) rfl rfl ?_
      obtain ⟨g22, hF⟩ := gb_gdE hF
      obtain ⟨h23, eh23, hF⟩ := gb_ltE hF
      refine gb_putI fX10_270 (gb_nff nf1_5) dX10_isTold_57 (gb_kE g22) (fun _ => ⟨rfl, rfl⟩) (gb_hp eh23 ?_)
      refine gb_aload_n dX10_isTold_60 rfl rfl ?_
      obtain ⟨g24, hF⟩ := gb_gdE hF
      refine gb_getI fX10_270 dX10_isTold_61 (gb_kE g24) ?_
      refine gb_ldc (v := (300000 : Int32)) dX10_isTold_64 kX10_154 ?_
      refine gb_icmp_le (tgt := 71) dX10_isTold_66 (by decide) (fun c25 => ?_) (fun c25 => ?_)
      · replace hF := gb_ifT c25 hF
        refine gb_aload_n dX10_isTold_71 rfl rfl ?_
        obtain ⟨g26, hF⟩ := gb_gdE hF
        obtain ⟨x27, h28, cx27, hF⟩ := gb_bdE hF
        refine gb_cV (As := []) (S := []) (v := some (.int x27)) (h1 := h28) (S2 := [.int x27]) cf10 dX10_isTold_72 mtX10_startKey lX10_240 inX10_startKey seX10_startKey (gb_kE g26) (fnX10_startKey_ok _ _ cx27) (by decide) rfl (Nat.le_of_ble_eq_true rfl) (Nat.le_of_ble_eq_true rfl) rfl rfl ?_
        refine gb_istore_n (L' := [some (.ref p0), some (.int p1), some (.ref a8), some (.int x27), none, none]) dX10_isTold_75 rfl (by decide) rfl rfl ?_
        refine gb_aload_n dX10_isTold_76 rfl rfl ?_
        obtain ⟨g29, hF⟩ := gb_gdE hF
        refine gb_getI fX10_270 dX10_isTold_77 (gb_kE g29) ?_
        refine gb_i2l dX10_isTold_80 ?_
        refine gb_aload_n dX10_isTold_81 rfl rfl ?_
        obtain ⟨g30, hF⟩ := gb_gdE hF
        refine gb_getI fX10_270 dX10_isTold_82 (gb_kE g30) ?_
        refine gb_i2l dX10_isTold_85 ?_
        refine gb_lmul dX10_isTold_86 ?_
        refine gb_iload_n dX10_isTold_87 rfl rfl ?_
        obtain ⟨x31, h32, cx31, hF⟩ := gb_bdE hF
        refine gb_cS (As := [.int x27]) (S := [.long (((gb_I h28 a8 5).toInt64) * ((gb_I h28 a8 5).toInt64))]) (v := some (.int x31)) (h1 := h32) (S2 := [.int x31, .long (((gb_I h28 a8 5).toInt64) * ((gb_I h28 a8 5).toInt64))]) dX10_isTold_88 mtX0_orders lX10_273 stX0_orders (fnX0_orders_ok _ _ cx31) (by decide) rfl (Nat.le_of_ble_eq_true rfl) (Nat.le_of_ble_eq_true rfl) rfl rfl ?_
        refine gb_i2l dX10_isTold_91 ?_
        refine gb_lmul dX10_isTold_92 ?_
        obtain ⟨x33, ex33, hF⟩ := gb_ltE hF
        refine gb_topJ ex33 ?_
        refine gb_lstore (L' := [some (.ref p0), some (.int p1), some (.ref a8), some (.int x27), some (.long x33), none]) dX10_isTold_93 (by decide) rfl rfl ?_
        refine gb_aload_n dX10_isTold_95 rfl rfl ?_
        refine gb_aload_n dX10_isTold_96 rfl rfl ?_
        refine gb_aload_n dX10_isTold_97 rfl rfl ?_
        obtain ⟨g34, hF⟩ := gb_gdE hF
        obtain ⟨a35, ea35, hF⟩ := gb_rdE hF
        refine gb_getR fX10_27 dX10_isTold_98 (gb_kE g34) ea35 ?_
        refine gb_iload_n dX10_isTold_101 rfl rfl ?_
        obtain ⟨g36, hF⟩ := gb_gdE hF
        obtain ⟨g37, hF⟩ := gb_gdE hF
        obtain ⟨a38, ea38, hF⟩ := gb_rdE hF
        refine gb_aald dX10_isTold_102 (gb_kE g36) (by decide) (gb_inE g37) ea38 ?_
        refine gb_iload_n dX10_isTold_103 rfl rfl ?_
        obtain ⟨g39, hF⟩ := gb_gdE hF
        obtain ⟨x40, h41, cx40, hF⟩ := gb_bdE hF
        refine gb_cV (As := [.ref a38, .int x27]) (S := [.ref a8]) (v := some (.ref x40)) (h1 := h41) (S2 := [.ref x40, .ref a8]) cf10 dX10_isTold_104 mtX10_lightThrough lX10_159 inX10_lightThrough seX10_lightThrough (gb_kE g39) (fnX10_lightThrough_ok _ _ cx40) (by decide) rfl (Nat.le_of_ble_eq_true rfl) (Nat.le_of_ble_eq_true rfl) rfl rfl ?_
        refine gb_lload dX10_isTold_107 rfl ?_
        obtain ⟨g42, hF⟩ := gb_gdE hF
        obtain ⟨x43, h44, cx43, hF⟩ := gb_bdE hF
        refine gb_cV (As := [.ref x40, .long x33]) (S := []) (v := none) (h1 := h44) (S2 := []) cf1 dX10_isTold_109 mtX1_gather lX10_276 inX1_gather seX1_gather (gb_kE g42) (fnX1_gather_ok _ _ cx43) (by decide) rfl (Nat.le_of_ble_eq_true rfl) (Nat.le_of_ble_eq_true rfl) rfl rfl ?_
        refine gb_iconst (v := (1 : Int32)) dX10_isTold_112 (by decide) ?_
        cases hF
        exact gb_zret dX10_isTold_113 rfl (by decide)
      · replace hF := gb_ifF c25 hF
        refine gb_iconst (v := (0 : Int32)) dX10_isTold_69 (by decide) ?_
        cases hF
        exact gb_zret dX10_isTold_70 rfl (by decide)
    · replace hF := gb_ifF c10 hF
      refine gb_aload_n dX10_isTold_23 rfl rfl ?_
      obtain ⟨g45, hF⟩ := gb_gdE hF
      refine gb_getI fX10_270 dX10_isTold_24 (gb_kE g45) ?_
      refine gb_ldc (v := (300000 : Int32)) dX10_isTold_27 kX10_154 ?_
      refine gb_icmp_gt (tgt := 36) dX10_isTold_29 (by decide) (fun c46 => ?_) (fun c46 => ?_)
      · replace hF := gb_ifT c46 hF
        refine gb_iconst (v := (0 : Int32)) dX10_isTold_36 (by decide) ?_
        exact gb_wk (fbX10_isTold_37_ok (0 : Int32) h2 r hF) trivial
      · replace hF := gb_ifF c46 hF
        refine gb_iconst (v := (1 : Int32)) dX10_isTold_32 (by decide) ?_
        refine gb_goto (tgt := 37) dX10_isTold_33 (by decide) ?_
        exact gb_wk (fbX10_isTold_37_ok (1 : Int32) h2 r hF) trivial
  · replace hF := gb_ifT c3 hF
    refine gb_iconst (v := (0 : Int32)) dX10_isTold_7 (by decide) ?_
    cases hF
    exact gb_zret dX10_isTold_8 rfl (by decide)
def fbX10_clicks_9 (h : gb_H) : Option (Int64 × gb_H) :=
  some ((-1 : Int64), h)
theorem fbX10_clicks_9_ok {X : gb_X} (h : gb_H) (r : Int64 × gb_H) (hF : fbX10_clicks_9 h = some r) : gb_Ev X 7 mX10_clicks 9 [none, none, none, none] [] h (gb_wJ r) := by
  unfold fbX10_clicks_9 at hF
  refine gb_ldc2 (v := (-1 : Int64)) dX10_clicks_9 kX10_167 ?_
  cases hF
  exact gb_lret dX10_clicks_12 rfl
def fbX10_clicks_40 (s0 : Int64) (h : gb_H) : Option (Int64 × gb_H) :=
  some (s0, h)
theorem fbX10_clicks_40_ok {X : gb_X} (s0 : Int64) (h : gb_H) (r : Int64 × gb_H) (hF : fbX10_clicks_40 s0 h = some r) : gb_Ev X 7 mX10_clicks 40 [none, none, none, none] [.long s0] h (gb_wJ r) := by
  unfold fbX10_clicks_40 at hF
  cases hF
  exact gb_lret dX10_clicks_40 rfl
def fbX10_clicks_28 (v3 : Int32) (h : gb_H) : Option (Int64 × gb_H) :=
  if v3 = (2 : Int32) then
    fbX10_clicks_40 (-1 : Int64) h
  else
    fbX10_clicks_40 (0 : Int64) h
theorem fbX10_clicks_28_ok {X : gb_X} (v3 : Int32) (h : gb_H) (r : Int64 × gb_H) (hF : fbX10_clicks_28 v3 h = some r) : gb_Ev X 7 mX10_clicks 28 [none, none, none, some (.int v3)] [] h (gb_wJ r) := by
  unfold fbX10_clicks_28 at hF
  refine gb_iload_n dX10_clicks_28 rfl rfl ?_
  refine gb_iconst (v := (2 : Int32)) dX10_clicks_29 (by decide) ?_
  refine gb_icmp_ne (tgt := 39) dX10_clicks_30 (by decide) (fun c1 => ?_) (fun c1 => ?_)
  · replace hF := gb_ifF c1 hF
    refine gb_lconst (v := (0 : Int64)) dX10_clicks_39 (by decide) ?_
    exact gb_wk (fbX10_clicks_40_ok (0 : Int64) h r hF) trivial
  · replace hF := gb_ifT c1 hF
    refine gb_ldc2 (v := (-1 : Int64)) dX10_clicks_33 kX10_167 ?_
    refine gb_goto (tgt := 40) dX10_clicks_36 (by decide) ?_
    exact gb_wk (fbX10_clicks_40_ok (-1 : Int64) h r hF) trivial
def fnX10_clicks (p0 : Nat) (p1 : Int32) (p2 : Int32) (p3 : Int32) (h : gb_H) : Option (Int64 × gb_H) :=
  if p3 < 0 then
    fbX10_clicks_9 h
  else
    if p3 ≤ (2 : Int32) then
      gb_bd (fnX10_areBits p2 h) fun x3 h4 =>
      if x3 = 0 then
        fbX10_clicks_28 p3 h4
      else
        gb_gd (gb_k h4 p0 10) <|
        gb_bd (fnX10_isTold p0 p1 h4) fun x7 h8 =>
        if x7 = 0 then
          fbX10_clicks_28 p3 h8
        else
          gb_gd (gb_k h8 p0 10) <|
          gb_rd (gb_R h8 p0 4) fun a11 =>
          gb_gd (gb_k h8 a11 31) <|
          gb_gd (gb_in h8 a11 p1) <|
          gb_rd (gb_R h8 a11 p1.toNatClampNeg) fun a14 =>
          gb_gd (gb_k h8 p0 10) <|
          gb_rd (gb_R h8 p0 12) fun a16 =>
          gb_gd (gb_k h8 p0 10) <|
          gb_rd (gb_R h8 p0 10) fun a18 =>
          gb_gd (gb_k h8 a14 1) <|
          gb_bd (fnX1_shareOfClicks a14 p2 a16 a18 h8) fun _ h21 =>
          gb_gd (gb_k h21 p0 10) <|
          gb_rd (gb_R h21 p0 10) fun a23 =>
          gb_gd (gb_k h21 a23 8) <|
          gb_bd (fnX8_part a23 p3 h21) fun x25 h26 =>
          some (x25, h26)
    else
      fbX10_clicks_9 h
theorem fnX10_clicks_ok {X : gb_X}  {p0 : Nat} {p1 : Int32} {p2 : Int32} {p3 : Int32} (h : gb_H) (r : Int64 × gb_H) (hF : fnX10_clicks p0 p1 p2 p3 h = some r) : gb_Ev X 7 mX10_clicks 0 (gb_L0 [.ref p0, .int p1, .int p2, .int p3]) [] h (gb_wJ r) := by
  unfold fnX10_clicks at hF
  refine gb_weak (L' := [some (.ref p0), some (.int p1), some (.int p2), some (.int p3)]) (And.intro rfl (And.intro rfl (And.intro rfl (And.intro rfl trivial)))) ?_
  refine gb_iload_n dX10_clicks_0 rfl rfl ?_
  refine gb_if_lt (tgt := 9) dX10_clicks_1 (by decide) (fun c1 => ?_) (fun c1 => ?_)
  · replace hF := gb_ifT c1 hF
    exact gb_wk (fbX10_clicks_9_ok h r hF) trivial
  · replace hF := gb_ifF c1 hF
    refine gb_iload_n dX10_clicks_4 rfl rfl ?_
    refine gb_iconst (v := (2 : Int32)) dX10_clicks_5 (by decide) ?_
    refine gb_icmp_le (tgt := 13) dX10_clicks_6 (by decide) (fun c2 => ?_) (fun c2 => ?_)
    · replace hF := gb_ifT c2 hF
      refine gb_iload_n dX10_clicks_13 rfl rfl ?_
      obtain ⟨x3, h4, cx3, hF⟩ := gb_bdE hF
      refine gb_cS (As := [.int p2]) (S := []) (v := some (.int x3)) (h1 := h4) (S2 := [.int x3]) dX10_clicks_14 mtX10_areBits lX10_187 stX10_areBits (fnX10_areBits_ok _ _ cx3) (by decide) rfl (Nat.le_of_ble_eq_true rfl) (Nat.le_of_ble_eq_true rfl) rfl rfl ?_
      refine gb_if_eq (tgt := 28) dX10_clicks_17 (by decide) (fun c5 => ?_) (fun c5 => ?_)
      · replace hF := gb_ifT c5 hF
        exact gb_wk (fbX10_clicks_28_ok p3 h4 r hF) (And.intro rfl trivial)
      · replace hF := gb_ifF c5 hF
        refine gb_aload_n dX10_clicks_20 rfl rfl ?_
        refine gb_iload_n dX10_clicks_21 rfl rfl ?_
        obtain ⟨g6, hF⟩ := gb_gdE hF
        obtain ⟨x7, h8, cx7, hF⟩ := gb_bdE hF
        refine gb_cV (As := [.int p1]) (S := []) (v := some (.int x7)) (h1 := h8) (S2 := [.int x7]) cf10 dX10_clicks_22 mtX10_isTold lX10_173 inX10_isTold seX10_isTold (gb_kE g6) (fnX10_isTold_ok _ _ cx7) (by decide) rfl (Nat.le_of_ble_eq_true rfl) (Nat.le_of_ble_eq_true rfl) rfl rfl ?_
        refine gb_if_ne (tgt := 41) dX10_clicks_25 (by decide) (fun c9 => ?_) (fun c9 => ?_)
        · replace hF := gb_ifF c9 hF
          refine gb_aload_n dX10_clicks_41 rfl rfl ?_
          obtain ⟨g10, hF⟩ := gb_gdE hF
          obtain ⟨a11, ea11, hF⟩ := gb_rdE hF
          refine gb_getR fX10_33 dX10_clicks_42 (gb_kE g10) ea11 ?_
          refine gb_iload_n dX10_clicks_45 rfl rfl ?_
          obtain ⟨g12, hF⟩ := gb_gdE hF
          obtain ⟨g13, hF⟩ := gb_gdE hF
          obtain ⟨a14, ea14, hF⟩ := gb_rdE hF
          refine gb_aald dX10_clicks_46 (gb_kE g12) (by decide) (gb_inE g13) ea14 ?_
          refine gb_iload_n dX10_clicks_47 rfl rfl ?_
          refine gb_aload_n dX10_clicks_48 rfl rfl ?_
          obtain ⟨g15, hF⟩ := gb_gdE hF
          obtain ⟨a16, ea16, hF⟩ := gb_rdE hF
          refine gb_getR fX10_89 dX10_clicks_49 (gb_kE g15) ea16 ?_
          refine gb_aload_n dX10_clicks_52 rfl rfl ?_
          obtain ⟨g17, hF⟩ := gb_gdE hF
          obtain ⟨a18, ea18, hF⟩ := gb_rdE hF
          refine gb_getR fX10_81 dX10_clicks_53 (gb_kE g17) ea18 ?_
          obtain ⟨g19, hF⟩ := gb_gdE hF
          obtain ⟨x20, h21, cx20, hF⟩ := gb_bdE hF
          refine gb_cV (As := [.int p2, .ref a16, .ref a18]) (S := []) (v := none) (h1 := h21) (S2 := []) cf1 dX10_clicks_56 mtX1_shareOfClicks lX10_190 inX1_shareOfClicks seX1_shareOfClicks (gb_kE g19) (fnX1_shareOfClicks_ok _ _ cx20) (by decide) rfl (Nat.le_of_ble_eq_true rfl) (Nat.le_of_ble_eq_true rfl) rfl rfl ?_
          refine gb_aload_n dX10_clicks_59 rfl rfl ?_
          obtain ⟨g22, hF⟩ := gb_gdE hF
          obtain ⟨a23, ea23, hF⟩ := gb_rdE hF
          refine gb_getR fX10_81 dX10_clicks_60 (gb_kE g22) ea23 ?_
          refine gb_iload_n dX10_clicks_63 rfl rfl ?_
          obtain ⟨g24, hF⟩ := gb_gdE hF
          obtain ⟨x25, h26, cx25, hF⟩ := gb_bdE hF
          refine gb_cV (As := [.int p3]) (S := []) (v := some (.long x25)) (h1 := h26) (S2 := [.long x25]) cf8 dX10_clicks_64 mtX8_part lX10_183 inX8_part seX8_part (gb_kE g24) (fnX8_part_ok _ _ cx25) (by decide) rfl (Nat.le_of_ble_eq_true rfl) (Nat.le_of_ble_eq_true rfl) rfl rfl ?_
          cases hF
          exact gb_lret dX10_clicks_67 rfl
        · replace hF := gb_ifT c9 hF
          exact gb_wk (fbX10_clicks_28_ok p3 h8 r hF) (And.intro rfl trivial)
    · replace hF := gb_ifF c2 hF
      exact gb_wk (fbX10_clicks_9_ok h r hF) trivial
def fbX10_count_22 (v0 : Nat) (v1 : Int32) (h : gb_H) : Option (Int32 × gb_H) :=
  if v1 = 0 then
    gb_gd (gb_k h v0 10) <|
    some (gb_I h v0 13, h)
  else
    if v1 = 1 then
      some ((-1 : Int32), h)
    else
      if v1 = 2 then
        some ((-1 : Int32), h)
      else
        if v1 = 3 then
          some ((-1 : Int32), h)
        else
          if v1 = 4 then
            some ((-1 : Int32), h)
          else
            if v1 = 5 then
              gb_gd (gb_k h v0 10) <|
              gb_rd (gb_R h v0 3) fun a9 =>
              gb_gd (gb_k h a9 2) <|
              some (gb_I h a9 1, h)
            else
              if v1 = 6 then
                gb_gd (gb_k h v0 10) <|
                gb_rd (gb_R h v0 5) fun a13 =>
                gb_gd (gb_k h a13 3) <|
                some (gb_I h a13 3, h)
              else
                if v1 = 7 then
                  gb_gd (gb_k h v0 10) <|
                  gb_rd (gb_R h v0 0) fun a17 =>
                  gb_gd (gb_k h a17 9) <|
                  some (gb_I h a17 1, h)
                else
                  some ((-1 : Int32), h)
theorem fbX10_count_22_ok {X : gb_X} (v0 : Nat) (v1 : Int32) (h : gb_H) (r : Int32 × gb_H) (hF : fbX10_count_22 v0 v1 h = some r) : gb_Ev X 1 mX10_count 22 [some (.ref v0), some (.int v1)] [] h (gb_wI r) := by
  unfold fbX10_count_22 at hF
  refine gb_iload_n dX10_count_22 rfl rfl ?_
  rcases Classical.em (v1 = 0) with c1 | c1
  · replace hF := gb_ifT c1 hF
    refine gb_tswIn (tgt := 68) (x := v1) dX10_count_23 (by rw [c1]; decide) (by rw [c1]; decide) (by rw [c1]; rfl) (by decide) ?_
    refine gb_aload_n dX10_count_68 rfl rfl ?_
    obtain ⟨g2, hF⟩ := gb_gdE hF
    refine gb_getI fX10_100 dX10_count_69 (gb_kE g2) ?_
    cases hF
    exact gb_iret dX10_count_72 rfl
  · replace hF := gb_ifF c1 hF
    rcases Classical.em (v1 = 1) with c3 | c3
    · replace hF := gb_ifT c3 hF
      refine gb_tswIn (tgt := 97) (x := v1) dX10_count_23 (by rw [c3]; decide) (by rw [c3]; decide) (by rw [c3]; rfl) (by decide) ?_
      refine gb_iconst (v := (-1 : Int32)) dX10_count_97 (by decide) ?_
      cases hF
      exact gb_iret dX10_count_98 rfl
    · replace hF := gb_ifF c3 hF
      rcases Classical.em (v1 = 2) with c4 | c4
      · replace hF := gb_ifT c4 hF
        refine gb_tswIn (tgt := 97) (x := v1) dX10_count_23 (by rw [c4]; decide) (by rw [c4]; decide) (by rw [c4]; rfl) (by decide) ?_
        refine gb_iconst (v := (-1 : Int32)) dX10_count_97 (by decide) ?_
        cases hF
        exact gb_iret dX10_count_98 rfl
      · replace hF := gb_ifF c4 hF
        rcases Classical.em (v1 = 3) with c5 | c5
        · replace hF := gb_ifT c5 hF
          refine gb_tswIn (tgt := 97) (x := v1) dX10_count_23 (by rw [c5]; decide) (by rw [c5]; decide) (by rw [c5]; rfl) (by decide) ?_
          refine gb_iconst (v := (-1 : Int32)) dX10_count_97 (by decide) ?_
          cases hF
          exact gb_iret dX10_count_98 rfl
        · replace hF := gb_ifF c5 hF
          rcases Classical.em (v1 = 4) with c6 | c6
          · replace hF := gb_ifT c6 hF
            refine gb_tswIn (tgt := 97) (x := v1) dX10_count_23 (by rw [c6]; decide) (by rw [c6]; decide) (by rw [c6]; rfl) (by decide) ?_
            refine gb_iconst (v := (-1 : Int32)) dX10_count_97 (by decide) ?_
            cases hF
            exact gb_iret dX10_count_98 rfl
          · replace hF := gb_ifF c6 hF
            rcases Classical.em (v1 = 5) with c7 | c7
            · replace hF := gb_ifT c7 hF
              refine gb_tswIn (tgt := 73) (x := v1) dX10_count_23 (by rw [c7]; decide) (by rw [c7]; decide) (by rw [c7]; rfl) (by decide) ?_
              refine gb_aload_n dX10_count_73 rfl rfl ?_
              obtain ⟨g8, hF⟩ := gb_gdE hF
              obtain ⟨a9, ea9, hF⟩ := gb_rdE hF
              refine gb_getR fX10_41 dX10_count_74 (gb_kE g8) ea9 ?_
              obtain ⟨g10, hF⟩ := gb_gdE hF
              refine gb_getI fX10_136 dX10_count_77 (gb_kE g10) ?_
              cases hF
              exact gb_iret dX10_count_80 rfl
            · replace hF := gb_ifF c7 hF
              rcases Classical.em (v1 = 6) with c11 | c11
              · replace hF := gb_ifT c11 hF
                refine gb_tswIn (tgt := 81) (x := v1) dX10_count_23 (by rw [c11]; decide) (by rw [c11]; decide) (by rw [c11]; rfl) (by decide) ?_
                refine gb_aload_n dX10_count_81 rfl rfl ?_
                obtain ⟨g12, hF⟩ := gb_gdE hF
                obtain ⟨a13, ea13, hF⟩ := gb_rdE hF
                refine gb_getR fX10_48 dX10_count_82 (gb_kE g12) ea13 ?_
                obtain ⟨g14, hF⟩ := gb_gdE hF
                refine gb_getI fX10_197 dX10_count_85 (gb_kE g14) ?_
                cases hF
                exact gb_iret dX10_count_88 rfl
              · replace hF := gb_ifF c11 hF
                rcases Classical.em (v1 = 7) with c15 | c15
                · replace hF := gb_ifT c15 hF
                  refine gb_tswIn (tgt := 89) (x := v1) dX10_count_23 (by rw [c15]; decide) (by rw [c15]; decide) (by rw [c15]; rfl) (by decide) ?_
                  refine gb_aload_n dX10_count_89 rfl rfl ?_
                  obtain ⟨g16, hF⟩ := gb_gdE hF
                  obtain ⟨a17, ea17, hF⟩ := gb_rdE hF
                  refine gb_getR fX10_12 dX10_count_90 (gb_kE g16) ea17 ?_
                  obtain ⟨g18, hF⟩ := gb_gdE hF
                  refine gb_getI fX10_116 dX10_count_93 (gb_kE g18) ?_
                  cases hF
                  exact gb_iret dX10_count_96 rfl
                · replace hF := gb_ifF c15 hF
                  refine gb_tswOut (tgt := 97) dX10_count_23 (gb_swo8 c1 c3 c4 c5 c6 c7 c11 c15) (by decide) ?_
                  refine gb_iconst (v := (-1 : Int32)) dX10_count_97 (by decide) ?_
                  cases hF
                  exact gb_iret dX10_count_98 rfl
def fnX10_count (p0 : Nat) (p1 : Int32) (h : gb_H) : Option (Int32 × gb_H) :=
  if p1 < (1 : Int32) then
    fbX10_count_22 p0 p1 h
  else
    if (4 : Int32) < p1 then
      fbX10_count_22 p0 p1 h
    else
      gb_gd (gb_k h p0 10) <|
      gb_rd (gb_R h p0 2) fun a4 =>
      gb_lt (p1 - (1 : Int32)) fun x5 =>
      gb_gd (gb_k h a4 32) <|
      gb_gd (gb_in h a4 x5) <|
      gb_rd (gb_R h a4 x5.toNatClampNeg) fun a8 =>
      gb_gd (gb_k h a8 2) <|
      some (gb_I h a8 1, h)
theorem fnX10_count_ok {X : gb_X}  {p0 : Nat} {p1 : Int32} (h : gb_H) (r : Int32 × gb_H) (hF : fnX10_count p0 p1 h = some r) : gb_Ev X 1 mX10_count 0 (gb_L0 [.ref p0, .int p1]) [] h (gb_wI r) := by
  unfold fnX10_count at hF
  refine gb_weak (L' := [some (.ref p0), some (.int p1)]) (And.intro rfl (And.intro rfl trivial)) ?_
  refine gb_iload_n dX10_count_0 rfl rfl ?_
  refine gb_iconst (v := (1 : Int32)) dX10_count_1 (by decide) ?_
  refine gb_icmp_lt (tgt := 22) dX10_count_2 (by decide) (fun c1 => ?_) (fun c1 => ?_)
  · replace hF := gb_ifT c1 hF
    exact gb_wk (fbX10_count_22_ok p0 p1 h r hF) (And.intro rfl (And.intro rfl trivial))
  · replace hF := gb_ifF c1 hF
    refine gb_iload_n dX10_count_5 rfl rfl ?_
    refine gb_iconst (v := (4 : Int32)) dX10_count_6 (by decide) ?_
    refine gb_icmp_gt (tgt := 22) dX10_count_7 (by decide) (fun c2 => ?_) (fun c2 => ?_)
    · replace hF := gb_ifT c2 hF
      exact gb_wk (fbX10_count_22_ok p0 p1 h r hF) (And.intro rfl (And.intro rfl trivial))
    · replace hF := gb_ifF c2 hF
      refine gb_aload_n dX10_count_10 rfl rfl ?_
      obtain ⟨g3, hF⟩ := gb_gdE hF
      obtain ⟨a4, ea4, hF⟩ := gb_rdE hF
      refine gb_getR fX10_27 dX10_count_11 (gb_kE g3) ea4 ?_
      refine gb_iload_n dX10_count_14 rfl rfl ?_
      refine gb_iconst (v := (1 : Int32)) dX10_count_15 (by decide) ?_
      refine gb_isub dX10_count_16 ?_
      obtain ⟨x5, ex5, hF⟩ := gb_ltE hF
      refine gb_topI ex5 ?_
      obtain ⟨g6, hF⟩ := gb_gdE hF
      obtain ⟨g7, hF⟩ := gb_gdE hF
      obtain ⟨a8, ea8, hF⟩ := gb_rdE hF
      refine gb_aald dX10_count_17 (gb_kE g6) (by decide) (gb_inE g7) ea8 ?_
      obtain ⟨g9, hF⟩ := gb_gdE hF
      refine gb_getI fX10_136 dX10_count_18 (gb_kE g9) ?_
      cases hF
      exact gb_iret dX10_count_21 rfl
def fbX10_isDay_16 (s0 : Int32) (h : gb_H) : Option (Int32 × gb_H) :=
  gb_gd (gb_b s0) <|
  some (s0, h)
theorem fbX10_isDay_16_ok {X : gb_X} (s0 : Int32) (h : gb_H) (r : Int32 × gb_H) (hF : fbX10_isDay_16 s0 h = some r) : gb_Ev X 1 mX10_isDay 16 [none] [.int s0] h (gb_wI r) := by
  unfold fbX10_isDay_16 at hF
  obtain ⟨g1, hF⟩ := gb_gdE hF
  cases hF
  exact gb_zret dX10_isDay_16 rfl (gb_bE g1)
def fbX10_isDay_15 (h : gb_H) : Option (Int32 × gb_H) :=
  fbX10_isDay_16 (0 : Int32) h
theorem fbX10_isDay_15_ok {X : gb_X} (h : gb_H) (r : Int32 × gb_H) (hF : fbX10_isDay_15 h = some r) : gb_Ev X 1 mX10_isDay 15 [none] [] h (gb_wI r) := by
  unfold fbX10_isDay_15 at hF
  refine gb_iconst (v := (0 : Int32)) dX10_isDay_15 (by decide) ?_
  exact gb_wk (fbX10_isDay_16_ok (0 : Int32) h r hF) trivial
def fnX10_isDay (p0 : Int32) (h : gb_H) : Option (Int32 × gb_H) :=
  if p0 < 0 then
    fbX10_isDay_15 h
  else
    if (1000 : Int32) ≤ p0 then
      fbX10_isDay_15 h
    else
      fbX10_isDay_16 (1 : Int32) h
theorem fnX10_isDay_ok {X : gb_X}  {p0 : Int32} (h : gb_H) (r : Int32 × gb_H) (hF : fnX10_isDay p0 h = some r) : gb_Ev X 1 mX10_isDay 0 (gb_L0 [.int p0]) [] h (gb_wI r) := by
  unfold fnX10_isDay at hF
  refine gb_weak (L' := [some (.int p0)]) (And.intro rfl trivial) ?_
  refine gb_iload_n dX10_isDay_0 rfl rfl ?_
  refine gb_if_lt (tgt := 15) dX10_isDay_1 (by decide) (fun c1 => ?_) (fun c1 => ?_)
  · replace hF := gb_ifT c1 hF
    exact gb_wk (fbX10_isDay_15_ok h r hF) trivial
  · replace hF := gb_ifF c1 hF
    refine gb_iload_n dX10_isDay_4 rfl rfl ?_
    refine gb_sipush (v := (1000 : Int32)) dX10_isDay_5 (by decide) ?_
    refine gb_icmp_ge (tgt := 15) dX10_isDay_8 (by decide) (fun c2 => ?_) (fun c2 => ?_)
    · replace hF := gb_ifT c2 hF
      exact gb_wk (fbX10_isDay_15_ok h r hF) trivial
    · replace hF := gb_ifF c2 hF
      refine gb_iconst (v := (1 : Int32)) dX10_isDay_11 (by decide) ?_
      refine gb_goto (tgt := 16) dX10_isDay_12 (by decide) ?_
      exact gb_wk (fbX10_isDay_16_ok (1 : Int32) h r hF) trivial
def fbX10_counted_26 (h : gb_H) : Option (Int32 × gb_H) :=
  some ((-1 : Int32), h)
theorem fbX10_counted_26_ok {X : gb_X} (h : gb_H) (r : Int32 × gb_H) (hF : fbX10_counted_26 h = some r) : gb_Ev X 2 mX10_counted 26 [none, none, none, none] [] h (gb_wI r) := by
  unfold fbX10_counted_26 at hF
  refine gb_iconst (v := (-1 : Int32)) dX10_counted_26 (by decide) ?_
  cases hF
  exact gb_iret dX10_counted_27 rfl
def fbX10_counted_61 (s0 : Int32) (h : gb_H) : Option (Int32 × gb_H) :=
  some (s0, h)
theorem fbX10_counted_61_ok {X : gb_X} (s0 : Int32) (h : gb_H) (r : Int32 × gb_H) (hF : fbX10_counted_61 s0 h = some r) : gb_Ev X 2 mX10_counted 61 [none, none, none, none] [.int s0] h (gb_wI r) := by
  unfold fbX10_counted_61 at hF
  cases hF
  exact gb_iret dX10_counted_61 rfl
def fbX10_counted_28 (v0 : Nat) (v1 : Int32) (v2 : Int32) (v3 : Int32) (h : gb_H) : Option (Int32 × gb_H) :=
  gb_gd (gb_k h v0 10) <|
  gb_rd (gb_R h v0 5) fun a2 =>
  gb_gd (gb_k h a2 3) <|
  gb_bd (fnX3_tally a2 v1 v3 h) fun _ h5 =>
  if v2 = (-1 : Int32) then
    gb_gd (gb_k h5 v0 10) <|
    gb_rd (gb_R h5 v0 5) fun a8 =>
    gb_gd (gb_k h5 a8 3) <|
    fbX10_counted_61 (gb_I h5 a8 5) h5
  else
    gb_gd (gb_k h5 v0 10) <|
    gb_rd (gb_R h5 v0 5) fun a11 =>
    gb_gd (gb_k h5 a11 3) <|
    gb_rd (gb_R h5 a11 4) fun a13 =>
    gb_gd (gb_k h5 a13 20) <|
    gb_gd (gb_in h5 a13 v2) <|
    fbX10_counted_61 (gb_I h5 a13 v2.toNatClampNeg) h5
theorem fbX10_counted_28_ok {X : gb_X} (v0 : Nat) (v1 : Int32) (v2 : Int32) (v3 : Int32) (h : gb_H) (r : Int32 × gb_H) (hF : fbX10_counted_28 v0 v1 v2 v3 h = some r) : gb_Ev X 2 mX10_counted 28 [some (.ref v0), some (.int v1), some (.int v2), some (.int v3)] [] h (gb_wI r) := by
  unfold fbX10_counted_28 at hF
  refine gb_aload_n dX10_counted_28 rfl rfl ?_
  obtain ⟨g1, hF⟩ := gb_gdE hF
  obtain ⟨a2, ea2, hF⟩ := gb_rdE hF
  refine gb_getR fX10_48 dX10_counted_29 (gb_kE g1) ea2 ?_
  refine gb_iload_n dX10_counted_32 rfl rfl ?_
  refine gb_iload_n dX10_counted_33 rfl rfl ?_
  obtain ⟨g3, hF⟩ := gb_gdE hF
  obtain ⟨x4, h5, cx4, hF⟩ := gb_bdE hF
  refine gb_cV (As := [.int v1, .int v3]) (S := []) (v := none) (h1 := h5) (S2 := []) cf3 dX10_counted_34 mtX3_tally lX10_201 inX3_tally seX3_tally (gb_kE g3) (fnX3_tally_ok _ _ cx4) (by decide) rfl (Nat.le_of_ble_eq_true rfl) (Nat.le_of_ble_eq_true rfl) rfl rfl ?_
  refine gb_iload_n dX10_counted_37 rfl rfl ?_
  refine gb_iconst (v := (-1 : Int32)) dX10_counted_38 (by decide) ?_
  refine gb_icmp_ne (tgt := 52) dX10_counted_39 (by decide) (fun c6 => ?_) (fun c6 => ?_)
  · replace hF := gb_ifF c6 hF
    refine gb_aload_n dX10_counted_52 rfl rfl ?_
    obtain ⟨g10, hF⟩ := gb_gdE hF
    obtain ⟨a11, ea11, hF⟩ := gb_rdE hF
    refine gb_getR fX10_48 dX10_counted_53 (gb_kE g10) ea11 ?_
    obtain ⟨g12, hF⟩ := gb_gdE hF
    obtain ⟨a13, ea13, hF⟩ := gb_rdE hF
    refine gb_getR fX10_208 dX10_counted_56 (gb_kE g12) ea13 ?_
    refine gb_iload_n dX10_counted_59 rfl rfl ?_
    obtain ⟨g14, hF⟩ := gb_gdE hF
    obtain ⟨g15, hF⟩ := gb_gdE hF
    refine gb_iald dX10_counted_60 (gb_kE g14) (gb_inE g15) ?_
    exact gb_wk (fbX10_counted_61_ok (gb_I h5 a13 v2.toNatClampNeg) h5 r hF) trivial
  · replace hF := gb_ifT c6 hF
    refine gb_aload_n dX10_counted_42 rfl rfl ?_
    obtain ⟨g7, hF⟩ := gb_gdE hF
    obtain ⟨a8, ea8, hF⟩ := gb_rdE hF
    refine gb_getR fX10_48 dX10_counted_43 (gb_kE g7) ea8 ?_
    obtain ⟨g9, hF⟩ := gb_gdE hF
    refine gb_getI fX10_205 dX10_counted_46 (gb_kE g9) ?_
    refine gb_goto (tgt := 61) dX10_counted_49 (by decide) ?_
    exact gb_wk (fbX10_counted_61_ok (gb_I h5 a8 5) h5 r hF) trivial
def fnX10_counted (p0 : Nat) (p1 : Int32) (p2 : Int32) (p3 : Int32) (h : gb_H) : Option (Int32 × gb_H) :=
  gb_bd (fnX10_isBench p1 h) fun x1 h2 =>
  if x1 = 0 then
    fbX10_counted_26 h2
  else
    gb_bd (fnX10_isDay p3 h2) fun x4 h5 =>
    if x4 = 0 then
      fbX10_counted_26 h5
    else
      if p2 = (-1 : Int32) then
        fbX10_counted_28 p0 p1 p2 p3 h5
      else
        gb_bd (fnX10_areBits p2 h5) fun x8 h9 =>
        if x8 = 0 then
          fbX10_counted_26 h9
        else
          fbX10_counted_28 p0 p1 p2 p3 h9
theorem fnX10_counted_ok {X : gb_X}  {p0 : Nat} {p1 : Int32} {p2 : Int32} {p3 : Int32} (h : gb_H) (r : Int32 × gb_H) (hF : fnX10_counted p0 p1 p2 p3 h = some r) : gb_Ev X 2 mX10_counted 0 (gb_L0 [.ref p0, .int p1, .int p2, .int p3]) [] h (gb_wI r) := by
  unfold fnX10_counted at hF
  refine gb_weak (L' := [some (.ref p0), some (.int p1), some (.int p2), some (.int p3)]) (And.intro rfl (And.intro rfl (And.intro rfl (And.intro rfl trivial)))) ?_
  refine gb_iload_n dX10_counted_0 rfl rfl ?_
  obtain ⟨x1, h2, cx1, hF⟩ := gb_bdE hF
  refine gb_cS (As := [.int p1]) (S := []) (v := some (.int x1)) (h1 := h2) (S2 := [.int x1]) dX10_counted_1 mtX10_isBench lX10_119 stX10_isBench (fnX10_isBench_ok _ _ cx1) (by decide) rfl (Nat.le_of_ble_eq_true rfl) (Nat.le_of_ble_eq_true rfl) rfl rfl ?_
  refine gb_if_eq (tgt := 26) dX10_counted_4 (by decide) (fun c3 => ?_) (fun c3 => ?_)
  · replace hF := gb_ifT c3 hF
    exact gb_wk (fbX10_counted_26_ok h2 r hF) trivial
  · replace hF := gb_ifF c3 hF
    refine gb_iload_n dX10_counted_7 rfl rfl ?_
    obtain ⟨x4, h5, cx4, hF⟩ := gb_bdE hF
    refine gb_cS (As := [.int p3]) (S := []) (v := some (.int x4)) (h1 := h5) (S2 := [.int x4]) dX10_counted_8 mtX10_isDay lX10_194 stX10_isDay (fnX10_isDay_ok _ _ cx4) (by decide) rfl (Nat.le_of_ble_eq_true rfl) (Nat.le_of_ble_eq_true rfl) rfl rfl ?_
    refine gb_if_eq (tgt := 26) dX10_counted_11 (by decide) (fun c6 => ?_) (fun c6 => ?_)
    · replace hF := gb_ifT c6 hF
      exact gb_wk (fbX10_counted_26_ok h5 r hF) trivial
    · replace hF := gb_ifF c6 hF
      refine gb_iload_n dX10_counted_14 rfl rfl ?_
      refine gb_iconst (v := (-1 : Int32)) dX10_counted_15 (by decide) ?_
      refine gb_icmp_eq (tgt := 28) dX10_counted_16 (by decide) (fun c7 => ?_) (fun c7 => ?_)
      · replace hF := gb_ifT c7 hF
        exact gb_wk (fbX10_counted_28_ok p0 p1 p2 p3 h5 r hF) (And.intro rfl (And.intro rfl (And.intro rfl (And.intro rfl trivial))))
      · replace hF := gb_ifF c7 hF
        refine gb_iload_n dX10_counted_19 rfl rfl ?_
        obtain ⟨x8, h9, cx8, hF⟩ := gb_bdE hF
        refine gb_cS (As := [.int p2]) (S := []) (v := some (.int x8)) (h1 := h9) (S2 := [.int x8]) dX10_counted_20 mtX10_areBits lX10_187 stX10_areBits (fnX10_areBits_ok _ _ cx8) (by decide) rfl (Nat.le_of_ble_eq_true rfl) (Nat.le_of_ble_eq_true rfl) rfl rfl ?_
        refine gb_if_ne (tgt := 28) dX10_counted_23 (by decide) (fun c10 => ?_) (fun c10 => ?_)
        · replace hF := gb_ifF c10 hF
          exact gb_wk (fbX10_counted_28_ok p0 p1 p2 p3 h9 r hF) (And.intro rfl (And.intro rfl (And.intro rfl (And.intro rfl trivial))))
        · replace hF := gb_ifT c10 hF
          exact gb_wk (fbX10_counted_26_ok h9 r hF) trivial
def fbX10_dark_19 (v0 : Nat) (h : gb_H) : Option (Int32 × gb_H) :=
  gb_gd (gb_k h v0 10) <|
  gb_bd (fnX10_refuse v0 (-1 : Int32) h) fun x2 h3 =>
  some (x2, h3)
theorem fbX10_dark_19_ok {X : gb_X} (v0 : Nat) (h : gb_H) (r : Int32 × gb_H) (hF : fbX10_dark_19 v0 h = some r) : gb_Ev X 2 mX10_dark 19 [some (.ref v0), none, none, none] [] h (gb_wI r) := by
  unfold fbX10_dark_19 at hF
  refine gb_aload_n dX10_dark_19 rfl rfl ?_
  refine gb_iconst (v := (-1 : Int32)) dX10_dark_20 (by decide) ?_
  obtain ⟨g1, hF⟩ := gb_gdE hF
  obtain ⟨x2, h3, cx2, hF⟩ := gb_bdE hF
  refine gb_cV (As := [.int (-1 : Int32)]) (S := []) (v := some (.int x2)) (h1 := h3) (S2 := [.int x2]) cf10 dX10_dark_21 mtX10_refuse lX10_96 inX10_refuse seX10_refuse (gb_kE g1) (fnX10_refuse_ok _ _ cx2) (by decide) rfl (Nat.le_of_ble_eq_true rfl) (Nat.le_of_ble_eq_true rfl) rfl rfl ?_
  cases hF
  exact gb_iret dX10_dark_24 rfl
def fnX10_dark (p0 : Nat) (p1 : Int32) (p2 : Int32) (h : gb_H) : Option (Int32 × gb_H) :=
  if p1 < 0 then
    fbX10_dark_19 p0 h
  else
    if (5 : Int32) ≤ p1 then
      fbX10_dark_19 p0 h
    else
      if p2 < 0 then
        fbX10_dark_19 p0 h
      else
        if p2 < (10 : Int32) then
          gb_gd (gb_k h p0 10) <|
          gb_rd (gb_R h p0 12) fun a6 =>
          gb_gd (gb_k h a6 20) <|
          gb_gd (gb_in h a6 p1) <|
          gb_lt (gb_I h a6 p1.toNatClampNeg) fun x9 =>
          gb_gd (gb_k h p0 10) <|
          gb_rd (gb_R h p0 12) fun a11 =>
          gb_gd (gb_k h a11 20) <|
          gb_gd (gb_in h a11 p1) <|
          gb_lt (gb_sI h a11 p1.toNatClampNeg p2) fun h14 =>
          gb_gd (gb_k h14 p0 10) <|
          gb_bd (fnX10_allow p0 x9 h14) fun x16 h17 =>
          some (x16, h17)
        else
          fbX10_dark_19 p0 h
theorem fnX10_dark_ok {X : gb_X}  {p0 : Nat} {p1 : Int32} {p2 : Int32} (h : gb_H) (r : Int32 × gb_H) (hF : fnX10_dark p0 p1 p2 h = some r) : gb_Ev X 2 mX10_dark 0 (gb_L0 [.ref p0, .int p1, .int p2]) [] h (gb_wI r) := by
  unfold fnX10_dark at hF
  refine gb_weak (L' := [some (.ref p0), some (.int p1), some (.int p2), none]) (And.intro rfl (And.intro rfl (And.intro rfl trivial))) ?_
  refine gb_iload_n dX10_dark_0 rfl rfl ?_
  refine gb_if_lt (tgt := 19) dX10_dark_1 (by decide) (fun c1 => ?_) (fun c1 => ?_)
  · replace hF := gb_ifT c1 hF
    exact gb_wk (fbX10_dark_19_ok p0 h r hF) (And.intro rfl trivial)
  · replace hF := gb_ifF c1 hF
    refine gb_iload_n dX10_dark_4 rfl rfl ?_
    refine gb_iconst (v := (5 : Int32)) dX10_dark_5 (by decide) ?_
    refine gb_icmp_ge (tgt := 19) dX10_dark_6 (by decide) (fun c2 => ?_) (fun c2 => ?_)
    · replace hF := gb_ifT c2 hF
      exact gb_wk (fbX10_dark_19_ok p0 h r hF) (And.intro rfl trivial)
    · replace hF := gb_ifF c2 hF
      refine gb_iload_n dX10_dark_9 rfl rfl ?_
      refine gb_if_lt (tgt := 19) dX10_dark_10 (by decide) (fun c3 => ?_) (fun c3 => ?_)
      · replace hF := gb_ifT c3 hF
        exact gb_wk (fbX10_dark_19_ok p0 h r hF) (And.intro rfl trivial)
      · replace hF := gb_ifF c3 hF
        refine gb_iload_n dX10_dark_13 rfl rfl ?_
        refine gb_bipush (v := (10 : Int32)) dX10_dark_14 (by decide) ?_
        refine gb_icmp_lt (tgt := 25) dX10_dark_16 (by decide) (fun c4 => ?_) (fun c4 => ?_)
        · replace hF := gb_ifT c4 hF
          refine gb_aload_n dX10_dark_25 rfl rfl ?_
          obtain ⟨g5, hF⟩ := gb_gdE hF
          obtain ⟨a6, ea6, hF⟩ := gb_rdE hF
          refine gb_getR fX10_89 dX10_dark_26 (gb_kE g5) ea6 ?_
          refine gb_iload_n dX10_dark_29 rfl rfl ?_
          obtain ⟨g7, hF⟩ := gb_gdE hF
          obtain ⟨g8, hF⟩ := gb_gdE hF
          refine gb_iald dX10_dark_30 (gb_kE g7) (gb_inE g8) ?_
          obtain ⟨x9, ex9, hF⟩ := gb_ltE hF
          refine gb_topI ex9 ?_
          refine gb_istore_n (L' := [some (.ref p0), some (.int p1), some (.int p2), some (.int x9)]) dX10_dark_31 rfl (by decide) rfl rfl ?_
          refine gb_aload_n dX10_dark_32 rfl rfl ?_
          obtain ⟨g10, hF⟩ := gb_gdE hF
          obtain ⟨a11, ea11, hF⟩ := gb_rdE hF
          refine gb_getR fX10_89 dX10_dark_33 (gb_kE g10) ea11 ?_
          refine gb_iload_n dX10_dark_36 rfl rfl ?_
          refine gb_iload_n dX10_dark_37 rfl rfl ?_
          obtain ⟨g12, hF⟩ := gb_gdE hF
          obtain ⟨g13, hF⟩ := gb_gdE hF
          obtain ⟨h14, eh14, hF⟩ := gb_ltE hF
          refine gb_iast dX10_dark_38 (gb_kE g12) (gb_inE g13) (gb_hp eh14 ?_)
          refine gb_aload_n dX10_dark_39 rfl rfl ?_
          refine gb_iload_n dX10_dark_40 rfl rfl ?_
          obtain ⟨g15, hF⟩ := gb_gdE hF
          obtain ⟨x16, h17, cx16, hF⟩ := gb_bdE hF
          refine gb_cV (As := [.int x9]) (S := []) (v := some (.int x16)) (h1 := h17) (S2 := [.int x16]) cf10 dX10_dark_41 mtX10_allow lX10_106 inX10_allow seX10_allow (gb_kE g15) (fnX10_allow_ok _ _ cx16) (by decide) rfl (Nat.le_of_ble_eq_true rfl) (Nat.le_of_ble_eq_true rfl) rfl rfl ?_
          cases hF
          exact gb_iret dX10_dark_44 rfl
        · replace hF := gb_ifF c4 hF
          exact gb_wk (fbX10_dark_19_ok p0 h r hF) (And.intro rfl trivial)
def fbX10_deep_24 (s0 : Int32) (h : gb_H) : Option (Int32 × gb_H) :=
  some (s0, h)
theorem fbX10_deep_24_ok {X : gb_X} (s0 : Int32) (h : gb_H) (r : Int32 × gb_H) (hF : fbX10_deep_24 s0 h = some r) : gb_Ev X 4 mX10_deep 24 [none, none] [.int s0] h (gb_wI r) := by
  unfold fbX10_deep_24 at hF
  cases hF
  exact gb_iret dX10_deep_24 rfl
def fnX10_deep (p0 : Nat) (p1 : Int32) (h : gb_H) : Option (Int32 × gb_H) :=
  gb_bd (fnX10_isBench p1 h) fun x1 h2 =>
  if x1 = 0 then
    fbX10_deep_24 (-1 : Int32) h2
  else
    gb_gd (gb_k h2 p0 10) <|
    gb_rd (gb_R h2 p0 2) fun a5 =>
    gb_gd (gb_k h2 a5 32) <|
    gb_gd (gb_in h2 a5 p1) <|
    gb_rd (gb_R h2 a5 p1.toNatClampNeg) fun a8 =>
    gb_gd (gb_k h2 p0 10) <|
    gb_gd (gb_k h2 a8 2) <|
    gb_bd (fnX2_depthFor a8 (gb_I h2 p0 13) h2) fun x11 h12 =>
    fbX10_deep_24 x11 h12
theorem fnX10_deep_ok {X : gb_X}  {p0 : Nat} {p1 : Int32} (h : gb_H) (r : Int32 × gb_H) (hF : fnX10_deep p0 p1 h = some r) : gb_Ev X 4 mX10_deep 0 (gb_L0 [.ref p0, .int p1]) [] h (gb_wI r) := by
  unfold fnX10_deep at hF
  refine gb_weak (L' := [some (.ref p0), some (.int p1)]) (And.intro rfl (And.intro rfl trivial)) ?_
  refine gb_iload_n dX10_deep_0 rfl rfl ?_
  obtain ⟨x1, h2, cx1, hF⟩ := gb_bdE hF
  refine gb_cS (As := [.int p1]) (S := []) (v := some (.int x1)) (h1 := h2) (S2 := [.int x1]) dX10_deep_1 mtX10_isBench lX10_119 stX10_isBench (fnX10_isBench_ok _ _ cx1) (by decide) rfl (Nat.le_of_ble_eq_true rfl) (Nat.le_of_ble_eq_true rfl) rfl rfl ?_
  refine gb_if_eq (tgt := 23) dX10_deep_4 (by decide) (fun c3 => ?_) (fun c3 => ?_)
  · replace hF := gb_ifT c3 hF
    refine gb_iconst (v := (-1 : Int32)) dX10_deep_23 (by decide) ?_
    exact gb_wk (fbX10_deep_24_ok (-1 : Int32) h2 r hF) trivial
  · replace hF := gb_ifF c3 hF
    refine gb_aload_n dX10_deep_7 rfl rfl ?_
    obtain ⟨g4, hF⟩ := gb_gdE hF
    obtain ⟨a5, ea5, hF⟩ := gb_rdE hF
    refine gb_getR fX10_27 dX10_deep_8 (gb_kE g4) ea5 ?_
    refine gb_iload_n dX10_deep_11 rfl rfl ?_
    obtain ⟨g6, hF⟩ := gb_gdE hF
    obtain ⟨g7, hF⟩ := gb_gdE hF
    obtain ⟨a8, ea8, hF⟩ := gb_rdE hF
    refine gb_aald dX10_deep_12 (gb_kE g6) (by decide) (gb_inE g7) ea8 ?_
    refine gb_aload_n dX10_deep_13 rfl rfl ?_
    obtain ⟨g9, hF⟩ := gb_gdE hF
    refine gb_getI fX10_100 dX10_deep_14 (gb_kE g9) ?_
    obtain ⟨g10, hF⟩ := gb_gdE hF
    obtain ⟨x11, h12, cx11, hF⟩ := gb_bdE hF
    refine gb_cV (As := [.int (gb_I h2 p0 13)]) (S := []) (v := some (.int x11)) (h1 := h12) (S2 := [.int x11]) cf2 dX10_deep_17 mtX2_depthFor lX10_150 inX2_depthFor seX2_depthFor (gb_kE g10) (fnX2_depthFor_ok _ _ cx11) (by decide) rfl (Nat.le_of_ble_eq_true rfl) (Nat.le_of_ble_eq_true rfl) rfl rfl ?_
    refine gb_goto (tgt := 24) dX10_deep_20 (by decide) ?_
    exact gb_wk (fbX10_deep_24_ok x11 h12 r hF) trivial
def fbX10_end_15 (h : gb_H) : Option (Int32 × gb_H) :=
  some ((-1 : Int32), h)
theorem fbX10_end_15_ok {X : gb_X} (h : gb_H) (r : Int32 × gb_H) (hF : fbX10_end_15 h = some r) : gb_Ev X 1 mX10_end 15 [none, none] [] h (gb_wI r) := by
  unfold fbX10_end_15 at hF
  refine gb_iconst (v := (-1 : Int32)) dX10_end_15 (by decide) ?_
  cases hF
  exact gb_iret dX10_end_16 rfl
def fnX10_end (p0 : Nat) (p1 : Int32) (h : gb_H) : Option (Int32 × gb_H) :=
  if p1 < 0 then
    fbX10_end_15 h
  else
    gb_gd (gb_k h p0 10) <|
    gb_rd (gb_R h p0 0) fun a3 =>
    gb_gd (gb_k h a3 9) <|
    if p1 ≤ (gb_I h a3 1) then
      gb_gd (gb_k h p0 10) <|
      gb_rd (gb_R h p0 0) fun a7 =>
      gb_gd (gb_k h a7 9) <|
      gb_lt (gb_sI h a7 1 p1) fun h9 =>
      some (p1, h9)
    else
      fbX10_end_15 h
theorem fnX10_end_ok {X : gb_X}  {p0 : Nat} {p1 : Int32} (h : gb_H) (r : Int32 × gb_H) (hF : fnX10_end p0 p1 h = some r) : gb_Ev X 1 mX10_end 0 (gb_L0 [.ref p0, .int p1]) [] h (gb_wI r) := by
  unfold fnX10_end at hF
  refine gb_weak (L' := [some (.ref p0), some (.int p1)]) (And.intro rfl (And.intro rfl trivial)) ?_
  refine gb_iload_n dX10_end_0 rfl rfl ?_
  refine gb_if_lt (tgt := 15) dX10_end_1 (by decide) (fun c1 => ?_) (fun c1 => ?_)
  · replace hF := gb_ifT c1 hF
    exact gb_wk (fbX10_end_15_ok h r hF) trivial
  · replace hF := gb_ifF c1 hF
    refine gb_iload_n dX10_end_4 rfl rfl ?_
    refine gb_aload_n dX10_end_5 rfl rfl ?_
    obtain ⟨g2, hF⟩ := gb_gdE hF
    obtain ⟨a3, ea3, hF⟩ := gb_rdE hF
    refine gb_getR fX10_12 dX10_end_6 (gb_kE g2) ea3 ?_
    obtain ⟨g4, hF⟩ := gb_gdE hF
    refine gb_getI fX10_116 dX10_end_9 (gb_kE g4) ?_
    refine gb_icmp_le (tgt := 17) dX10_end_12 (by decide) (fun c5 => ?_) (fun c5 => ?_)
    · replace hF := gb_ifT c5 hF
      refine gb_aload_n dX10_end_17 rfl rfl ?_
      obtain ⟨g6, hF⟩ := gb_gdE hF
      obtain ⟨a7, ea7, hF⟩ := gb_rdE hF
      refine gb_getR fX10_12 dX10_end_18 (gb_kE g6) ea7 ?_
      refine gb_iload_n dX10_end_21 rfl rfl ?_
      obtain ⟨g8, hF⟩ := gb_gdE hF
      obtain ⟨h9, eh9, hF⟩ := gb_ltE hF
      refine gb_putI fX10_116 (gb_nff nf9_1) dX10_end_22 (gb_kE g8) (fun _ => ⟨rfl, rfl⟩) (gb_hp eh9 ?_)
      refine gb_iload_n dX10_end_25 rfl rfl ?_
      cases hF
      exact gb_iret dX10_end_26 rfl
    · replace hF := gb_ifF c5 hF
      exact gb_wk (fbX10_end_15_ok h r hF) trivial
def fnX10_fault (p0 : Nat) (h : gb_H) : Option (Int32 × gb_H) :=
  gb_gd (gb_k h p0 10) <|
  some (gb_I h p0 14, h)
theorem fnX10_fault_ok {X : gb_X}  {p0 : Nat} (h : gb_H) (r : Int32 × gb_H) (hF : fnX10_fault p0 h = some r) : gb_Ev X 1 mX10_fault 0 (gb_L0 [.ref p0]) [] h (gb_wI r) := by
  unfold fnX10_fault at hF
  refine gb_weak (L' := [some (.ref p0)]) (And.intro rfl trivial) ?_
  refine gb_aload_n dX10_fault_0 rfl rfl ?_
  obtain ⟨g1, hF⟩ := gb_gdE hF
  refine gb_getI fX10_92 dX10_fault_1 (gb_kE g1) ?_
  cases hF
  exact gb_iret dX10_fault_4 rfl
def fnX10_feed (p0 : Nat) (p1 : Int32) (p2 : Int32) (p3 : Int32) (p4 : Int32) (p5 : Int32) (h : gb_H) : Option (Int32 × gb_H) :=
  gb_gd (gb_k h p0 10) <|
  gb_rd (gb_R h p0 0) fun a2 =>
  gb_gd (gb_k h a2 9) <|
  gb_bd (fnX9_hasRoom a2 (20 : Int32) h) fun x4 h5 =>
  if x4 = 0 then
    some ((-1 : Int32), h5)
  else
    gb_gd (gb_k h5 p0 10) <|
    gb_rd (gb_R h5 p0 0) fun a8 =>
    gb_gd (gb_k h5 a8 9) <|
    gb_bd (fnX9_write a8 p1 h5) fun _ h11 =>
    gb_gd (gb_k h11 p0 10) <|
    gb_rd (gb_R h11 p0 0) fun a13 =>
    gb_gd (gb_k h11 a13 9) <|
    gb_bd (fnX9_write a13 p2 h11) fun _ h16 =>
    gb_gd (gb_k h16 p0 10) <|
    gb_rd (gb_R h16 p0 0) fun a18 =>
    gb_gd (gb_k h16 a18 9) <|
    gb_bd (fnX9_write a18 p3 h16) fun _ h21 =>
    gb_gd (gb_k h21 p0 10) <|
    gb_rd (gb_R h21 p0 0) fun a23 =>
    gb_gd (gb_k h21 a23 9) <|
    gb_bd (fnX9_write a23 p4 h21) fun _ h26 =>
    gb_gd (gb_k h26 p0 10) <|
    gb_rd (gb_R h26 p0 0) fun a28 =>
    gb_gd (gb_k h26 a28 9) <|
    gb_bd (fnX9_write a28 p5 h26) fun _ h31 =>
    gb_gd (gb_k h31 p0 10) <|
    gb_rd (gb_R h31 p0 0) fun a33 =>
    gb_gd (gb_k h31 a33 9) <|
    some (gb_I h31 a33 1, h31)
theorem fnX10_feed_ok {X : gb_X}  {p0 : Nat} {p1 : Int32} {p2 : Int32} {p3 : Int32} {p4 : Int32} {p5 : Int32} (h : gb_H) (r : Int32 × gb_H) (hF : fnX10_feed p0 p1 p2 p3 p4 p5 h = some r) : gb_Ev X 2 mX10_feed 0 (gb_L0 [.ref p0, .int p1, .int p2, .int p3, .int p4, .int p5]) [] h (gb_wI r) := by
  unfold fnX10_feed at hF
  refine gb_weak (L' := [some (.ref p0), some (.int p1), some (.int p2), some (.int p3), some (.int p4), some (.int p5)]) (And.intro rfl (And.intro rfl (And.intro rfl (And.intro rfl (And.intro rfl (And.intro rfl trivial)))))) ?_
  refine gb_aload_n dX10_feed_0 rfl rfl ?_
  obtain ⟨g1, hF⟩ := gb_gdE hF
  obtain ⟨a2, ea2, hF⟩ := gb_rdE hF
  refine gb_getR fX10_12 dX10_feed_1 (gb_kE g1) ea2 ?_
  refine gb_bipush (v := (20 : Int32)) dX10_feed_4 (by decide) ?_
  obtain ⟨g3, hF⟩ := gb_gdE hF
  obtain ⟨x4, h5, cx4, hF⟩ := gb_bdE hF
  refine gb_cV (As := [.int (20 : Int32)]) (S := []) (v := some (.int x4)) (h1 := h5) (S2 := [.int x4]) cf9 dX10_feed_6 mtX9_hasRoom lX10_109 inX9_hasRoom seX9_hasRoom (gb_kE g3) (fnX9_hasRoom_ok _ _ cx4) (by decide) rfl (Nat.le_of_ble_eq_true rfl) (Nat.le_of_ble_eq_true rfl) rfl rfl ?_
  refine gb_if_ne (tgt := 14) dX10_feed_9 (by decide) (fun c6 => ?_) (fun c6 => ?_)
  · replace hF := gb_ifF c6 hF
    refine gb_aload_n dX10_feed_14 rfl rfl ?_
    obtain ⟨g7, hF⟩ := gb_gdE hF
    obtain ⟨a8, ea8, hF⟩ := gb_rdE hF
    refine gb_getR fX10_12 dX10_feed_15 (gb_kE g7) ea8 ?_
    refine gb_iload_n dX10_feed_18 rfl rfl ?_
    obtain ⟨g9, hF⟩ := gb_gdE hF
    obtain ⟨x10, h11, cx10, hF⟩ := gb_bdE hF
    refine gb_cV (As := [.int p1]) (S := []) (v := none) (h1 := h11) (S2 := []) cf9 dX10_feed_19 mtX9_write lX10_113 inX9_write seX9_write (gb_kE g9) (fnX9_write_ok _ _ cx10) (by decide) rfl (Nat.le_of_ble_eq_true rfl) (Nat.le_of_ble_eq_true rfl) rfl rfl ?_
    refine gb_aload_n dX10_feed_22 rfl rfl ?_
    obtain ⟨g12, hF⟩ := gb_gdE hF
    obtain ⟨a13, ea13, hF⟩ := gb_rdE hF
    refine gb_getR fX10_12 dX10_feed_23 (gb_kE g12) ea13 ?_
    refine gb_iload_n dX10_feed_26 rfl rfl ?_
    obtain ⟨g14, hF⟩ := gb_gdE hF
    obtain ⟨x15, h16, cx15, hF⟩ := gb_bdE hF
    refine gb_cV (As := [.int p2]) (S := []) (v := none) (h1 := h16) (S2 := []) cf9 dX10_feed_27 mtX9_write lX10_113 inX9_write seX9_write (gb_kE g14) (fnX9_write_ok _ _ cx15) (by decide) rfl (Nat.le_of_ble_eq_true rfl) (Nat.le_of_ble_eq_true rfl) rfl rfl ?_
    refine gb_aload_n dX10_feed_30 rfl rfl ?_
    obtain ⟨g17, hF⟩ := gb_gdE hF
    obtain ⟨a18, ea18, hF⟩ := gb_rdE hF
    refine gb_getR fX10_12 dX10_feed_31 (gb_kE g17) ea18 ?_
    refine gb_iload_n dX10_feed_34 rfl rfl ?_
    obtain ⟨g19, hF⟩ := gb_gdE hF
    obtain ⟨x20, h21, cx20, hF⟩ := gb_bdE hF
    refine gb_cV (As := [.int p3]) (S := []) (v := none) (h1 := h21) (S2 := []) cf9 dX10_feed_35 mtX9_write lX10_113 inX9_write seX9_write (gb_kE g19) (fnX9_write_ok _ _ cx20) (by decide) rfl (Nat.le_of_ble_eq_true rfl) (Nat.le_of_ble_eq_true rfl) rfl rfl ?_
    refine gb_aload_n dX10_feed_38 rfl rfl ?_
    obtain ⟨g22, hF⟩ := gb_gdE hF
    obtain ⟨a23, ea23, hF⟩ := gb_rdE hF
    refine gb_getR fX10_12 dX10_feed_39 (gb_kE g22) ea23 ?_
    refine gb_iload dX10_feed_42 rfl ?_
    obtain ⟨g24, hF⟩ := gb_gdE hF
    obtain ⟨x25, h26, cx25, hF⟩ := gb_bdE hF
    refine gb_cV (As := [.int p4]) (S := []) (v := none) (h1 := h26) (S2 := []) cf9 dX10_feed_44 mtX9_write lX10_113 inX9_write seX9_write (gb_kE g24) (fnX9_write_ok _ _ cx25) (by decide) rfl (Nat.le_of_ble_eq_true rfl) (Nat.le_of_ble_eq_true rfl) rfl rfl ?_
    refine gb_aload_n dX10_feed_47 rfl rfl ?_
    obtain ⟨g27, hF⟩ := gb_gdE hF
    obtain ⟨a28, ea28, hF⟩ := gb_rdE hF
    refine gb_getR fX10_12 dX10_feed_48 (gb_kE g27) ea28 ?_
    refine gb_iload dX10_feed_51 rfl ?_
    obtain ⟨g29, hF⟩ := gb_gdE hF
    obtain ⟨x30, h31, cx30, hF⟩ := gb_bdE hF
    refine gb_cV (As := [.int p5]) (S := []) (v := none) (h1 := h31) (S2 := []) cf9 dX10_feed_53 mtX9_write lX10_113 inX9_write seX9_write (gb_kE g29) (fnX9_write_ok _ _ cx30) (by decide) rfl (Nat.le_of_ble_eq_true rfl) (Nat.le_of_ble_eq_true rfl) rfl rfl ?_
    refine gb_aload_n dX10_feed_56 rfl rfl ?_
    obtain ⟨g32, hF⟩ := gb_gdE hF
    obtain ⟨a33, ea33, hF⟩ := gb_rdE hF
    refine gb_getR fX10_12 dX10_feed_57 (gb_kE g32) ea33 ?_
    obtain ⟨g34, hF⟩ := gb_gdE hF
    refine gb_getI fX10_116 dX10_feed_60 (gb_kE g34) ?_
    cases hF
    exact gb_iret dX10_feed_63 rfl
  · replace hF := gb_ifT c6 hF
    refine gb_iconst (v := (-1 : Int32)) dX10_feed_12 (by decide) ?_
    cases hF
    exact gb_iret dX10_feed_13 rfl
def fbX10_sumApart_26 (k26 : Nat → Int32 → Int32 → Int32 → gb_H → Option (Int32 × gb_H)) (v0 : Nat) (v1 : Int32) (v3 : Int32) (v4 : Int32) (h : gb_H) : Option (Int32 × gb_H) :=
  if (32 : Int32) ≤ v4 then
    some (v3, h)
  else
    gb_gd (gb_k h v0 10) <|
    gb_rd (gb_R h v0 4) fun a3 =>
    gb_gd (gb_k h a3 31) <|
    gb_gd (gb_in h a3 v1) <|
    gb_rd (gb_R h a3 v1.toNatClampNeg) fun a6 =>
    gb_gd (gb_k h v0 10) <|
    gb_rd (gb_R h v0 12) fun a8 =>
    gb_gd (gb_k h v0 10) <|
    gb_rd (gb_R h v0 10) fun a10 =>
    gb_gd (gb_k h a6 1) <|
    gb_bd (fnX1_shareOfClicks a6 v4 a8 a10 h) fun _ h13 =>
    gb_gd (gb_k h13 v0 10) <|
    gb_rd (gb_R h13 v0 5) fun a15 =>
    gb_gd (gb_k h13 a15 3) <|
    gb_rd (gb_R h13 a15 4) fun a17 =>
    gb_gd (gb_k h13 a17 20) <|
    gb_gd (gb_in h13 a17 v4) <|
    gb_gd (gb_k h13 v0 10) <|
    gb_rd (gb_R h13 v0 5) fun a21 =>
    gb_gd (gb_k h13 a21 3) <|
    gb_lt (gb_I h13 a21 5) fun x23 =>
    gb_gd (gb_nz x23) <|
    gb_gd (gb_k h13 v0 10) <|
    gb_rd (gb_R h13 v0 10) fun a26 =>
    gb_gd (gb_k h13 a26 8) <|
    gb_bd (fnX8_thousandths a26 h13) fun x28 h29 =>
    gb_lt ((((1000 : Int32) * (gb_I h13 a17 v4.toNatClampNeg)) / x23) - x28) fun x30 =>
    gb_lt (v3 + (if 0 ≤ x30 then x30 else 0 - x30)) fun x31 =>
    gb_lt (v4 + (1 : Int32)) fun x32 =>
    k26 v0 v1 x31 x32 h29
theorem fbX10_sumApart_26_ok {X : gb_X} {k26 : Nat → Int32 → Int32 → Int32 → gb_H → Option (Int32 × gb_H)} (hk26 : ∀ v0 v1 v3 v4 h r, k26 v0 v1 v3 v4 h = some r → gb_Ev X 4 mX10_sumApart 26 [some (.ref v0), some (.int v1), none, some (.int v3), some (.int v4)] [] h (gb_wI r)) (v0 : Nat) (v1 : Int32) (v3 : Int32) (v4 : Int32) (h : gb_H) (r : Int32 × gb_H) (hF : fbX10_sumApart_26 k26 v0 v1 v3 v4 h = some r) : gb_Ev X 4 mX10_sumApart 26 [some (.ref v0), some (.int v1), none, some (.int v3), some (.int v4)] [] h (gb_wI r) := by
  unfold fbX10_sumApart_26 at hF
  refine gb_iload dX10_sumApart_26 rfl ?_
  refine gb_bipush (v := (32 : Int32)) dX10_sumApart_28 (by decide) ?_
  refine gb_icmp_ge (tgt := 94) dX10_sumApart_30 (by decide) (fun c1 => ?_) (fun c1 => ?_)
  · replace hF := gb_ifT c1 hF
    refine gb_iload_n dX10_sumApart_94 rfl rfl ?_
    cases hF
    exact gb_iret dX10_sumApart_95 rfl
  · replace hF := gb_ifF c1 hF
    refine gb_aload_n dX10_sumApart_33 rfl rfl ?_
    obtain ⟨g2, hF⟩ := gb_gdE hF
    obtain ⟨a3, ea3, hF⟩ := gb_rdE hF
    refine gb_getR fX10_33 dX10_sumApart_34 (gb_kE g2) ea3 ?_
    refine gb_iload_n dX10_sumApart_37 rfl rfl ?_
    obtain ⟨g4, hF⟩ := gb_gdE hF
    obtain ⟨g5, hF⟩ := gb_gdE hF
    obtain ⟨a6, ea6, hF⟩ := gb_rdE hF
    refine gb_aald dX10_sumApart_38 (gb_kE g4) (by decide) (gb_inE g5) ea6 ?_
    refine gb_iload dX10_sumApart_39 rfl ?_
    refine gb_aload_n dX10_sumApart_41 rfl rfl ?_
    obtain ⟨g7, hF⟩ := gb_gdE hF
    obtain ⟨a8, ea8, hF⟩ := gb_rdE hF
    refine gb_getR fX10_89 dX10_sumApart_42 (gb_kE g7) ea8 ?_
    refine gb_aload_n dX10_sumApart_45 rfl rfl ?_
    obtain ⟨g9, hF⟩ := gb_gdE hF
    obtain ⟨a10, ea10, hF⟩ := gb_rdE hF
    refine gb_getR fX10_81 dX10_sumApart_46 (gb_kE g9) ea10 ?_
    obtain ⟨g11, hF⟩ := gb_gdE hF
    obtain ⟨x12, h13, cx12, hF⟩ := gb_bdE hF
    refine gb_cV (As := [.int v4, .ref a8, .ref a10]) (S := []) (v := none) (h1 := h13) (S2 := []) cf1 dX10_sumApart_49 mtX1_shareOfClicks lX10_190 inX1_shareOfClicks seX1_shareOfClicks (gb_kE g11) (fnX1_shareOfClicks_ok _ _ cx12) (by decide) rfl (Nat.le_of_ble_eq_true rfl) (Nat.le_of_ble_eq_true rfl) rfl rfl ?_
    refine gb_iload_n dX10_sumApart_52 rfl rfl ?_
    refine gb_sipush (v := (1000 : Int32)) dX10_sumApart_53 (by decide) ?_
    refine gb_aload_n dX10_sumApart_56 rfl rfl ?_
    obtain ⟨g14, hF⟩ := gb_gdE hF
    obtain ⟨a15, ea15, hF⟩ := gb_rdE hF
    refine gb_getR fX10_48 dX10_sumApart_57 (gb_kE g14) ea15 ?_
    obtain ⟨g16, hF⟩ := gb_gdE hF
    obtain ⟨a17, ea17, hF⟩ := gb_rdE hF
    refine gb_getR fX10_208 dX10_sumApart_60 (gb_kE g16) ea17 ?_
    refine gb_iload dX10_sumApart_63 rfl ?_
    obtain ⟨g18, hF⟩ := gb_gdE hF
    obtain ⟨g19, hF⟩ := gb_gdE hF
    refine gb_iald dX10_sumApart_65 (gb_kE g18) (gb_inE g19) ?_
    refine gb_imul dX10_sumApart_66 ?_
    refine gb_aload_n dX10_sumApart_67 rfl rfl ?_
    obtain ⟨g20, hF⟩ := gb_gdE hF
    obtain ⟨a21, ea21, hF⟩ := gb_rdE hF
    refine gb_getR fX10_48 dX10_sumApart_68 (gb_kE g20) ea21 ?_
    obtain ⟨g22, hF⟩ := gb_gdE hF
    refine gb_getI fX10_205 dX10_sumApart_71 (gb_kE g22) ?_
    obtain ⟨x23, ex23, hF⟩ := gb_ltE hF
    refine gb_topI ex23 ?_
    obtain ⟨g24, hF⟩ := gb_gdE hF
    refine gb_idiv dX10_sumApart_74 (gb_nzE g24) ?_
    refine gb_aload_n dX10_sumApart_75 rfl rfl ?_
    obtain ⟨g25, hF⟩ := gb_gdE hF
    obtain ⟨a26, ea26, hF⟩ := gb_rdE hF
    refine gb_getR fX10_81 dX10_sumApart_76 (gb_kE g25) ea26 ?_
    obtain ⟨g27, hF⟩ := gb_gdE hF
    obtain ⟨x28, h29, cx28, hF⟩ := gb_bdE hF
    refine gb_cV (As := []) (S := [.int (((1000 : Int32) * (gb_I h13 a17 v4.toNatClampNeg)) / x23), .int v3]) (v := some (.int x28)) (h1 := h29) (S2 := [.int x28, .int (((1000 : Int32) * (gb_I h13 a17 v4.toNatClampNeg)) / x23), .int v3]) cf8 dX10_sumApart_79 mtX8_thousandths lX10_280 inX8_thousandths seX8_thousandths (gb_kE g27) (fnX8_thousandths_ok _ _ cx28) (by decide) rfl (Nat.le_of_ble_eq_true rfl) (Nat.le_of_ble_eq_true rfl) rfl rfl ?_
    refine gb_isub dX10_sumApart_82 ?_
    obtain ⟨x30, ex30, hF⟩ := gb_ltE hF
    refine gb_topI ex30 ?_
    refine gb_mabs dX10_sumApart_83 lmX10_283 gb_sdabs gb_mini gb_cdabs (by decide) (Nat.le_of_ble_eq_true rfl) ?_
    refine gb_iadd dX10_sumApart_86 ?_
    obtain ⟨x31, ex31, hF⟩ := gb_ltE hF
    refine gb_topI ex31 ?_
    refine gb_istore_n (L' := [some (.ref v0), some (.int v1), none, some (.int x31), some (.int v4)]) dX10_sumApart_87 rfl (by decide) rfl rfl ?_
    obtain ⟨x32, ex32, hF⟩ := gb_ltE hF
    refine gb_iinc (v := x32) (L' := [some (.ref v0), some (.int v1), none, some (.int x31), some (.int x32)]) dX10_sumApart_88 rfl (by rw [ex32]; rfl) (by decide) rfl rfl ?_
    refine gb_goto (tgt := 26) dX10_sumApart_91 (by decide) ?_
    exact gb_wk (hk26 v0 v1 x31 x32 h29 r hF) (And.intro rfl (And.intro rfl (And.intro rfl (And.intro rfl trivial))))
def lpX10_sumApart_26 (n : Nat) (v0 : Nat) (v1 : Int32) (v3 : Int32) (v4 : Int32) (h : gb_H) : Option (Int32 × gb_H) := gb_lp (σ := Nat × Int32 × Int32 × Int32 × gb_H) (fun k s => fbX10_sumApart_26 (fun v0 v1 v3 v4 h => k (v0, v1, v3, v4, h)) s.1 s.2.1 s.2.2.1 s.2.2.2.1 s.2.2.2.2) n (v0, v1, v3, v4, h)
theorem lpX10_sumApart_26_ok {X : gb_X}  (n : Nat) (v0 : Nat) (v1 : Int32) (v3 : Int32) (v4 : Int32) (h : gb_H) (r : Int32 × gb_H) (hF : lpX10_sumApart_26 n v0 v1 v3 v4 h = some r) : gb_Ev X 4 mX10_sumApart 26 [some (.ref v0), some (.int v1), none, some (.int v3), some (.int v4)] [] h (gb_wI r) := by
  exact gb_lpE (σ := Nat × Int32 × Int32 × Int32 × gb_H) (P := fun s r => gb_Ev X 4 mX10_sumApart 26 [some (.ref s.1), some (.int s.2.1), none, some (.int s.2.2.1), some (.int s.2.2.2.1)] [] s.2.2.2.2 (gb_wI r)) (fun k hk s r hs => fbX10_sumApart_26_ok (fun v0 v1 v3 v4 h r e => hk (v0, v1, v3, v4, h) r e) _ _ _ _ _ r hs) n (v0, v1, v3, v4, h) r hF
def fnX10_sumApart (p0 : Nat) (p1 : Int32) (p2 : Int32) (h : gb_H) : Option (Int32 × gb_H) :=
  gb_gd (gb_k h p0 10) <|
  gb_rd (gb_R h p0 5) fun a2 =>
  gb_gd (gb_k h a2 3) <|
  gb_bd (fnX3_tally a2 p1 p2 h) fun _ h5 =>
  gb_gd (gb_k h5 p0 10) <|
  gb_rd (gb_R h5 p0 5) fun a7 =>
  gb_gd (gb_k h5 a7 3) <|
  if 0 < (gb_I h5 a7 5) then
    lpX10_sumApart_26 gb_FU p0 p1 (0 : Int32) (0 : Int32) h5
  else
    some ((-1 : Int32), h5)
theorem fnX10_sumApart_ok {X : gb_X}  {p0 : Nat} {p1 : Int32} {p2 : Int32} (h : gb_H) (r : Int32 × gb_H) (hF : fnX10_sumApart p0 p1 p2 h = some r) : gb_Ev X 4 mX10_sumApart 0 (gb_L0 [.ref p0, .int p1, .int p2]) [] h (gb_wI r) := by
  unfold fnX10_sumApart at hF
  refine gb_weak (L' := [some (.ref p0), some (.int p1), some (.int p2), none, none]) (And.intro rfl (And.intro rfl (And.intro rfl trivial))) ?_
  refine gb_aload_n dX10_sumApart_0 rfl rfl ?_
  obtain ⟨g1, hF⟩ := gb_gdE hF
  obtain ⟨a2, ea2, hF⟩ := gb_rdE hF
  refine gb_getR fX10_48 dX10_sumApart_1 (gb_kE g1) ea2 ?_
  refine gb_iload_n dX10_sumApart_4 rfl rfl ?_
  refine gb_iload_n dX10_sumApart_5 rfl rfl ?_
  obtain ⟨g3, hF⟩ := gb_gdE hF
  obtain ⟨x4, h5, cx4, hF⟩ := gb_bdE hF
  refine gb_cV (As := [.int p1, .int p2]) (S := []) (v := none) (h1 := h5) (S2 := []) cf3 dX10_sumApart_6 mtX3_tally lX10_201 inX3_tally seX3_tally (gb_kE g3) (fnX3_tally_ok _ _ cx4) (by decide) rfl (Nat.le_of_ble_eq_true rfl) (Nat.le_of_ble_eq_true rfl) rfl rfl ?_
  refine gb_aload_n dX10_sumApart_9 rfl rfl ?_
  obtain ⟨g6, hF⟩ := gb_gdE hF
  obtain ⟨a7, ea7, hF⟩ := gb_rdE hF
  refine gb_getR fX10_48 dX10_sumApart_10 (gb_kE g6) ea7 ?_
  obtain ⟨g8, hF⟩ := gb_gdE hF
  refine gb_getI fX10_205 dX10_sumApart_13 (gb_kE g8) ?_
  refine gb_if_gt (tgt := 21) dX10_sumApart_16 (by decide) (fun c9 => ?_) (fun c9 => ?_)
  · replace hF := gb_ifT c9 hF
    refine gb_iconst (v := (0 : Int32)) dX10_sumApart_21 (by decide) ?_
    refine gb_istore_n (L' := [some (.ref p0), some (.int p1), some (.int p2), some (.int (0 : Int32)), none]) dX10_sumApart_22 rfl (by decide) rfl rfl ?_
    refine gb_iconst (v := (0 : Int32)) dX10_sumApart_23 (by decide) ?_
    refine gb_istore (L' := [some (.ref p0), some (.int p1), some (.int p2), some (.int (0 : Int32)), some (.int (0 : Int32))]) dX10_sumApart_24 (by decide) rfl rfl ?_
    exact gb_wk (lpX10_sumApart_26_ok gb_FU p0 p1 (0 : Int32) (0 : Int32) h5 r hF) (And.intro rfl (And.intro rfl (And.intro rfl (And.intro rfl trivial))))
  · replace hF := gb_ifF c9 hF
    refine gb_iconst (v := (-1 : Int32)) dX10_sumApart_19 (by decide) ?_
    cases hF
    exact gb_iret dX10_sumApart_20 rfl
def fbX10_fits_67 (k16 : Nat → Int32 → Int32 → Int32 → Int32 → gb_H → Option (Int32 × gb_H)) (v0 : Nat) (v1 : Int32) (v2 : Int32) (v3 : Int32) (v4 : Int32) (h : gb_H) : Option (Int32 × gb_H) :=
  gb_lt (v4 + (1 : Int32)) fun x1 =>
  k16 v0 v1 v2 v3 x1 h
theorem fbX10_fits_67_ok {X : gb_X} {k16 : Nat → Int32 → Int32 → Int32 → Int32 → gb_H → Option (Int32 × gb_H)} (hk16 : ∀ v0 v1 v2 v3 v4 h r, k16 v0 v1 v2 v3 v4 h = some r → gb_Ev X 7 mX10_fits 16 [some (.ref v0), some (.int v1), some (.int v2), some (.int v3), some (.int v4), none] [] h (gb_wI r)) (v0 : Nat) (v1 : Int32) (v2 : Int32) (v3 : Int32) (v4 : Int32) (h : gb_H) (r : Int32 × gb_H) (hF : fbX10_fits_67 k16 v0 v1 v2 v3 v4 h = some r) : gb_Ev X 7 mX10_fits 67 [some (.ref v0), some (.int v1), some (.int v2), some (.int v3), some (.int v4), none] [] h (gb_wI r) := by
  unfold fbX10_fits_67 at hF
  obtain ⟨x1, ex1, hF⟩ := gb_ltE hF
  refine gb_iinc (v := x1) (L' := [some (.ref v0), some (.int v1), some (.int v2), some (.int v3), some (.int x1), none]) dX10_fits_67 rfl (by rw [ex1]; rfl) (by decide) rfl rfl ?_
  refine gb_goto (tgt := 16) dX10_fits_70 (by decide) ?_
  exact gb_wk (hk16 v0 v1 v2 v3 x1 h r hF) (And.intro rfl (And.intro rfl (And.intro rfl (And.intro rfl (And.intro rfl trivial)))))
def fbX10_fits_61 (k16 : Nat → Int32 → Int32 → Int32 → Int32 → gb_H → Option (Int32 × gb_H)) (v0 : Nat) (v1 : Int32) (v4 : Int32) (v5 : Int32) (h : gb_H) : Option (Int32 × gb_H) :=
  fbX10_fits_67 k16 v0 v1 v4 v5 v4 h
theorem fbX10_fits_61_ok {X : gb_X} {k16 : Nat → Int32 → Int32 → Int32 → Int32 → gb_H → Option (Int32 × gb_H)} (hk16 : ∀ v0 v1 v2 v3 v4 h r, k16 v0 v1 v2 v3 v4 h = some r → gb_Ev X 7 mX10_fits 16 [some (.ref v0), some (.int v1), some (.int v2), some (.int v3), some (.int v4), none] [] h (gb_wI r)) (v0 : Nat) (v1 : Int32) (v4 : Int32) (v5 : Int32) (h : gb_H) (r : Int32 × gb_H) (hF : fbX10_fits_61 k16 v0 v1 v4 v5 h = some r) : gb_Ev X 7 mX10_fits 61 [some (.ref v0), some (.int v1), none, none, some (.int v4), some (.int v5)] [] h (gb_wI r) := by
  unfold fbX10_fits_61 at hF
  refine gb_iload dX10_fits_61 rfl ?_
  refine gb_istore_n (L' := [some (.ref v0), some (.int v1), some (.int v4), none, some (.int v4), some (.int v5)]) dX10_fits_63 rfl (by decide) rfl rfl ?_
  refine gb_iload dX10_fits_64 rfl ?_
  refine gb_istore_n (L' := [some (.ref v0), some (.int v1), some (.int v4), some (.int v5), some (.int v4), some (.int v5)]) dX10_fits_66 rfl (by decide) rfl rfl ?_
  exact gb_wk (fbX10_fits_67_ok hk16 v0 v1 v4 v5 v4 h r hF) (And.intro rfl (And.intro rfl (And.intro rfl (And.intro rfl (And.intro rfl trivial)))))
def fbX10_fits_42 (k16 : Nat → Int32 → Int32 → Int32 → Int32 → gb_H → Option (Int32 × gb_H)) (v0 : Nat) (v1 : Int32) (v2 : Int32) (v3 : Int32) (v4 : Int32) (s0 : Int32) (h : gb_H) : Option (Int32 × gb_H) :=
  if s0 = (-1 : Int32) then
    fbX10_fits_67 k16 v0 v1 v2 v3 v4 h
  else
    if v2 = (-1 : Int32) then
      fbX10_fits_61 k16 v0 v1 v4 s0 h
    else
      if v3 ≤ s0 then
        fbX10_fits_67 k16 v0 v1 v2 v3 v4 h
      else
        fbX10_fits_61 k16 v0 v1 v4 s0 h
theorem fbX10_fits_42_ok {X : gb_X} {k16 : Nat → Int32 → Int32 → Int32 → Int32 → gb_H → Option (Int32 × gb_H)} (hk16 : ∀ v0 v1 v2 v3 v4 h r, k16 v0 v1 v2 v3 v4 h = some r → gb_Ev X 7 mX10_fits 16 [some (.ref v0), some (.int v1), some (.int v2), some (.int v3), some (.int v4), none] [] h (gb_wI r)) (v0 : Nat) (v1 : Int32) (v2 : Int32) (v3 : Int32) (v4 : Int32) (s0 : Int32) (h : gb_H) (r : Int32 × gb_H) (hF : fbX10_fits_42 k16 v0 v1 v2 v3 v4 s0 h = some r) : gb_Ev X 7 mX10_fits 42 [some (.ref v0), some (.int v1), some (.int v2), some (.int v3), some (.int v4), none] [.int s0] h (gb_wI r) := by
  unfold fbX10_fits_42 at hF
  refine gb_istore (L' := [some (.ref v0), some (.int v1), some (.int v2), some (.int v3), some (.int v4), some (.int s0)]) dX10_fits_42 (by decide) rfl rfl ?_
  refine gb_iload dX10_fits_44 rfl ?_
  refine gb_iconst (v := (-1 : Int32)) dX10_fits_46 (by decide) ?_
  refine gb_icmp_eq (tgt := 67) dX10_fits_47 (by decide) (fun c1 => ?_) (fun c1 => ?_)
  · replace hF := gb_ifT c1 hF
    exact gb_wk (fbX10_fits_67_ok hk16 v0 v1 v2 v3 v4 h r hF) (And.intro rfl (And.intro rfl (And.intro rfl (And.intro rfl (And.intro rfl trivial)))))
  · replace hF := gb_ifF c1 hF
    refine gb_iload_n dX10_fits_50 rfl rfl ?_
    refine gb_iconst (v := (-1 : Int32)) dX10_fits_51 (by decide) ?_
    refine gb_icmp_eq (tgt := 61) dX10_fits_52 (by decide) (fun c2 => ?_) (fun c2 => ?_)
    · replace hF := gb_ifT c2 hF
      exact gb_wk (fbX10_fits_61_ok hk16 v0 v1 v4 s0 h r hF) (And.intro rfl (And.intro rfl (And.intro rfl (And.intro rfl trivial))))
    · replace hF := gb_ifF c2 hF
      refine gb_iload dX10_fits_55 rfl ?_
      refine gb_iload_n dX10_fits_57 rfl rfl ?_
      refine gb_icmp_ge (tgt := 67) dX10_fits_58 (by decide) (fun c3 => ?_) (fun c3 => ?_)
      · replace hF := gb_ifT c3 hF
        exact gb_wk (fbX10_fits_67_ok hk16 v0 v1 v2 v3 v4 h r hF) (And.intro rfl (And.intro rfl (And.intro rfl (And.intro rfl (And.intro rfl trivial)))))
      · replace hF := gb_ifF c3 hF
        exact gb_wk (fbX10_fits_61_ok hk16 v0 v1 v4 s0 h r hF) (And.intro rfl (And.intro rfl (And.intro rfl (And.intro rfl trivial))))
def fbX10_fits_16 (k16 : Nat → Int32 → Int32 → Int32 → Int32 → gb_H → Option (Int32 × gb_H)) (v0 : Nat) (v1 : Int32) (v2 : Int32) (v3 : Int32) (v4 : Int32) (h : gb_H) : Option (Int32 × gb_H) :=
  if (4 : Int32) ≤ v4 then
    some (v2, h)
  else
    gb_gd (gb_k h v0 10) <|
    gb_bd (fnX10_isTold v0 v4 h) fun x3 h4 =>
    if x3 = 0 then
      fbX10_fits_42 k16 v0 v1 v2 v3 v4 (-1 : Int32) h4
    else
      gb_gd (gb_k h4 v0 10) <|
      gb_bd (fnX10_sumApart v0 v4 v1 h4) fun x7 h8 =>
      fbX10_fits_42 k16 v0 v1 v2 v3 v4 x7 h8
theorem fbX10_fits_16_ok {X : gb_X} {k16 : Nat → Int32 → Int32 → Int32 → Int32 → gb_H → Option (Int32 × gb_H)} (hk16 : ∀ v0 v1 v2 v3 v4 h r, k16 v0 v1 v2 v3 v4 h = some r → gb_Ev X 7 mX10_fits 16 [some (.ref v0), some (.int v1), some (.int v2), some (.int v3), some (.int v4), none] [] h (gb_wI r)) (v0 : Nat) (v1 : Int32) (v2 : Int32) (v3 : Int32) (v4 : Int32) (h : gb_H) (r : Int32 × gb_H) (hF : fbX10_fits_16 k16 v0 v1 v2 v3 v4 h = some r) : gb_Ev X 7 mX10_fits 16 [some (.ref v0), some (.int v1), some (.int v2), some (.int v3), some (.int v4), none] [] h (gb_wI r) := by
  unfold fbX10_fits_16 at hF
  refine gb_iload dX10_fits_16 rfl ?_
  refine gb_iconst (v := (4 : Int32)) dX10_fits_18 (by decide) ?_
  refine gb_icmp_ge (tgt := 73) dX10_fits_19 (by decide) (fun c1 => ?_) (fun c1 => ?_)
  · replace hF := gb_ifT c1 hF
    refine gb_iload_n dX10_fits_73 rfl rfl ?_
    cases hF
    exact gb_iret dX10_fits_74 rfl
  · replace hF := gb_ifF c1 hF
    refine gb_aload_n dX10_fits_22 rfl rfl ?_
    refine gb_iload dX10_fits_23 rfl ?_
    obtain ⟨g2, hF⟩ := gb_gdE hF
    obtain ⟨x3, h4, cx3, hF⟩ := gb_bdE hF
    refine gb_cV (As := [.int v4]) (S := []) (v := some (.int x3)) (h1 := h4) (S2 := [.int x3]) cf10 dX10_fits_25 mtX10_isTold lX10_173 inX10_isTold seX10_isTold (gb_kE g2) (fnX10_isTold_ok _ _ cx3) (by decide) rfl (Nat.le_of_ble_eq_true rfl) (Nat.le_of_ble_eq_true rfl) rfl rfl ?_
    refine gb_if_eq (tgt := 41) dX10_fits_28 (by decide) (fun c5 => ?_) (fun c5 => ?_)
    · replace hF := gb_ifT c5 hF
      refine gb_iconst (v := (-1 : Int32)) dX10_fits_41 (by decide) ?_
      exact gb_wk (fbX10_fits_42_ok hk16 v0 v1 v2 v3 v4 (-1 : Int32) h4 r hF) (And.intro rfl (And.intro rfl (And.intro rfl (And.intro rfl (And.intro rfl trivial)))))
    · replace hF := gb_ifF c5 hF
      refine gb_aload_n dX10_fits_31 rfl rfl ?_
      refine gb_iload dX10_fits_32 rfl ?_
      refine gb_iload_n dX10_fits_34 rfl rfl ?_
      obtain ⟨g6, hF⟩ := gb_gdE hF
      obtain ⟨x7, h8, cx7, hF⟩ := gb_bdE hF
      refine gb_cV (As := [.int v4, .int v1]) (S := []) (v := some (.int x7)) (h1 := h8) (S2 := [.int x7]) cf10 dX10_fits_35 mtX10_sumApart lX10_215 inX10_sumApart seX10_sumApart (gb_kE g6) (fnX10_sumApart_ok _ _ cx7) (by decide) rfl (Nat.le_of_ble_eq_true rfl) (Nat.le_of_ble_eq_true rfl) rfl rfl ?_
      refine gb_goto (tgt := 42) dX10_fits_38 (by decide) ?_
      exact gb_wk (fbX10_fits_42_ok hk16 v0 v1 v2 v3 v4 x7 h8 r hF) (And.intro rfl (And.intro rfl (And.intro rfl (And.intro rfl (And.intro rfl trivial)))))
def lpX10_fits_16 (n : Nat) (v0 : Nat) (v1 : Int32) (v2 : Int32) (v3 : Int32) (v4 : Int32) (h : gb_H) : Option (Int32 × gb_H) := gb_lp (σ := Nat × Int32 × Int32 × Int32 × Int32 × gb_H) (fun k s => fbX10_fits_16 (fun v0 v1 v2 v3 v4 h => k (v0, v1, v2, v3, v4, h)) s.1 s.2.1 s.2.2.1 s.2.2.2.1 s.2.2.2.2.1 s.2.2.2.2.2) n (v0, v1, v2, v3, v4, h)
theorem lpX10_fits_16_ok {X : gb_X}  (n : Nat) (v0 : Nat) (v1 : Int32) (v2 : Int32) (v3 : Int32) (v4 : Int32) (h : gb_H) (r : Int32 × gb_H) (hF : lpX10_fits_16 n v0 v1 v2 v3 v4 h = some r) : gb_Ev X 7 mX10_fits 16 [some (.ref v0), some (.int v1), some (.int v2), some (.int v3), some (.int v4), none] [] h (gb_wI r) := by
  exact gb_lpE (σ := Nat × Int32 × Int32 × Int32 × Int32 × gb_H) (P := fun s r => gb_Ev X 7 mX10_fits 16 [some (.ref s.1), some (.int s.2.1), some (.int s.2.2.1), some (.int s.2.2.2.1), some (.int s.2.2.2.2.1), none] [] s.2.2.2.2.2 (gb_wI r)) (fun k hk s r hs => fbX10_fits_16_ok (fun v0 v1 v2 v3 v4 h r e => hk (v0, v1, v2, v3, v4, h) r e) _ _ _ _ _ _ r hs) n (v0, v1, v2, v3, v4, h) r hF
def fnX10_fits (p0 : Nat) (p1 : Int32) (h : gb_H) : Option (Int32 × gb_H) :=
  gb_bd (fnX10_isDay p1 h) fun x1 h2 =>
  if x1 = 0 then
    some ((-1 : Int32), h2)
  else
    lpX10_fits_16 gb_FU p0 p1 (-1 : Int32) (0 : Int32) (0 : Int32) h2
theorem fnX10_fits_ok {X : gb_X}  {p0 : Nat} {p1 : Int32} (h : gb_H) (r : Int32 × gb_H) (hF : fnX10_fits p0 p1 h = some r) : gb_Ev X 7 mX10_fits 0 (gb_L0 [.ref p0, .int p1]) [] h (gb_wI r) := by
  unfold fnX10_fits at hF
  refine gb_weak (L' := [some (.ref p0), some (.int p1), none, none, none, none]) (And.intro rfl (And.intro rfl trivial)) ?_
  refine gb_iload_n dX10_fits_0 rfl rfl ?_
  obtain ⟨x1, h2, cx1, hF⟩ := gb_bdE hF
  refine gb_cS (As := [.int p1]) (S := []) (v := some (.int x1)) (h1 := h2) (S2 := [.int x1]) dX10_fits_1 mtX10_isDay lX10_194 stX10_isDay (fnX10_isDay_ok _ _ cx1) (by decide) rfl (Nat.le_of_ble_eq_true rfl) (Nat.le_of_ble_eq_true rfl) rfl rfl ?_
  refine gb_if_ne (tgt := 9) dX10_fits_4 (by decide) (fun c3 => ?_) (fun c3 => ?_)
  · replace hF := gb_ifF c3 hF
    refine gb_iconst (v := (-1 : Int32)) dX10_fits_9 (by decide) ?_
    refine gb_istore_n (L' := [some (.ref p0), some (.int p1), some (.int (-1 : Int32)), none, none, none]) dX10_fits_10 rfl (by decide) rfl rfl ?_
    refine gb_iconst (v := (0 : Int32)) dX10_fits_11 (by decide) ?_
    refine gb_istore_n (L' := [some (.ref p0), some (.int p1), some (.int (-1 : Int32)), some (.int (0 : Int32)), none, none]) dX10_fits_12 rfl (by decide) rfl rfl ?_
    refine gb_iconst (v := (0 : Int32)) dX10_fits_13 (by decide) ?_
    refine gb_istore (L' := [some (.ref p0), some (.int p1), some (.int (-1 : Int32)), some (.int (0 : Int32)), some (.int (0 : Int32)), none]) dX10_fits_14 (by decide) rfl rfl ?_
    exact gb_wk (lpX10_fits_16_ok gb_FU p0 p1 (-1 : Int32) (0 : Int32) (0 : Int32) h2 r hF) (And.intro rfl (And.intro rfl (And.intro rfl (And.intro rfl (And.intro rfl trivial)))))
  · replace hF := gb_ifT c3 hF
    refine gb_iconst (v := (-1 : Int32)) dX10_fits_7 (by decide) ?_
    cases hF
    exact gb_iret dX10_fits_8 rfl
def fbX10_grain_10 (v0 : Nat) (h : gb_H) : Option (Int32 × gb_H) :=
  gb_gd (gb_k h v0 10) <|
  gb_bd (fnX10_refuse v0 (-1 : Int32) h) fun x2 h3 =>
  some (x2, h3)
theorem fbX10_grain_10_ok {X : gb_X} (v0 : Nat) (h : gb_H) (r : Int32 × gb_H) (hF : fbX10_grain_10 v0 h = some r) : gb_Ev X 2 mX10_grain 10 [some (.ref v0), none] [] h (gb_wI r) := by
  unfold fbX10_grain_10 at hF
  refine gb_aload_n dX10_grain_10 rfl rfl ?_
  refine gb_iconst (v := (-1 : Int32)) dX10_grain_11 (by decide) ?_
  obtain ⟨g1, hF⟩ := gb_gdE hF
  obtain ⟨x2, h3, cx2, hF⟩ := gb_bdE hF
  refine gb_cV (As := [.int (-1 : Int32)]) (S := []) (v := some (.int x2)) (h1 := h3) (S2 := [.int x2]) cf10 dX10_grain_12 mtX10_refuse lX10_96 inX10_refuse seX10_refuse (gb_kE g1) (fnX10_refuse_ok _ _ cx2) (by decide) rfl (Nat.le_of_ble_eq_true rfl) (Nat.le_of_ble_eq_true rfl) rfl rfl ?_
  cases hF
  exact gb_iret dX10_grain_15 rfl
def fnX10_grain (p0 : Nat) (p1 : Int32) (h : gb_H) : Option (Int32 × gb_H) :=
  if p1 < 0 then
    fbX10_grain_10 p0 h
  else
    if p1 < (10 : Int32) then
      gb_gd (gb_k h p0 10) <|
      if (gb_I h p0 13) < (3 : Int32) then
        gb_gd (gb_k h p0 10) <|
        gb_rd (gb_R h p0 11) fun a6 =>
        gb_gd (gb_k h p0 10) <|
        gb_lt (gb_I h p0 13) fun x8 =>
        gb_gd (gb_k h a6 20) <|
        gb_gd (gb_in h a6 x8) <|
        gb_lt (gb_sI h a6 x8.toNatClampNeg (p1 + (1 : Int32))) fun h11 =>
        gb_gd (gb_k h11 p0 10) <|
        gb_gd (gb_k h11 p0 10) <|
        gb_lt (gb_sI h11 p0 13 ((gb_I h11 p0 13) + (1 : Int32))) fun h14 =>
        gb_gd (gb_k h14 p0 10) <|
        gb_bd (fnX10_forgetChances p0 h14) fun _ h17 =>
        gb_gd (gb_k h17 p0 10) <|
        gb_gd (gb_k h17 p0 10) <|
        gb_bd (fnX10_allow p0 (gb_I h17 p0 13) h17) fun x20 h21 =>
        some (x20, h21)
      else
        gb_gd (gb_k h p0 10) <|
        gb_bd (fnX10_refuse p0 (-5 : Int32) h) fun x23 h24 =>
        some (x23, h24)
    else
      fbX10_grain_10 p0 h
theorem fnX10_grain_ok {X : gb_X}  {p0 : Nat} {p1 : Int32} (h : gb_H) (r : Int32 × gb_H) (hF : fnX10_grain p0 p1 h = some r) : gb_Ev X 2 mX10_grain 0 (gb_L0 [.ref p0, .int p1]) [] h (gb_wI r) := by
  unfold fnX10_grain at hF
  refine gb_weak (L' := [some (.ref p0), some (.int p1)]) (And.intro rfl (And.intro rfl trivial)) ?_
  refine gb_iload_n dX10_grain_0 rfl rfl ?_
  refine gb_if_lt (tgt := 10) dX10_grain_1 (by decide) (fun c1 => ?_) (fun c1 => ?_)
  · replace hF := gb_ifT c1 hF
    exact gb_wk (fbX10_grain_10_ok p0 h r hF) (And.intro rfl trivial)
  · replace hF := gb_ifF c1 hF
    refine gb_iload_n dX10_grain_4 rfl rfl ?_
    refine gb_bipush (v := (10 : Int32)) dX10_grain_5 (by decide) ?_
    refine gb_icmp_lt (tgt := 16) dX10_grain_7 (by decide) (fun c2 => ?_) (fun c2 => ?_)
    · replace hF := gb_ifT c2 hF
      refine gb_aload_n dX10_grain_16 rfl rfl ?_
      obtain ⟨g3, hF⟩ := gb_gdE hF
      refine gb_getI fX10_100 dX10_grain_17 (gb_kE g3) ?_
      refine gb_iconst (v := (3 : Int32)) dX10_grain_20 (by decide) ?_
      refine gb_icmp_lt (tgt := 31) dX10_grain_21 (by decide) (fun c4 => ?_) (fun c4 => ?_)
      · replace hF := gb_ifT c4 hF
        refine gb_aload_n dX10_grain_31 rfl rfl ?_
        obtain ⟨g5, hF⟩ := gb_gdE hF
        obtain ⟨a6, ea6, hF⟩ := gb_rdE hF
        refine gb_getR fX10_85 dX10_grain_32 (gb_kE g5) ea6 ?_
        refine gb_aload_n dX10_grain_35 rfl rfl ?_
        obtain ⟨g7, hF⟩ := gb_gdE hF
        refine gb_getI fX10_100 dX10_grain_36 (gb_kE g7) ?_
        refine gb_iload_n dX10_grain_39 rfl rfl ?_
        refine gb_iconst (v := (1 : Int32)) dX10_grain_40 (by decide) ?_
        refine gb_iadd dX10_grain_41 ?_
        obtain ⟨x8, ex8, hF⟩ := gb_ltE hF
        refine gb_topI2 ex8 ?_
        obtain ⟨g9, hF⟩ := gb_gdE hF
        obtain ⟨g10, hF⟩ := gb_gdE hF
        obtain ⟨h11, eh11, hF⟩ := gb_ltE hF
        refine gb_iast dX10_grain_42 (gb_kE g9) (gb_inE g10) (gb_hp eh11 ?_)
        refine gb_aload_n dX10_grain_43 rfl rfl ?_
        refine gb_dup dX10_grain_44 rfl ?_
        obtain ⟨g12, hF⟩ := gb_gdE hF
        refine gb_getI fX10_100 dX10_grain_45 (gb_kE g12) ?_
        refine gb_iconst (v := (1 : Int32)) dX10_grain_48 (by decide) ?_
        refine gb_iadd dX10_grain_49 ?_
        obtain ⟨g13, hF⟩ := gb_gdE hF
        obtain ⟨h14, eh14, hF⟩ := gb_ltE hF
        refine gb_putI fX10_100 (gb_nff nf10_13) dX10_grain_50 (gb_kE g13) (fun _ => ⟨rfl, rfl⟩) (gb_hp eh14 ?_)
        refine gb_aload_n dX10_grain_53 rfl rfl ?_
        obtain ⟨g15, hF⟩ := gb_gdE hF
        obtain ⟨x16, h17, cx16, hF⟩ := gb_bdE hF
        refine gb_cV (As := []) (S := []) (v := none) (h1 := h17) (S2 := []) cf10 dX10_grain_54 mtX10_forgetChances lX10_103 inX10_forgetChances seX10_forgetChances (gb_kE g15) (fnX10_forgetChances_ok _ _ cx16) (by decide) rfl (Nat.le_of_ble_eq_true rfl) (Nat.le_of_ble_eq_true rfl) rfl rfl ?_
        refine gb_aload_n dX10_grain_57 rfl rfl ?_
        refine gb_aload_n dX10_grain_58 rfl rfl ?_
        obtain ⟨g18, hF⟩ := gb_gdE hF
        refine gb_getI fX10_100 dX10_grain_59 (gb_kE g18) ?_
        obtain ⟨g19, hF⟩ := gb_gdE hF
        obtain ⟨x20, h21, cx20, hF⟩ := gb_bdE hF
        refine gb_cV (As := [.int (gb_I h17 p0 13)]) (S := []) (v := some (.int x20)) (h1 := h21) (S2 := [.int x20]) cf10 dX10_grain_62 mtX10_allow lX10_106 inX10_allow seX10_allow (gb_kE g19) (fnX10_allow_ok _ _ cx20) (by decide) rfl (Nat.le_of_ble_eq_true rfl) (Nat.le_of_ble_eq_true rfl) rfl rfl ?_
        cases hF
        exact gb_iret dX10_grain_65 rfl
      · replace hF := gb_ifF c4 hF
        refine gb_aload_n dX10_grain_24 rfl rfl ?_
        refine gb_bipush (v := (-5 : Int32)) dX10_grain_25 (by decide) ?_
        obtain ⟨g22, hF⟩ := gb_gdE hF
        obtain ⟨x23, h24, cx23, hF⟩ := gb_bdE hF
        refine gb_cV (As := [.int (-5 : Int32)]) (S := []) (v := some (.int x23)) (h1 := h24) (S2 := [.int x23]) cf10 dX10_grain_27 mtX10_refuse lX10_96 inX10_refuse seX10_refuse (gb_kE g22) (fnX10_refuse_ok _ _ cx23) (by decide) rfl (Nat.le_of_ble_eq_true rfl) (Nat.le_of_ble_eq_true rfl) rfl rfl ?_
        cases hF
        exact gb_iret dX10_grain_30 rfl
    · replace hF := gb_ifF c2 hF
      exact gb_wk (fbX10_grain_10_ok p0 h r hF) (And.intro rfl trivial)
def fbX10_misfit_25 (s0 : Int32) (h : gb_H) : Option (Int32 × gb_H) :=
  some (s0, h)
theorem fbX10_misfit_25_ok {X : gb_X} (s0 : Int32) (h : gb_H) (r : Int32 × gb_H) (hF : fbX10_misfit_25 s0 h = some r) : gb_Ev X 7 mX10_misfit 25 [none, none, none] [.int s0] h (gb_wI r) := by
  unfold fbX10_misfit_25 at hF
  cases hF
  exact gb_iret dX10_misfit_25 rfl
def fbX10_misfit_24 (h : gb_H) : Option (Int32 × gb_H) :=
  fbX10_misfit_25 (-1 : Int32) h
theorem fbX10_misfit_24_ok {X : gb_X} (h : gb_H) (r : Int32 × gb_H) (hF : fbX10_misfit_24 h = some r) : gb_Ev X 7 mX10_misfit 24 [none, none, none] [] h (gb_wI r) := by
  unfold fbX10_misfit_24 at hF
  refine gb_iconst (v := (-1 : Int32)) dX10_misfit_24 (by decide) ?_
  exact gb_wk (fbX10_misfit_25_ok (-1 : Int32) h r hF) trivial
def fnX10_misfit (p0 : Nat) (p1 : Int32) (p2 : Int32) (h : gb_H) : Option (Int32 × gb_H) :=
  gb_bd (fnX10_isDay p2 h) fun x1 h2 =>
  if x1 = 0 then
    fbX10_misfit_24 h2
  else
    gb_gd (gb_k h2 p0 10) <|
    gb_bd (fnX10_isTold p0 p1 h2) fun x5 h6 =>
    if x5 = 0 then
      fbX10_misfit_24 h6
    else
      gb_gd (gb_k h6 p0 10) <|
      gb_bd (fnX10_sumApart p0 p1 p2 h6) fun x9 h10 =>
      fbX10_misfit_25 x9 h10
theorem fnX10_misfit_ok {X : gb_X}  {p0 : Nat} {p1 : Int32} {p2 : Int32} (h : gb_H) (r : Int32 × gb_H) (hF : fnX10_misfit p0 p1 p2 h = some r) : gb_Ev X 7 mX10_misfit 0 (gb_L0 [.ref p0, .int p1, .int p2]) [] h (gb_wI r) := by
  unfold fnX10_misfit at hF
  refine gb_weak (L' := [some (.ref p0), some (.int p1), some (.int p2)]) (And.intro rfl (And.intro rfl (And.intro rfl trivial))) ?_
  refine gb_iload_n dX10_misfit_0 rfl rfl ?_
  obtain ⟨x1, h2, cx1, hF⟩ := gb_bdE hF
  refine gb_cS (As := [.int p2]) (S := []) (v := some (.int x1)) (h1 := h2) (S2 := [.int x1]) dX10_misfit_1 mtX10_isDay lX10_194 stX10_isDay (fnX10_isDay_ok _ _ cx1) (by decide) rfl (Nat.le_of_ble_eq_true rfl) (Nat.le_of_ble_eq_true rfl) rfl rfl ?_
  refine gb_if_eq (tgt := 24) dX10_misfit_4 (by decide) (fun c3 => ?_) (fun c3 => ?_)
  · replace hF := gb_ifT c3 hF
    exact gb_wk (fbX10_misfit_24_ok h2 r hF) trivial
  · replace hF := gb_ifF c3 hF
    refine gb_aload_n dX10_misfit_7 rfl rfl ?_
    refine gb_iload_n dX10_misfit_8 rfl rfl ?_
    obtain ⟨g4, hF⟩ := gb_gdE hF
    obtain ⟨x5, h6, cx5, hF⟩ := gb_bdE hF
    refine gb_cV (As := [.int p1]) (S := []) (v := some (.int x5)) (h1 := h6) (S2 := [.int x5]) cf10 dX10_misfit_9 mtX10_isTold lX10_173 inX10_isTold seX10_isTold (gb_kE g4) (fnX10_isTold_ok _ _ cx5) (by decide) rfl (Nat.le_of_ble_eq_true rfl) (Nat.le_of_ble_eq_true rfl) rfl rfl ?_
    refine gb_if_eq (tgt := 24) dX10_misfit_12 (by decide) (fun c7 => ?_) (fun c7 => ?_)
    · replace hF := gb_ifT c7 hF
      exact gb_wk (fbX10_misfit_24_ok h6 r hF) trivial
    · replace hF := gb_ifF c7 hF
      refine gb_aload_n dX10_misfit_15 rfl rfl ?_
      refine gb_iload_n dX10_misfit_16 rfl rfl ?_
      refine gb_iload_n dX10_misfit_17 rfl rfl ?_
      obtain ⟨g8, hF⟩ := gb_gdE hF
      obtain ⟨x9, h10, cx9, hF⟩ := gb_bdE hF
      refine gb_cV (As := [.int p1, .int p2]) (S := []) (v := some (.int x9)) (h1 := h10) (S2 := [.int x9]) cf10 dX10_misfit_18 mtX10_sumApart lX10_215 inX10_sumApart seX10_sumApart (gb_kE g8) (fnX10_sumApart_ok _ _ cx9) (by decide) rfl (Nat.le_of_ble_eq_true rfl) (Nat.le_of_ble_eq_true rfl) rfl rfl ?_
      refine gb_goto (tgt := 25) dX10_misfit_21 (by decide) ?_
      exact gb_wk (fbX10_misfit_25_ok x9 h10 r hF) trivial
def fbX10_notes_31 (h : gb_H) : Option (Int64 × gb_H) :=
  some ((-2000000000 : Int64), h)
theorem fbX10_notes_31_ok {X : gb_X} (h : gb_H) (r : Int64 × gb_H) (hF : fbX10_notes_31 h = some r) : gb_Ev X 4 mX10_notes 31 [none, none, none] [] h (gb_wJ r) := by
  unfold fbX10_notes_31 at hF
  refine gb_ldc2 (v := (-2000000000 : Int64)) dX10_notes_31 kX10_229 ?_
  cases hF
  exact gb_lret dX10_notes_34 rfl
def fbX10_notes_87 (s0 : Int64) (h : gb_H) : Option (Int64 × gb_H) :=
  some (s0, h)
theorem fbX10_notes_87_ok {X : gb_X} (s0 : Int64) (h : gb_H) (r : Int64 × gb_H) (hF : fbX10_notes_87 s0 h = some r) : gb_Ev X 4 mX10_notes 87 [none, none, none] [.long s0] h (gb_wJ r) := by
  unfold fbX10_notes_87 at hF
  cases hF
  exact gb_lret dX10_notes_87 rfl
def fnX10_notes (p0 : Nat) (p1 : Int32) (p2 : Int32) (h : gb_H) : Option (Int64 × gb_H) :=
  gb_bd (fnX10_isDay p1 h) fun x1 h2 =>
  if x1 = 0 then
    fbX10_notes_31 h2
  else
    if p2 < 0 then
      fbX10_notes_31 h2
    else
      if (2 : Int32) < p2 then
        fbX10_notes_31 h2
      else
        gb_gd (gb_k h2 p0 10) <|
        gb_rd (gb_R h2 p0 5) fun a7 =>
        gb_gd (gb_k h2 p0 10) <|
        gb_rd (gb_R h2 p0 10) fun a9 =>
        gb_gd (gb_k h2 a7 3) <|
        gb_bd (fnX3_sumSides a7 p1 a9 h2) fun x11 h12 =>
        if x11 = 0 then
          fbX10_notes_31 h12
        else
          if p2 = 0 then
            gb_gd (gb_k h12 p0 10) <|
            gb_rd (gb_R h12 p0 10) fun a16 =>
            gb_gd (gb_k h12 a16 8) <|
            some (gb_L h12 a16 0, h12)
          else
            if p2 = (1 : Int32) then
              gb_gd (gb_k h12 p0 10) <|
              gb_rd (gb_R h12 p0 10) fun a20 =>
              gb_gd (gb_k h12 a20 8) <|
              some (gb_L h12 a20 2, h12)
            else
              gb_gd (gb_k h12 p0 10) <|
              gb_rd (gb_R h12 p0 10) fun a23 =>
              gb_gd (gb_k h12 a23 8) <|
              gb_gd (gb_k h12 p0 10) <|
              gb_rd (gb_R h12 p0 10) fun a26 =>
              gb_gd (gb_k h12 a26 8) <|
              if (gb_L h12 a23 0) ≤ ((2 : Int64) * (gb_L h12 a26 2)) then
                fbX10_notes_87 (0 : Int64) h12
              else
                fbX10_notes_87 (1 : Int64) h12
theorem fnX10_notes_ok {X : gb_X}  {p0 : Nat} {p1 : Int32} {p2 : Int32} (h : gb_H) (r : Int64 × gb_H) (hF : fnX10_notes p0 p1 p2 h = some r) : gb_Ev X 4 mX10_notes 0 (gb_L0 [.ref p0, .int p1, .int p2]) [] h (gb_wJ r) := by
  unfold fnX10_notes at hF
  refine gb_weak (L' := [some (.ref p0), some (.int p1), some (.int p2)]) (And.intro rfl (And.intro rfl (And.intro rfl trivial))) ?_
  refine gb_iload_n dX10_notes_0 rfl rfl ?_
  obtain ⟨x1, h2, cx1, hF⟩ := gb_bdE hF
  refine gb_cS (As := [.int p1]) (S := []) (v := some (.int x1)) (h1 := h2) (S2 := [.int x1]) dX10_notes_1 mtX10_isDay lX10_194 stX10_isDay (fnX10_isDay_ok _ _ cx1) (by decide) rfl (Nat.le_of_ble_eq_true rfl) (Nat.le_of_ble_eq_true rfl) rfl rfl ?_
  refine gb_if_eq (tgt := 31) dX10_notes_4 (by decide) (fun c3 => ?_) (fun c3 => ?_)
  · replace hF := gb_ifT c3 hF
    exact gb_wk (fbX10_notes_31_ok h2 r hF) trivial
  · replace hF := gb_ifF c3 hF
    refine gb_iload_n dX10_notes_7 rfl rfl ?_
    refine gb_if_lt (tgt := 31) dX10_notes_8 (by decide) (fun c4 => ?_) (fun c4 => ?_)
    · replace hF := gb_ifT c4 hF
      exact gb_wk (fbX10_notes_31_ok h2 r hF) trivial
    · replace hF := gb_ifF c4 hF
      refine gb_iload_n dX10_notes_11 rfl rfl ?_
      refine gb_iconst (v := (2 : Int32)) dX10_notes_12 (by decide) ?_
      refine gb_icmp_gt (tgt := 31) dX10_notes_13 (by decide) (fun c5 => ?_) (fun c5 => ?_)
      · replace hF := gb_ifT c5 hF
        exact gb_wk (fbX10_notes_31_ok h2 r hF) trivial
      · replace hF := gb_ifF c5 hF
        refine gb_aload_n dX10_notes_16 rfl rfl ?_
        obtain ⟨g6, hF⟩ := gb_gdE hF
        obtain ⟨a7, ea7, hF⟩ := gb_rdE hF
        refine gb_getR fX10_48 dX10_notes_17 (gb_kE g6) ea7 ?_
        refine gb_iload_n dX10_notes_20 rfl rfl ?_
        refine gb_aload_n dX10_notes_21 rfl rfl ?_
        obtain ⟨g8, hF⟩ := gb_gdE hF
        obtain ⟨a9, ea9, hF⟩ := gb_rdE hF
        refine gb_getR fX10_81 dX10_notes_22 (gb_kE g8) ea9 ?_
        obtain ⟨g10, hF⟩ := gb_gdE hF
        obtain ⟨x11, h12, cx11, hF⟩ := gb_bdE hF
        refine gb_cV (As := [.int p1, .ref a9]) (S := []) (v := some (.int x11)) (h1 := h12) (S2 := [.int x11]) cf3 dX10_notes_25 mtX3_sumSides lX10_225 inX3_sumSides seX3_sumSides (gb_kE g10) (fnX3_sumSides_ok _ _ cx11) (by decide) rfl (Nat.le_of_ble_eq_true rfl) (Nat.le_of_ble_eq_true rfl) rfl rfl ?_
        refine gb_if_ne (tgt := 35) dX10_notes_28 (by decide) (fun c13 => ?_) (fun c13 => ?_)
        · replace hF := gb_ifF c13 hF
          refine gb_iload_n dX10_notes_35 rfl rfl ?_
          refine gb_if_ne (tgt := 47) dX10_notes_36 (by decide) (fun c14 => ?_) (fun c14 => ?_)
          · replace hF := gb_ifF c14 hF
            refine gb_iload_n dX10_notes_47 rfl rfl ?_
            refine gb_iconst (v := (1 : Int32)) dX10_notes_48 (by decide) ?_
            refine gb_icmp_ne (tgt := 60) dX10_notes_49 (by decide) (fun c18 => ?_) (fun c18 => ?_)
            · replace hF := gb_ifF c18 hF
              refine gb_aload_n dX10_notes_60 rfl rfl ?_
              obtain ⟨g22, hF⟩ := gb_gdE hF
              obtain ⟨a23, ea23, hF⟩ := gb_rdE hF
              refine gb_getR fX10_81 dX10_notes_61 (gb_kE g22) ea23 ?_
              obtain ⟨g24, hF⟩ := gb_gdE hF
              refine gb_getL fX10_231 dX10_notes_64 (gb_kE g24) ?_
              refine gb_ldc2 (v := (2 : Int64)) dX10_notes_67 kX10_238 ?_
              refine gb_aload_n dX10_notes_70 rfl rfl ?_
              obtain ⟨g25, hF⟩ := gb_gdE hF
              obtain ⟨a26, ea26, hF⟩ := gb_rdE hF
              refine gb_getR fX10_81 dX10_notes_71 (gb_kE g25) ea26 ?_
              obtain ⟨g27, hF⟩ := gb_gdE hF
              refine gb_getL fX10_235 dX10_notes_74 (gb_kE g27) ?_
              refine gb_lmul dX10_notes_77 ?_
              refine gb_lc_le (tgt := 86) dX10_notes_78 dX10_notes_79 (by decide) (fun c28 => ?_) (fun c28 => ?_)
              · replace hF := gb_ifT c28 hF
                refine gb_lconst (v := (0 : Int64)) dX10_notes_86 (by decide) ?_
                exact gb_wk (fbX10_notes_87_ok (0 : Int64) h12 r hF) trivial
              · replace hF := gb_ifF c28 hF
                refine gb_lconst (v := (1 : Int64)) dX10_notes_82 (by decide) ?_
                refine gb_goto (tgt := 87) dX10_notes_83 (by decide) ?_
                exact gb_wk (fbX10_notes_87_ok (1 : Int64) h12 r hF) trivial
            · replace hF := gb_ifT c18 hF
              refine gb_aload_n dX10_notes_52 rfl rfl ?_
              obtain ⟨g19, hF⟩ := gb_gdE hF
              obtain ⟨a20, ea20, hF⟩ := gb_rdE hF
              refine gb_getR fX10_81 dX10_notes_53 (gb_kE g19) ea20 ?_
              obtain ⟨g21, hF⟩ := gb_gdE hF
              refine gb_getL fX10_235 dX10_notes_56 (gb_kE g21) ?_
              cases hF
              exact gb_lret dX10_notes_59 rfl
          · replace hF := gb_ifT c14 hF
            refine gb_aload_n dX10_notes_39 rfl rfl ?_
            obtain ⟨g15, hF⟩ := gb_gdE hF
            obtain ⟨a16, ea16, hF⟩ := gb_rdE hF
            refine gb_getR fX10_81 dX10_notes_40 (gb_kE g15) ea16 ?_
            obtain ⟨g17, hF⟩ := gb_gdE hF
            refine gb_getL fX10_231 dX10_notes_43 (gb_kE g17) ?_
            cases hF
            exact gb_lret dX10_notes_46 rfl
        · replace hF := gb_ifT c13 hF
          exact gb_wk (fbX10_notes_31_ok h12 r hF) trivial
def fbX10_packCounts_51 (h : gb_H) : Option (Int32 × gb_H) :=
  some ((-1 : Int32), h)
theorem fbX10_packCounts_51_ok {X : gb_X} (h : gb_H) (r : Int32 × gb_H) (hF : fbX10_packCounts_51 h = some r) : gb_Ev X 2 mX10_packCounts 51 [none, none, none, none, none, none, none] [] h (gb_wI r) := by
  unfold fbX10_packCounts_51 at hF
  refine gb_iconst (v := (-1 : Int32)) dX10_packCounts_51 (by decide) ?_
  cases hF
  exact gb_iret dX10_packCounts_52 rfl
def fnX10_packCounts (p0 : Int32) (p1 : Int32) (p2 : Int32) (p3 : Int32) (p4 : Int32) (h : gb_H) : Option (Int32 × gb_H) :=
  gb_lt (if p2 < p3 then p3 else p2) fun x1 =>
  gb_lt (if p0 < p1 then p1 else p0) fun x2 =>
  gb_lt (if x2 < x1 then x1 else x2) fun x3 =>
  gb_lt (if x3 < p4 then p4 else x3) fun x4 =>
  gb_lt (if p3 < p2 then p3 else p2) fun x5 =>
  gb_lt (if p1 < p0 then p1 else p0) fun x6 =>
  gb_lt (if x5 < x6 then x5 else x6) fun x7 =>
  gb_lt (if p4 < x7 then p4 else x7) fun x8 =>
  if x8 < 0 then
    fbX10_packCounts_51 h
  else
    if x4 ≤ (3 : Int32) then
      some ((((p0 ||| (p1 <<< ((4 : Int32) &&& 31))) ||| (p2 <<< ((8 : Int32) &&& 31))) ||| (p3 <<< ((12 : Int32) &&& 31))) ||| (p4 <<< ((16 : Int32) &&& 31)), h)
    else
      fbX10_packCounts_51 h
theorem fnX10_packCounts_ok {X : gb_X}  {p0 : Int32} {p1 : Int32} {p2 : Int32} {p3 : Int32} {p4 : Int32} (h : gb_H) (r : Int32 × gb_H) (hF : fnX10_packCounts p0 p1 p2 p3 p4 h = some r) : gb_Ev X 2 mX10_packCounts 0 (gb_L0 [.int p0, .int p1, .int p2, .int p3, .int p4]) [] h (gb_wI r) := by
  unfold fnX10_packCounts at hF
  refine gb_weak (L' := [some (.int p0), some (.int p1), some (.int p2), some (.int p3), some (.int p4), none, none]) (And.intro rfl (And.intro rfl (And.intro rfl (And.intro rfl (And.intro rfl trivial))))) ?_
  refine gb_iload_n dX10_packCounts_0 rfl rfl ?_
  refine gb_iload_n dX10_packCounts_1 rfl rfl ?_
  refine gb_mmax dX10_packCounts_2 lmX10_259 gb_sdmax gb_mini gb_cdmax (by decide) (Nat.le_of_ble_eq_true rfl) ?_
  refine gb_iload_n dX10_packCounts_5 rfl rfl ?_
  refine gb_iload_n dX10_packCounts_6 rfl rfl ?_
  refine gb_mmax dX10_packCounts_7 lmX10_259 gb_sdmax gb_mini gb_cdmax (by decide) (Nat.le_of_ble_eq_true rfl) ?_
  obtain ⟨x1, ex1, hF⟩ := gb_ltE hF
  refine gb_topI ex1 ?_
  obtain ⟨x2, ex2, hF⟩ := gb_ltE hF
  refine gb_topI2 ex2 ?_
  refine gb_mmax dX10_packCounts_10 lmX10_259 gb_sdmax gb_mini gb_cdmax (by decide) (Nat.le_of_ble_eq_true rfl) ?_
  refine gb_iload dX10_packCounts_13 rfl ?_
  obtain ⟨x3, ex3, hF⟩ := gb_ltE hF
  refine gb_topI2 ex3 ?_
  refine gb_mmax dX10_packCounts_15 lmX10_259 gb_sdmax gb_mini gb_cdmax (by decide) (Nat.le_of_ble_eq_true rfl) ?_
  obtain ⟨x4, ex4, hF⟩ := gb_ltE hF
  refine gb_topI ex4 ?_
  refine gb_istore (L' := [some (.int p0), some (.int p1), some (.int p2), some (.int p3), some (.int p4), some (.int x4), none]) dX10_packCounts_18 (by decide) rfl rfl ?_
  refine gb_iload_n dX10_packCounts_20 rfl rfl ?_
  refine gb_iload_n dX10_packCounts_21 rfl rfl ?_
  refine gb_mmin dX10_packCounts_22 lmX10_264 gb_sdmin gb_mini gb_cdmin (by decide) (Nat.le_of_ble_eq_true rfl) ?_
  refine gb_iload_n dX10_packCounts_25 rfl rfl ?_
  refine gb_iload_n dX10_packCounts_26 rfl rfl ?_
  refine gb_mmin dX10_packCounts_27 lmX10_264 gb_sdmin gb_mini gb_cdmin (by decide) (Nat.le_of_ble_eq_true rfl) ?_
  obtain ⟨x5, ex5, hF⟩ := gb_ltE hF
  refine gb_topI ex5 ?_
  obtain ⟨x6, ex6, hF⟩ := gb_ltE hF
  refine gb_topI2 ex6 ?_
  refine gb_mmin dX10_packCounts_30 lmX10_264 gb_sdmin gb_mini gb_cdmin (by decide) (Nat.le_of_ble_eq_true rfl) ?_
  refine gb_iload dX10_packCounts_33 rfl ?_
  obtain ⟨x7, ex7, hF⟩ := gb_ltE hF
  refine gb_topI2 ex7 ?_
  refine gb_mmin dX10_packCounts_35 lmX10_264 gb_sdmin gb_mini gb_cdmin (by decide) (Nat.le_of_ble_eq_true rfl) ?_
  obtain ⟨x8, ex8, hF⟩ := gb_ltE hF
  refine gb_topI ex8 ?_
  refine gb_istore (L' := [some (.int p0), some (.int p1), some (.int p2), some (.int p3), some (.int p4), some (.int x4), some (.int x8)]) dX10_packCounts_38 (by decide) rfl rfl ?_
  refine gb_iload dX10_packCounts_40 rfl ?_
  refine gb_if_lt (tgt := 51) dX10_packCounts_42 (by decide) (fun c9 => ?_) (fun c9 => ?_)
  · replace hF := gb_ifT c9 hF
    exact gb_wk (fbX10_packCounts_51_ok h r hF) trivial
  · replace hF := gb_ifF c9 hF
    refine gb_iload dX10_packCounts_45 rfl ?_
    refine gb_iconst (v := (3 : Int32)) dX10_packCounts_47 (by decide) ?_
    refine gb_icmp_le (tgt := 53) dX10_packCounts_48 (by decide) (fun c10 => ?_) (fun c10 => ?_)
    · replace hF := gb_ifT c10 hF
      refine gb_iload_n dX10_packCounts_53 rfl rfl ?_
      refine gb_iload_n dX10_packCounts_54 rfl rfl ?_
      refine gb_iconst (v := (4 : Int32)) dX10_packCounts_55 (by decide) ?_
      refine gb_ishl dX10_packCounts_56 ?_
      refine gb_ior dX10_packCounts_57 ?_
      refine gb_iload_n dX10_packCounts_58 rfl rfl ?_
      refine gb_bipush (v := (8 : Int32)) dX10_packCounts_59 (by decide) ?_
      refine gb_ishl dX10_packCounts_61 ?_
      refine gb_ior dX10_packCounts_62 ?_
      refine gb_iload_n dX10_packCounts_63 rfl rfl ?_
      refine gb_bipush (v := (12 : Int32)) dX10_packCounts_64 (by decide) ?_
      refine gb_ishl dX10_packCounts_66 ?_
      refine gb_ior dX10_packCounts_67 ?_
      refine gb_iload dX10_packCounts_68 rfl ?_
      refine gb_bipush (v := (16 : Int32)) dX10_packCounts_70 (by decide) ?_
      refine gb_ishl dX10_packCounts_72 ?_
      refine gb_ior dX10_packCounts_73 ?_
      cases hF
      exact gb_iret dX10_packCounts_74 rfl
    · replace hF := gb_ifF c10 hF
      exact gb_wk (fbX10_packCounts_51_ok h r hF) trivial
def fbX10_rowOfCounts_31 (k9 : Int32 → Int32 → Int32 → Int32 → Int32 → gb_H → Option (Int32 × gb_H)) (k31 : Int32 → Int32 → Int32 → Int32 → Int32 → Int32 → Int32 → gb_H → Option (Int32 × gb_H)) (v0 : Int32) (v1 : Int32) (v2 : Int32) (v3 : Int32) (v4 : Int32) (v5 : Int32) (v6 : Int32) (h : gb_H) : Option (Int32 × gb_H) :=
  if v5 ≤ v6 then
    gb_lt (v4 + (1 : Int32)) fun x2 =>
    k9 v0 v1 v2 v3 x2 h
  else
    if v1 = 0 then
      gb_lt (v6 + (1 : Int32)) fun x4 =>
      k31 v0 v2 v3 v4 v4 v5 x4 h
    else
      some ((-1 : Int32), h)
theorem fbX10_rowOfCounts_31_ok {X : gb_X} {k9 : Int32 → Int32 → Int32 → Int32 → Int32 → gb_H → Option (Int32 × gb_H)} {k31 : Int32 → Int32 → Int32 → Int32 → Int32 → Int32 → Int32 → gb_H → Option (Int32 × gb_H)} (hk9 : ∀ v0 v1 v2 v3 v4 h r, k9 v0 v1 v2 v3 v4 h = some r → gb_Ev X 3 mX10_rowOfCounts 9 [some (.int v0), some (.int v1), some (.int v2), some (.int v3), some (.int v4), none, none] [] h (gb_wI r)) (hk31 : ∀ v0 v1 v2 v3 v4 v5 v6 h r, k31 v0 v1 v2 v3 v4 v5 v6 h = some r → gb_Ev X 3 mX10_rowOfCounts 31 [some (.int v0), some (.int v1), some (.int v2), some (.int v3), some (.int v4), some (.int v5), some (.int v6)] [] h (gb_wI r)) (v0 : Int32) (v1 : Int32) (v2 : Int32) (v3 : Int32) (v4 : Int32) (v5 : Int32) (v6 : Int32) (h : gb_H) (r : Int32 × gb_H) (hF : fbX10_rowOfCounts_31 k9 k31 v0 v1 v2 v3 v4 v5 v6 h = some r) : gb_Ev X 3 mX10_rowOfCounts 31 [some (.int v0), some (.int v1), some (.int v2), some (.int v3), some (.int v4), some (.int v5), some (.int v6)] [] h (gb_wI r) := by
  unfold fbX10_rowOfCounts_31 at hF
  refine gb_iload dX10_rowOfCounts_31 rfl ?_
  refine gb_iload dX10_rowOfCounts_33 rfl ?_
  refine gb_icmp_ge (tgt := 57) dX10_rowOfCounts_35 (by decide) (fun c1 => ?_) (fun c1 => ?_)
  · replace hF := gb_ifT c1 hF
    obtain ⟨x2, ex2, hF⟩ := gb_ltE hF
    refine gb_iinc (v := x2) (L' := [some (.int v0), some (.int v1), some (.int v2), some (.int v3), some (.int x2), some (.int v5), some (.int v6)]) dX10_rowOfCounts_57 rfl (by rw [ex2]; rfl) (by decide) rfl rfl ?_
    refine gb_goto (tgt := 9) dX10_rowOfCounts_60 (by decide) ?_
    exact gb_wk (hk9 v0 v1 v2 v3 x2 h r hF) (And.intro rfl (And.intro rfl (And.intro rfl (And.intro rfl (And.intro rfl trivial)))))
  · replace hF := gb_ifF c1 hF
    refine gb_iload_n dX10_rowOfCounts_38 rfl rfl ?_
    refine gb_if_eq (tgt := 44) dX10_rowOfCounts_39 (by decide) (fun c3 => ?_) (fun c3 => ?_)
    · replace hF := gb_ifT c3 hF
      refine gb_iload_n dX10_rowOfCounts_44 rfl rfl ?_
      refine gb_istore_n (L' := [some (.int v0), some (.int v2), some (.int v2), some (.int v3), some (.int v4), some (.int v5), some (.int v6)]) dX10_rowOfCounts_45 rfl (by decide) rfl rfl ?_
      refine gb_iload_n dX10_rowOfCounts_46 rfl rfl ?_
      refine gb_istore_n (L' := [some (.int v0), some (.int v2), some (.int v3), some (.int v3), some (.int v4), some (.int v5), some (.int v6)]) dX10_rowOfCounts_47 rfl (by decide) rfl rfl ?_
      refine gb_iload dX10_rowOfCounts_48 rfl ?_
      refine gb_istore_n (L' := [some (.int v0), some (.int v2), some (.int v3), some (.int v4), some (.int v4), some (.int v5), some (.int v6)]) dX10_rowOfCounts_50 rfl (by decide) rfl rfl ?_
      obtain ⟨x4, ex4, hF⟩ := gb_ltE hF
      refine gb_iinc (v := x4) (L' := [some (.int v0), some (.int v2), some (.int v3), some (.int v4), some (.int v4), some (.int v5), some (.int x4)]) dX10_rowOfCounts_51 rfl (by rw [ex4]; rfl) (by decide) rfl rfl ?_
      refine gb_goto (tgt := 31) dX10_rowOfCounts_54 (by decide) ?_
      exact gb_wk (hk31 v0 v2 v3 v4 v4 v5 x4 h r hF) (And.intro rfl (And.intro rfl (And.intro rfl (And.intro rfl (And.intro rfl (And.intro rfl (And.intro rfl trivial)))))))
    · replace hF := gb_ifF c3 hF
      refine gb_iconst (v := (-1 : Int32)) dX10_rowOfCounts_42 (by decide) ?_
      cases hF
      exact gb_iret dX10_rowOfCounts_43 rfl
def lpX10_rowOfCounts_31 (k9 : Int32 → Int32 → Int32 → Int32 → Int32 → gb_H → Option (Int32 × gb_H)) (n : Nat) (v0 : Int32) (v1 : Int32) (v2 : Int32) (v3 : Int32) (v4 : Int32) (v5 : Int32) (v6 : Int32) (h : gb_H) : Option (Int32 × gb_H) := gb_lp (σ := Int32 × Int32 × Int32 × Int32 × Int32 × Int32 × Int32 × gb_H) (fun k s => fbX10_rowOfCounts_31 k9 (fun v0 v1 v2 v3 v4 v5 v6 h => k (v0, v1, v2, v3, v4, v5, v6, h)) s.1 s.2.1 s.2.2.1 s.2.2.2.1 s.2.2.2.2.1 s.2.2.2.2.2.1 s.2.2.2.2.2.2.1 s.2.2.2.2.2.2.2) n (v0, v1, v2, v3, v4, v5, v6, h)
theorem lpX10_rowOfCounts_31_ok {X : gb_X}  {k9 : Int32 → Int32 → Int32 → Int32 → Int32 → gb_H → Option (Int32 × gb_H)} (hk9 : ∀ v0 v1 v2 v3 v4 h r, k9 v0 v1 v2 v3 v4 h = some r → gb_Ev X 3 mX10_rowOfCounts 9 [some (.int v0), some (.int v1), some (.int v2), some (.int v3), some (.int v4), none, none] [] h (gb_wI r)) (n : Nat) (v0 : Int32) (v1 : Int32) (v2 : Int32) (v3 : Int32) (v4 : Int32) (v5 : Int32) (v6 : Int32) (h : gb_H) (r : Int32 × gb_H) (hF : lpX10_rowOfCounts_31 k9 n v0 v1 v2 v3 v4 v5 v6 h = some r) : gb_Ev X 3 mX10_rowOfCounts 31 [some (.int v0), some (.int v1), some (.int v2), some (.int v3), some (.int v4), some (.int v5), some (.int v6)] [] h (gb_wI r) := by
  exact gb_lpE (σ := Int32 × Int32 × Int32 × Int32 × Int32 × Int32 × Int32 × gb_H) (P := fun s r => gb_Ev X 3 mX10_rowOfCounts 31 [some (.int s.1), some (.int s.2.1), some (.int s.2.2.1), some (.int s.2.2.2.1), some (.int s.2.2.2.2.1), some (.int s.2.2.2.2.2.1), some (.int s.2.2.2.2.2.2.1)] [] s.2.2.2.2.2.2.2 (gb_wI r)) (fun k hk s r hs => fbX10_rowOfCounts_31_ok hk9 (fun v0 v1 v2 v3 v4 v5 v6 h r e => hk (v0, v1, v2, v3, v4, v5, v6, h) r e) _ _ _ _ _ _ _ _ r hs) n (v0, v1, v2, v3, v4, v5, v6, h) r hF
def fbX10_rowOfCounts_9 (k9 : Int32 → Int32 → Int32 → Int32 → Int32 → gb_H → Option (Int32 × gb_H)) (v0 : Int32) (v1 : Int32) (v2 : Int32) (v3 : Int32) (v4 : Int32) (h : gb_H) : Option (Int32 × gb_H) :=
  if (5 : Int32) < v4 then
    gb_bd (fnX0_keyOf v1 v2 v3 h) fun x2 h3 =>
    gb_bd (fnX0_placeOfKey x2 h3) fun x4 h5 =>
    some (x4, h5)
  else
    gb_lt ((v0 >>> (((4 : Int32) * (v4 - (1 : Int32))) &&& 31)) &&& (15 : Int32)) fun x6 =>
    lpX10_rowOfCounts_31 k9 gb_FU v0 v1 v2 v3 v4 x6 (0 : Int32) h
theorem fbX10_rowOfCounts_9_ok {X : gb_X} {k9 : Int32 → Int32 → Int32 → Int32 → Int32 → gb_H → Option (Int32 × gb_H)} (hk9 : ∀ v0 v1 v2 v3 v4 h r, k9 v0 v1 v2 v3 v4 h = some r → gb_Ev X 3 mX10_rowOfCounts 9 [some (.int v0), some (.int v1), some (.int v2), some (.int v3), some (.int v4), none, none] [] h (gb_wI r)) (v0 : Int32) (v1 : Int32) (v2 : Int32) (v3 : Int32) (v4 : Int32) (h : gb_H) (r : Int32 × gb_H) (hF : fbX10_rowOfCounts_9 k9 v0 v1 v2 v3 v4 h = some r) : gb_Ev X 3 mX10_rowOfCounts 9 [some (.int v0), some (.int v1), some (.int v2), some (.int v3), some (.int v4), none, none] [] h (gb_wI r) := by
  unfold fbX10_rowOfCounts_9 at hF
  refine gb_iload dX10_rowOfCounts_9 rfl ?_
  refine gb_iconst (v := (5 : Int32)) dX10_rowOfCounts_11 (by decide) ?_
  refine gb_icmp_gt (tgt := 63) dX10_rowOfCounts_12 (by decide) (fun c1 => ?_) (fun c1 => ?_)
  · replace hF := gb_ifT c1 hF
    refine gb_iload_n dX10_rowOfCounts_63 rfl rfl ?_
    refine gb_iload_n dX10_rowOfCounts_64 rfl rfl ?_
    refine gb_iload_n dX10_rowOfCounts_65 rfl rfl ?_
    obtain ⟨x2, h3, cx2, hF⟩ := gb_bdE hF
    refine gb_cS (As := [.int v1, .int v2, .int v3]) (S := []) (v := some (.int x2)) (h1 := h3) (S2 := [.int x2]) dX10_rowOfCounts_66 mtX0_keyOf lX10_155 stX0_keyOf (fnX0_keyOf_ok _ _ cx2) (by decide) rfl (Nat.le_of_ble_eq_true rfl) (Nat.le_of_ble_eq_true rfl) rfl rfl ?_
    obtain ⟨x4, h5, cx4, hF⟩ := gb_bdE hF
    refine gb_cS (As := [.int x2]) (S := []) (v := some (.int x4)) (h1 := h5) (S2 := [.int x4]) dX10_rowOfCounts_69 mtX0_placeOfKey lX10_267 stX0_placeOfKey (fnX0_placeOfKey_ok _ _ cx4) (by decide) rfl (Nat.le_of_ble_eq_true rfl) (Nat.le_of_ble_eq_true rfl) rfl rfl ?_
    cases hF
    exact gb_iret dX10_rowOfCounts_72 rfl
  · replace hF := gb_ifF c1 hF
    refine gb_iload_n dX10_rowOfCounts_15 rfl rfl ?_
    refine gb_iconst (v := (4 : Int32)) dX10_rowOfCounts_16 (by decide) ?_
    refine gb_iload dX10_rowOfCounts_17 rfl ?_
    refine gb_iconst (v := (1 : Int32)) dX10_rowOfCounts_19 (by decide) ?_
    refine gb_isub dX10_rowOfCounts_20 ?_
    refine gb_imul dX10_rowOfCounts_21 ?_
    refine gb_ishr dX10_rowOfCounts_22 ?_
    refine gb_bipush (v := (15 : Int32)) dX10_rowOfCounts_23 (by decide) ?_
    refine gb_iand dX10_rowOfCounts_25 ?_
    obtain ⟨x6, ex6, hF⟩ := gb_ltE hF
    refine gb_topI ex6 ?_
    refine gb_istore (L' := [some (.int v0), some (.int v1), some (.int v2), some (.int v3), some (.int v4), some (.int x6), none]) dX10_rowOfCounts_26 (by decide) rfl rfl ?_
    refine gb_iconst (v := (0 : Int32)) dX10_rowOfCounts_28 (by decide) ?_
    refine gb_istore (L' := [some (.int v0), some (.int v1), some (.int v2), some (.int v3), some (.int v4), some (.int x6), some (.int (0 : Int32))]) dX10_rowOfCounts_29 (by decide) rfl rfl ?_
    exact gb_wk (lpX10_rowOfCounts_31_ok hk9 gb_FU v0 v1 v2 v3 v4 x6 (0 : Int32) h r hF) (And.intro rfl (And.intro rfl (And.intro rfl (And.intro rfl (And.intro rfl (And.intro rfl (And.intro rfl trivial)))))))
def lpX10_rowOfCounts_9 (n : Nat) (v0 : Int32) (v1 : Int32) (v2 : Int32) (v3 : Int32) (v4 : Int32) (h : gb_H) : Option (Int32 × gb_H) := gb_lp (σ := Int32 × Int32 × Int32 × Int32 × Int32 × gb_H) (fun k s => fbX10_rowOfCounts_9 (fun v0 v1 v2 v3 v4 h => k (v0, v1, v2, v3, v4, h)) s.1 s.2.1 s.2.2.1 s.2.2.2.1 s.2.2.2.2.1 s.2.2.2.2.2) n (v0, v1, v2, v3, v4, h)
theorem lpX10_rowOfCounts_9_ok {X : gb_X}  (n : Nat) (v0 : Int32) (v1 : Int32) (v2 : Int32) (v3 : Int32) (v4 : Int32) (h : gb_H) (r : Int32 × gb_H) (hF : lpX10_rowOfCounts_9 n v0 v1 v2 v3 v4 h = some r) : gb_Ev X 3 mX10_rowOfCounts 9 [some (.int v0), some (.int v1), some (.int v2), some (.int v3), some (.int v4), none, none] [] h (gb_wI r) := by
  exact gb_lpE (σ := Int32 × Int32 × Int32 × Int32 × Int32 × gb_H) (P := fun s r => gb_Ev X 3 mX10_rowOfCounts 9 [some (.int s.1), some (.int s.2.1), some (.int s.2.2.1), some (.int s.2.2.2.1), some (.int s.2.2.2.2.1), none, none] [] s.2.2.2.2.2 (gb_wI r)) (fun k hk s r hs => fbX10_rowOfCounts_9_ok (fun v0 v1 v2 v3 v4 h r e => hk (v0, v1, v2, v3, v4, h) r e) _ _ _ _ _ _ r hs) n (v0, v1, v2, v3, v4, h) r hF
def fnX10_rowOfCounts (p0 : Int32) (h : gb_H) : Option (Int32 × gb_H) :=
  lpX10_rowOfCounts_9 gb_FU p0 (0 : Int32) (0 : Int32) (0 : Int32) (1 : Int32) h
theorem fnX10_rowOfCounts_ok {X : gb_X}  {p0 : Int32} (h : gb_H) (r : Int32 × gb_H) (hF : fnX10_rowOfCounts p0 h = some r) : gb_Ev X 3 mX10_rowOfCounts 0 (gb_L0 [.int p0]) [] h (gb_wI r) := by
  unfold fnX10_rowOfCounts at hF
  refine gb_weak (L' := [some (.int p0), none, none, none, none, none, none]) (And.intro rfl trivial) ?_
  refine gb_iconst (v := (0 : Int32)) dX10_rowOfCounts_0 (by decide) ?_
  refine gb_istore_n (L' := [some (.int p0), some (.int (0 : Int32)), none, none, none, none, none]) dX10_rowOfCounts_1 rfl (by decide) rfl rfl ?_
  refine gb_iconst (v := (0 : Int32)) dX10_rowOfCounts_2 (by decide) ?_
  refine gb_istore_n (L' := [some (.int p0), some (.int (0 : Int32)), some (.int (0 : Int32)), none, none, none, none]) dX10_rowOfCounts_3 rfl (by decide) rfl rfl ?_
  refine gb_iconst (v := (0 : Int32)) dX10_rowOfCounts_4 (by decide) ?_
  refine gb_istore_n (L' := [some (.int p0), some (.int (0 : Int32)), some (.int (0 : Int32)), some (.int (0 : Int32)), none, none, none]) dX10_rowOfCounts_5 rfl (by decide) rfl rfl ?_
  refine gb_iconst (v := (1 : Int32)) dX10_rowOfCounts_6 (by decide) ?_
  refine gb_istore (L' := [some (.int p0), some (.int (0 : Int32)), some (.int (0 : Int32)), some (.int (0 : Int32)), some (.int (1 : Int32)), none, none]) dX10_rowOfCounts_7 (by decide) rfl rfl ?_
  exact gb_wk (lpX10_rowOfCounts_9_ok gb_FU p0 (0 : Int32) (0 : Int32) (0 : Int32) (1 : Int32) h r hF) (And.intro rfl (And.intro rfl (And.intro rfl (And.intro rfl (And.intro rfl trivial)))))
def fbX10_odds_11 (h : gb_H) : Option (Int64 × gb_H) :=
  some ((-1 : Int64), h)
theorem fbX10_odds_11_ok {X : gb_X} (h : gb_H) (r : Int64 × gb_H) (hF : fbX10_odds_11 h = some r) : gb_Ev X 7 mX10_odds 11 [none, none, none, none, none, none, none, none, none] [] h (gb_wJ r) := by
  unfold fbX10_odds_11 at hF
  refine gb_ldc2 (v := (-1 : Int64)) dX10_odds_11 kX10_167 ?_
  cases hF
  exact gb_lret dX10_odds_14 rfl
def fbX10_odds_54 (s0 : Int64) (h : gb_H) : Option (Int64 × gb_H) :=
  some (s0, h)
theorem fbX10_odds_54_ok {X : gb_X} (s0 : Int64) (h : gb_H) (r : Int64 × gb_H) (hF : fbX10_odds_54 s0 h = some r) : gb_Ev X 7 mX10_odds 54 [none, none, none, none, none, none, none, none, none] [.long s0] h (gb_wJ r) := by
  unfold fbX10_odds_54 at hF
  cases hF
  exact gb_lret dX10_odds_54 rfl
def fbX10_odds_41 (v7 : Int32) (h : gb_H) : Option (Int64 × gb_H) :=
  if v7 = (2 : Int32) then
    fbX10_odds_54 (-1 : Int64) h
  else
    fbX10_odds_54 (0 : Int64) h
theorem fbX10_odds_41_ok {X : gb_X} (v7 : Int32) (h : gb_H) (r : Int64 × gb_H) (hF : fbX10_odds_41 v7 h = some r) : gb_Ev X 7 mX10_odds 41 [none, none, none, none, none, none, none, some (.int v7), none] [] h (gb_wJ r) := by
  unfold fbX10_odds_41 at hF
  refine gb_iload dX10_odds_41 rfl ?_
  refine gb_iconst (v := (2 : Int32)) dX10_odds_43 (by decide) ?_
  refine gb_icmp_ne (tgt := 53) dX10_odds_44 (by decide) (fun c1 => ?_) (fun c1 => ?_)
  · replace hF := gb_ifF c1 hF
    refine gb_lconst (v := (0 : Int64)) dX10_odds_53 (by decide) ?_
    exact gb_wk (fbX10_odds_54_ok (0 : Int64) h r hF) trivial
  · replace hF := gb_ifT c1 hF
    refine gb_ldc2 (v := (-1 : Int64)) dX10_odds_47 kX10_167 ?_
    refine gb_goto (tgt := 54) dX10_odds_50 (by decide) ?_
    exact gb_wk (fbX10_odds_54_ok (-1 : Int64) h r hF) trivial
def fnX10_odds (p0 : Nat) (p1 : Int32) (p2 : Int32) (p3 : Int32) (p4 : Int32) (p5 : Int32) (p6 : Int32) (p7 : Int32) (h : gb_H) : Option (Int64 × gb_H) :=
  if p7 < 0 then
    fbX10_odds_11 h
  else
    if p7 ≤ (2 : Int32) then
      gb_bd (fnX10_packCounts p2 p3 p4 p5 p6 h) fun x3 h4 =>
      if x3 < 0 then
        fbX10_odds_41 p7 h4
      else
        gb_gd (gb_k h4 p0 10) <|
        gb_bd (fnX10_isTold p0 p1 h4) fun x7 h8 =>
        if x7 = 0 then
          fbX10_odds_41 p7 h8
        else
          gb_gd (gb_k h8 p0 10) <|
          gb_rd (gb_R h8 p0 4) fun a11 =>
          gb_gd (gb_k h8 a11 31) <|
          gb_gd (gb_in h8 a11 p1) <|
          gb_rd (gb_R h8 a11 p1.toNatClampNeg) fun a14 =>
          gb_bd (fnX10_rowOfCounts x3 h8) fun x15 h16 =>
          gb_gd (gb_k h16 p0 10) <|
          gb_rd (gb_R h16 p0 10) fun a18 =>
          gb_gd (gb_k h16 a14 1) <|
          gb_bd (fnX1_shareOfRow a14 x15 a18 h16) fun _ h21 =>
          gb_gd (gb_k h21 p0 10) <|
          gb_rd (gb_R h21 p0 10) fun a23 =>
          gb_gd (gb_k h21 a23 8) <|
          gb_bd (fnX8_part a23 p7 h21) fun x25 h26 =>
          some (x25, h26)
    else
      fbX10_odds_11 h
theorem fnX10_odds_ok {X : gb_X}  {p0 : Nat} {p1 : Int32} {p2 : Int32} {p3 : Int32} {p4 : Int32} {p5 : Int32} {p6 : Int32} {p7 : Int32} (h : gb_H) (r : Int64 × gb_H) (hF : fnX10_odds p0 p1 p2 p3 p4 p5 p6 p7 h = some r) : gb_Ev X 7 mX10_odds 0 (gb_L0 [.ref p0, .int p1, .int p2, .int p3, .int p4, .int p5, .int p6, .int p7]) [] h (gb_wJ r) := by
  unfold fnX10_odds at hF
  refine gb_weak (L' := [some (.ref p0), some (.int p1), some (.int p2), some (.int p3), some (.int p4), some (.int p5), some (.int p6), some (.int p7), none]) (And.intro rfl (And.intro rfl (And.intro rfl (And.intro rfl (And.intro rfl (And.intro rfl (And.intro rfl (And.intro rfl trivial)))))))) ?_
  refine gb_iload dX10_odds_0 rfl ?_
  refine gb_if_lt (tgt := 11) dX10_odds_2 (by decide) (fun c1 => ?_) (fun c1 => ?_)
  · replace hF := gb_ifT c1 hF
    exact gb_wk (fbX10_odds_11_ok h r hF) trivial
  · replace hF := gb_ifF c1 hF
    refine gb_iload dX10_odds_5 rfl ?_
    refine gb_iconst (v := (2 : Int32)) dX10_odds_7 (by decide) ?_
    refine gb_icmp_le (tgt := 15) dX10_odds_8 (by decide) (fun c2 => ?_) (fun c2 => ?_)
    · replace hF := gb_ifT c2 hF
      refine gb_iload_n dX10_odds_15 rfl rfl ?_
      refine gb_iload_n dX10_odds_16 rfl rfl ?_
      refine gb_iload dX10_odds_17 rfl ?_
      refine gb_iload dX10_odds_19 rfl ?_
      refine gb_iload dX10_odds_21 rfl ?_
      obtain ⟨x3, h4, cx3, hF⟩ := gb_bdE hF
      refine gb_cS (As := [.int p2, .int p3, .int p4, .int p5, .int p6]) (S := []) (v := some (.int x3)) (h1 := h4) (S2 := [.int x3]) dX10_odds_23 mtX10_packCounts lX10_169 stX10_packCounts (fnX10_packCounts_ok _ _ cx3) (by decide) rfl (Nat.le_of_ble_eq_true rfl) (Nat.le_of_ble_eq_true rfl) rfl rfl ?_
      refine gb_istore (L' := [some (.ref p0), some (.int p1), some (.int p2), some (.int p3), some (.int p4), some (.int p5), some (.int p6), some (.int p7), some (.int x3)]) dX10_odds_26 (by decide) rfl rfl ?_
      refine gb_iload dX10_odds_28 rfl ?_
      refine gb_if_lt (tgt := 41) dX10_odds_30 (by decide) (fun c5 => ?_) (fun c5 => ?_)
      · replace hF := gb_ifT c5 hF
        exact gb_wk (fbX10_odds_41_ok p7 h4 r hF) (And.intro rfl trivial)
      · replace hF := gb_ifF c5 hF
        refine gb_aload_n dX10_odds_33 rfl rfl ?_
        refine gb_iload_n dX10_odds_34 rfl rfl ?_
        obtain ⟨g6, hF⟩ := gb_gdE hF
        obtain ⟨x7, h8, cx7, hF⟩ := gb_bdE hF
        refine gb_cV (As := [.int p1]) (S := []) (v := some (.int x7)) (h1 := h8) (S2 := [.int x7]) cf10 dX10_odds_35 mtX10_isTold lX10_173 inX10_isTold seX10_isTold (gb_kE g6) (fnX10_isTold_ok _ _ cx7) (by decide) rfl (Nat.le_of_ble_eq_true rfl) (Nat.le_of_ble_eq_true rfl) rfl rfl ?_
        refine gb_if_ne (tgt := 55) dX10_odds_38 (by decide) (fun c9 => ?_) (fun c9 => ?_)
        · replace hF := gb_ifF c9 hF
          refine gb_aload_n dX10_odds_55 rfl rfl ?_
          obtain ⟨g10, hF⟩ := gb_gdE hF
          obtain ⟨a11, ea11, hF⟩ := gb_rdE hF
          refine gb_getR fX10_33 dX10_odds_56 (gb_kE g10) ea11 ?_
          refine gb_iload_n dX10_odds_59 rfl rfl ?_
          obtain ⟨g12, hF⟩ := gb_gdE hF
          obtain ⟨g13, hF⟩ := gb_gdE hF
          obtain ⟨a14, ea14, hF⟩ := gb_rdE hF
          refine gb_aald dX10_odds_60 (gb_kE g12) (by decide) (gb_inE g13) ea14 ?_
          refine gb_iload dX10_odds_61 rfl ?_
          obtain ⟨x15, h16, cx15, hF⟩ := gb_bdE hF
          refine gb_cS (As := [.int x3]) (S := [.ref a14]) (v := some (.int x15)) (h1 := h16) (S2 := [.int x15, .ref a14]) dX10_odds_63 mtX10_rowOfCounts lX10_176 stX10_rowOfCounts (fnX10_rowOfCounts_ok _ _ cx15) (by decide) rfl (Nat.le_of_ble_eq_true rfl) (Nat.le_of_ble_eq_true rfl) rfl rfl ?_
          refine gb_aload_n dX10_odds_66 rfl rfl ?_
          obtain ⟨g17, hF⟩ := gb_gdE hF
          obtain ⟨a18, ea18, hF⟩ := gb_rdE hF
          refine gb_getR fX10_81 dX10_odds_67 (gb_kE g17) ea18 ?_
          obtain ⟨g19, hF⟩ := gb_gdE hF
          obtain ⟨x20, h21, cx20, hF⟩ := gb_bdE hF
          refine gb_cV (As := [.int x15, .ref a18]) (S := []) (v := none) (h1 := h21) (S2 := []) cf1 dX10_odds_70 mtX1_shareOfRow lX10_179 inX1_shareOfRow seX1_shareOfRow (gb_kE g19) (fnX1_shareOfRow_ok _ _ cx20) (by decide) rfl (Nat.le_of_ble_eq_true rfl) (Nat.le_of_ble_eq_true rfl) rfl rfl ?_
          refine gb_aload_n dX10_odds_73 rfl rfl ?_
          obtain ⟨g22, hF⟩ := gb_gdE hF
          obtain ⟨a23, ea23, hF⟩ := gb_rdE hF
          refine gb_getR fX10_81 dX10_odds_74 (gb_kE g22) ea23 ?_
          refine gb_iload dX10_odds_77 rfl ?_
          obtain ⟨g24, hF⟩ := gb_gdE hF
          obtain ⟨x25, h26, cx25, hF⟩ := gb_bdE hF
          refine gb_cV (As := [.int p7]) (S := []) (v := some (.long x25)) (h1 := h26) (S2 := [.long x25]) cf8 dX10_odds_79 mtX8_part lX10_183 inX8_part seX8_part (gb_kE g24) (fnX8_part_ok _ _ cx25) (by decide) rfl (Nat.le_of_ble_eq_true rfl) (Nat.le_of_ble_eq_true rfl) rfl rfl ?_
          cases hF
          exact gb_lret dX10_odds_82 rfl
        · replace hF := gb_ifT c9 hF
          exact gb_wk (fbX10_odds_41_ok p7 h8 r hF) (And.intro rfl trivial)
    · replace hF := gb_ifF c2 hF
      exact gb_wk (fbX10_odds_11_ok h r hF) trivial
def fbX10_pairs_23 (h : gb_H) : Option (Int32 × gb_H) :=
  some ((-1 : Int32), h)
theorem fbX10_pairs_23_ok {X : gb_X} (h : gb_H) (r : Int32 × gb_H) (hF : fbX10_pairs_23 h = some r) : gb_Ev X 2 mX10_pairs 23 [none, none, none, none] [] h (gb_wI r) := by
  unfold fbX10_pairs_23 at hF
  refine gb_iconst (v := (-1 : Int32)) dX10_pairs_23 (by decide) ?_
  cases hF
  exact gb_iret dX10_pairs_24 rfl
def fbX10_pairs_55 (s0 : Int32) (h : gb_H) : Option (Int32 × gb_H) :=
  some (s0, h)
theorem fbX10_pairs_55_ok {X : gb_X} (s0 : Int32) (h : gb_H) (r : Int32 × gb_H) (hF : fbX10_pairs_55 s0 h = some r) : gb_Ev X 2 mX10_pairs 55 [none, none, none, none] [.int s0] h (gb_wI r) := by
  unfold fbX10_pairs_55 at hF
  cases hF
  exact gb_iret dX10_pairs_55 rfl
def fnX10_pairs (p0 : Nat) (p1 : Int32) (p2 : Int32) (p3 : Int32) (h : gb_H) : Option (Int32 × gb_H) :=
  gb_bd (fnX10_isBench p1 h) fun x1 h2 =>
  if x1 = 0 then
    fbX10_pairs_23 h2
  else
    gb_bd (fnX10_isDay p2 h2) fun x4 h5 =>
    if x4 = 0 then
      fbX10_pairs_23 h5
    else
      if p3 < 0 then
        fbX10_pairs_23 h5
      else
        if p3 ≤ (1 : Int32) then
          gb_gd (gb_k h5 p0 10) <|
          gb_rd (gb_R h5 p0 5) fun a10 =>
          gb_gd (gb_k h5 a10 3) <|
          gb_bd (fnX3_tally a10 p1 p2 h5) fun _ h13 =>
          if p3 = 0 then
            gb_gd (gb_k h13 p0 10) <|
            gb_rd (gb_R h13 p0 5) fun a16 =>
            gb_gd (gb_k h13 a16 3) <|
            gb_bd (fnX3_like a16 h13) fun x18 h19 =>
            fbX10_pairs_55 x18 h19
          else
            gb_gd (gb_k h13 p0 10) <|
            gb_rd (gb_R h13 p0 5) fun a21 =>
            gb_gd (gb_k h13 a21 3) <|
            gb_bd (fnX3_unlike a21 h13) fun x23 h24 =>
            fbX10_pairs_55 x23 h24
        else
          fbX10_pairs_23 h5
theorem fnX10_pairs_ok {X : gb_X}  {p0 : Nat} {p1 : Int32} {p2 : Int32} {p3 : Int32} (h : gb_H) (r : Int32 × gb_H) (hF : fnX10_pairs p0 p1 p2 p3 h = some r) : gb_Ev X 2 mX10_pairs 0 (gb_L0 [.ref p0, .int p1, .int p2, .int p3]) [] h (gb_wI r) := by
  unfold fnX10_pairs at hF
  refine gb_weak (L' := [some (.ref p0), some (.int p1), some (.int p2), some (.int p3)]) (And.intro rfl (And.intro rfl (And.intro rfl (And.intro rfl trivial)))) ?_
  refine gb_iload_n dX10_pairs_0 rfl rfl ?_
  obtain ⟨x1, h2, cx1, hF⟩ := gb_bdE hF
  refine gb_cS (As := [.int p1]) (S := []) (v := some (.int x1)) (h1 := h2) (S2 := [.int x1]) dX10_pairs_1 mtX10_isBench lX10_119 stX10_isBench (fnX10_isBench_ok _ _ cx1) (by decide) rfl (Nat.le_of_ble_eq_true rfl) (Nat.le_of_ble_eq_true rfl) rfl rfl ?_
  refine gb_if_eq (tgt := 23) dX10_pairs_4 (by decide) (fun c3 => ?_) (fun c3 => ?_)
  · replace hF := gb_ifT c3 hF
    exact gb_wk (fbX10_pairs_23_ok h2 r hF) trivial
  · replace hF := gb_ifF c3 hF
    refine gb_iload_n dX10_pairs_7 rfl rfl ?_
    obtain ⟨x4, h5, cx4, hF⟩ := gb_bdE hF
    refine gb_cS (As := [.int p2]) (S := []) (v := some (.int x4)) (h1 := h5) (S2 := [.int x4]) dX10_pairs_8 mtX10_isDay lX10_194 stX10_isDay (fnX10_isDay_ok _ _ cx4) (by decide) rfl (Nat.le_of_ble_eq_true rfl) (Nat.le_of_ble_eq_true rfl) rfl rfl ?_
    refine gb_if_eq (tgt := 23) dX10_pairs_11 (by decide) (fun c6 => ?_) (fun c6 => ?_)
    · replace hF := gb_ifT c6 hF
      exact gb_wk (fbX10_pairs_23_ok h5 r hF) trivial
    · replace hF := gb_ifF c6 hF
      refine gb_iload_n dX10_pairs_14 rfl rfl ?_
      refine gb_if_lt (tgt := 23) dX10_pairs_15 (by decide) (fun c7 => ?_) (fun c7 => ?_)
      · replace hF := gb_ifT c7 hF
        exact gb_wk (fbX10_pairs_23_ok h5 r hF) trivial
      · replace hF := gb_ifF c7 hF
        refine gb_iload_n dX10_pairs_18 rfl rfl ?_
        refine gb_iconst (v := (1 : Int32)) dX10_pairs_19 (by decide) ?_
        refine gb_icmp_le (tgt := 25) dX10_pairs_20 (by decide) (fun c8 => ?_) (fun c8 => ?_)
        · replace hF := gb_ifT c8 hF
          refine gb_aload_n dX10_pairs_25 rfl rfl ?_
          obtain ⟨g9, hF⟩ := gb_gdE hF
          obtain ⟨a10, ea10, hF⟩ := gb_rdE hF
          refine gb_getR fX10_48 dX10_pairs_26 (gb_kE g9) ea10 ?_
          refine gb_iload_n dX10_pairs_29 rfl rfl ?_
          refine gb_iload_n dX10_pairs_30 rfl rfl ?_
          obtain ⟨g11, hF⟩ := gb_gdE hF
          obtain ⟨x12, h13, cx12, hF⟩ := gb_bdE hF
          refine gb_cV (As := [.int p1, .int p2]) (S := []) (v := none) (h1 := h13) (S2 := []) cf3 dX10_pairs_31 mtX3_tally lX10_201 inX3_tally seX3_tally (gb_kE g11) (fnX3_tally_ok _ _ cx12) (by decide) rfl (Nat.le_of_ble_eq_true rfl) (Nat.le_of_ble_eq_true rfl) rfl rfl ?_
          refine gb_iload_n dX10_pairs_34 rfl rfl ?_
          refine gb_if_ne (tgt := 48) dX10_pairs_35 (by decide) (fun c14 => ?_) (fun c14 => ?_)
          · replace hF := gb_ifF c14 hF
            refine gb_aload_n dX10_pairs_48 rfl rfl ?_
            obtain ⟨g20, hF⟩ := gb_gdE hF
            obtain ⟨a21, ea21, hF⟩ := gb_rdE hF
            refine gb_getR fX10_48 dX10_pairs_49 (gb_kE g20) ea21 ?_
            obtain ⟨g22, hF⟩ := gb_gdE hF
            obtain ⟨x23, h24, cx23, hF⟩ := gb_bdE hF
            refine gb_cV (As := []) (S := []) (v := some (.int x23)) (h1 := h24) (S2 := [.int x23]) cf3 dX10_pairs_52 mtX3_unlike lX10_222 inX3_unlike seX3_unlike (gb_kE g22) (fnX3_unlike_ok _ _ cx23) (by decide) rfl (Nat.le_of_ble_eq_true rfl) (Nat.le_of_ble_eq_true rfl) rfl rfl ?_
            exact gb_wk (fbX10_pairs_55_ok x23 h24 r hF) trivial
          · replace hF := gb_ifT c14 hF
            refine gb_aload_n dX10_pairs_38 rfl rfl ?_
            obtain ⟨g15, hF⟩ := gb_gdE hF
            obtain ⟨a16, ea16, hF⟩ := gb_rdE hF
            refine gb_getR fX10_48 dX10_pairs_39 (gb_kE g15) ea16 ?_
            obtain ⟨g17, hF⟩ := gb_gdE hF
            obtain ⟨x18, h19, cx18, hF⟩ := gb_bdE hF
            refine gb_cV (As := []) (S := []) (v := some (.int x18)) (h1 := h19) (S2 := [.int x18]) cf3 dX10_pairs_42 mtX3_like lX10_219 inX3_like seX3_like (gb_kE g17) (fnX3_like_ok _ _ cx18) (by decide) rfl (Nat.le_of_ble_eq_true rfl) (Nat.le_of_ble_eq_true rfl) rfl rfl ?_
            refine gb_goto (tgt := 55) dX10_pairs_45 (by decide) ?_
            exact gb_wk (fbX10_pairs_55_ok x18 h19 r hF) trivial
        · replace hF := gb_ifF c8 hF
          exact gb_wk (fbX10_pairs_23_ok h5 r hF) trivial
def fbX10_plan_34 (h : gb_H) : Option (Int32 × gb_H) :=
  some ((-1 : Int32), h)
theorem fbX10_plan_34_ok {X : gb_X} (h : gb_H) (r : Int32 × gb_H) (hF : fbX10_plan_34 h = some r) : gb_Ev X 7 mX10_plan 34 [none, none, none, none, none, none, none, none] [] h (gb_wI r) := by
  unfold fbX10_plan_34 at hF
  refine gb_iconst (v := (-1 : Int32)) dX10_plan_34 (by decide) ?_
  cases hF
  exact gb_iret dX10_plan_35 rfl
def fnX10_plan (p0 : Nat) (p1 : Int32) (p2 : Int32) (p3 : Int32) (p4 : Int32) (p5 : Int32) (p6 : Int32) (h : gb_H) : Option (Int32 × gb_H) :=
  gb_bd (fnX10_packCounts p2 p3 p4 p5 p6 h) fun x1 h2 =>
  if p1 < 0 then
    fbX10_plan_34 h2
  else
    if (3 : Int32) < p1 then
      fbX10_plan_34 h2
    else
      if x1 < 0 then
        fbX10_plan_34 h2
      else
        gb_gd (gb_k h2 p0 10) <|
        if (gb_I h2 p0 13) = 0 then
          fbX10_plan_34 h2
        else
          gb_gd (gb_k h2 p0 10) <|
          gb_rd (gb_R h2 p0 6) fun a9 =>
          gb_gd (gb_k h2 p0 10) <|
          gb_bd (fnX10_startKey p0 h2) fun x11 h12 =>
          gb_gd (gb_k h12 p0 10) <|
          gb_bd (fnX10_rowOfCounts x1 h12) fun x14 h15 =>
          gb_gd (gb_k h15 a9 6) <|
          gb_bd (fnX6_search a9 p1 x11 (gb_I h12 p0 13) x14 h15) fun _ h18 =>
          gb_gd (gb_k h18 p0 10) <|
          gb_rd (gb_R h18 p0 6) fun a20 =>
          gb_gd (gb_k h18 a20 6) <|
          some (gb_I h18 a20 7, h18)
theorem fnX10_plan_ok {X : gb_X}  {p0 : Nat} {p1 : Int32} {p2 : Int32} {p3 : Int32} {p4 : Int32} {p5 : Int32} {p6 : Int32} (h : gb_H) (r : Int32 × gb_H) (hF : fnX10_plan p0 p1 p2 p3 p4 p5 p6 h = some r) : gb_Ev X 7 mX10_plan 0 (gb_L0 [.ref p0, .int p1, .int p2, .int p3, .int p4, .int p5, .int p6]) [] h (gb_wI r) := by
  unfold fnX10_plan at hF
  refine gb_weak (L' := [some (.ref p0), some (.int p1), some (.int p2), some (.int p3), some (.int p4), some (.int p5), some (.int p6), none]) (And.intro rfl (And.intro rfl (And.intro rfl (And.intro rfl (And.intro rfl (And.intro rfl (And.intro rfl trivial))))))) ?_
  refine gb_iload_n dX10_plan_0 rfl rfl ?_
  refine gb_iload_n dX10_plan_1 rfl rfl ?_
  refine gb_iload dX10_plan_2 rfl ?_
  refine gb_iload dX10_plan_4 rfl ?_
  refine gb_iload dX10_plan_6 rfl ?_
  obtain ⟨x1, h2, cx1, hF⟩ := gb_bdE hF
  refine gb_cS (As := [.int p2, .int p3, .int p4, .int p5, .int p6]) (S := []) (v := some (.int x1)) (h1 := h2) (S2 := [.int x1]) dX10_plan_8 mtX10_packCounts lX10_169 stX10_packCounts (fnX10_packCounts_ok _ _ cx1) (by decide) rfl (Nat.le_of_ble_eq_true rfl) (Nat.le_of_ble_eq_true rfl) rfl rfl ?_
  refine gb_istore (L' := [some (.ref p0), some (.int p1), some (.int p2), some (.int p3), some (.int p4), some (.int p5), some (.int p6), some (.int x1)]) dX10_plan_11 (by decide) rfl rfl ?_
  refine gb_iload_n dX10_plan_13 rfl rfl ?_
  refine gb_if_lt (tgt := 34) dX10_plan_14 (by decide) (fun c3 => ?_) (fun c3 => ?_)
  · replace hF := gb_ifT c3 hF
    exact gb_wk (fbX10_plan_34_ok h2 r hF) trivial
  · replace hF := gb_ifF c3 hF
    refine gb_iload_n dX10_plan_17 rfl rfl ?_
    refine gb_iconst (v := (3 : Int32)) dX10_plan_18 (by decide) ?_
    refine gb_icmp_gt (tgt := 34) dX10_plan_19 (by decide) (fun c4 => ?_) (fun c4 => ?_)
    · replace hF := gb_ifT c4 hF
      exact gb_wk (fbX10_plan_34_ok h2 r hF) trivial
    · replace hF := gb_ifF c4 hF
      refine gb_iload dX10_plan_22 rfl ?_
      refine gb_if_lt (tgt := 34) dX10_plan_24 (by decide) (fun c5 => ?_) (fun c5 => ?_)
      · replace hF := gb_ifT c5 hF
        exact gb_wk (fbX10_plan_34_ok h2 r hF) trivial
      · replace hF := gb_ifF c5 hF
        refine gb_aload_n dX10_plan_27 rfl rfl ?_
        obtain ⟨g6, hF⟩ := gb_gdE hF
        refine gb_getI fX10_100 dX10_plan_28 (gb_kE g6) ?_
        refine gb_if_ne (tgt := 36) dX10_plan_31 (by decide) (fun c7 => ?_) (fun c7 => ?_)
        · replace hF := gb_ifF c7 hF
          refine gb_aload_n dX10_plan_36 rfl rfl ?_
          obtain ⟨g8, hF⟩ := gb_gdE hF
          obtain ⟨a9, ea9, hF⟩ := gb_rdE hF
          refine gb_getR fX10_64 dX10_plan_37 (gb_kE g8) ea9 ?_
          refine gb_iload_n dX10_plan_40 rfl rfl ?_
          refine gb_aload_n dX10_plan_41 rfl rfl ?_
          obtain ⟨g10, hF⟩ := gb_gdE hF
          obtain ⟨x11, h12, cx11, hF⟩ := gb_bdE hF
          refine gb_cV (As := []) (S := [.int p1, .ref a9]) (v := some (.int x11)) (h1 := h12) (S2 := [.int x11, .int p1, .ref a9]) cf10 dX10_plan_42 mtX10_startKey lX10_240 inX10_startKey seX10_startKey (gb_kE g10) (fnX10_startKey_ok _ _ cx11) (by decide) rfl (Nat.le_of_ble_eq_true rfl) (Nat.le_of_ble_eq_true rfl) rfl rfl ?_
          refine gb_aload_n dX10_plan_45 rfl rfl ?_
          obtain ⟨g13, hF⟩ := gb_gdE hF
          refine gb_getI fX10_100 dX10_plan_46 (gb_kE g13) ?_
          refine gb_iload dX10_plan_49 rfl ?_
          obtain ⟨x14, h15, cx14, hF⟩ := gb_bdE hF
          refine gb_cS (As := [.int x1]) (S := [.int (gb_I h12 p0 13), .int x11, .int p1, .ref a9]) (v := some (.int x14)) (h1 := h15) (S2 := [.int x14, .int (gb_I h12 p0 13), .int x11, .int p1, .ref a9]) dX10_plan_51 mtX10_rowOfCounts lX10_176 stX10_rowOfCounts (fnX10_rowOfCounts_ok _ _ cx14) (by decide) rfl (Nat.le_of_ble_eq_true rfl) (Nat.le_of_ble_eq_true rfl) rfl rfl ?_
          obtain ⟨g16, hF⟩ := gb_gdE hF
          obtain ⟨x17, h18, cx17, hF⟩ := gb_bdE hF
          refine gb_cV (As := [.int p1, .int x11, .int (gb_I h12 p0 13), .int x14]) (S := []) (v := none) (h1 := h18) (S2 := []) cf6 dX10_plan_54 mtX6_search lX10_243 inX6_search seX6_search (gb_kE g16) (fnX6_search_ok _ _ cx17) (by decide) rfl (Nat.le_of_ble_eq_true rfl) (Nat.le_of_ble_eq_true rfl) rfl rfl ?_
          refine gb_aload_n dX10_plan_57 rfl rfl ?_
          obtain ⟨g19, hF⟩ := gb_gdE hF
          obtain ⟨a20, ea20, hF⟩ := gb_rdE hF
          refine gb_getR fX10_64 dX10_plan_58 (gb_kE g19) ea20 ?_
          obtain ⟨g21, hF⟩ := gb_gdE hF
          refine gb_getI fX10_247 dX10_plan_61 (gb_kE g21) ?_
          cases hF
          exact gb_iret dX10_plan_64 rfl
        · replace hF := gb_ifT c7 hF
          exact gb_wk (fbX10_plan_34_ok h2 r hF) trivial
def fbX10_planned_28 (h : gb_H) : Option (Int64 × gb_H) :=
  some ((-2000000000 : Int64), h)
theorem fbX10_planned_28_ok {X : gb_X} (h : gb_H) (r : Int64 × gb_H) (hF : fbX10_planned_28 h = some r) : gb_Ev X 2 mX10_planned 28 [none, none] [] h (gb_wJ r) := by
  unfold fbX10_planned_28 at hF
  refine gb_ldc2 (v := (-2000000000 : Int64)) dX10_planned_28 kX10_229 ?_
  cases hF
  exact gb_lret dX10_planned_31 rfl
def fbX10_planned_62 (s0 : Int64) (h : gb_H) : Option (Int64 × gb_H) :=
  some (s0, h)
theorem fbX10_planned_62_ok {X : gb_X} (s0 : Int64) (h : gb_H) (r : Int64 × gb_H) (hF : fbX10_planned_62 s0 h = some r) : gb_Ev X 2 mX10_planned 62 [none, none] [.long s0] h (gb_wJ r) := by
  unfold fbX10_planned_62 at hF
  cases hF
  exact gb_lret dX10_planned_62 rfl
def fnX10_planned (p0 : Nat) (p1 : Int32) (h : gb_H) : Option (Int64 × gb_H) :=
  gb_gd (gb_k h p0 10) <|
  gb_rd (gb_R h p0 6) fun a2 =>
  gb_gd (gb_k h a2 6) <|
  if (gb_I h a2 7) = (-1 : Int32) then
    fbX10_planned_28 h
  else
    if p1 < (-3 : Int32) then
      fbX10_planned_28 h
    else
      gb_gd (gb_k h p0 10) <|
      gb_rd (gb_R h p0 6) fun a7 =>
      gb_gd (gb_k h a7 6) <|
      if p1 < (gb_I h a7 7) then
        if 0 ≤ p1 then
          gb_gd (gb_k h p0 10) <|
          gb_rd (gb_R h p0 6) fun a12 =>
          gb_gd (gb_k h a12 6) <|
          gb_rd (gb_R h a12 6) fun a14 =>
          gb_gd (gb_k h a14 20) <|
          gb_gd (gb_in h a14 p1) <|
          fbX10_planned_62 ((gb_I h a14 p1.toNatClampNeg).toInt64) h
        else
          gb_gd (gb_k h p0 10) <|
          gb_rd (gb_R h p0 6) fun a18 =>
          gb_gd (gb_k h a18 6) <|
          gb_rd (gb_R h a18 8) fun a20 =>
          gb_gd (gb_k h a20 8) <|
          gb_bd (fnX8_part a20 ((-1 : Int32) - p1) h) fun x22 h23 =>
          fbX10_planned_62 x22 h23
      else
        fbX10_planned_28 h
theorem fnX10_planned_ok {X : gb_X}  {p0 : Nat} {p1 : Int32} (h : gb_H) (r : Int64 × gb_H) (hF : fnX10_planned p0 p1 h = some r) : gb_Ev X 2 mX10_planned 0 (gb_L0 [.ref p0, .int p1]) [] h (gb_wJ r) := by
  unfold fnX10_planned at hF
  refine gb_weak (L' := [some (.ref p0), some (.int p1)]) (And.intro rfl (And.intro rfl trivial)) ?_
  refine gb_aload_n dX10_planned_0 rfl rfl ?_
  obtain ⟨g1, hF⟩ := gb_gdE hF
  obtain ⟨a2, ea2, hF⟩ := gb_rdE hF
  refine gb_getR fX10_64 dX10_planned_1 (gb_kE g1) ea2 ?_
  obtain ⟨g3, hF⟩ := gb_gdE hF
  refine gb_getI fX10_247 dX10_planned_4 (gb_kE g3) ?_
  refine gb_iconst (v := (-1 : Int32)) dX10_planned_7 (by decide) ?_
  refine gb_icmp_eq (tgt := 28) dX10_planned_8 (by decide) (fun c4 => ?_) (fun c4 => ?_)
  · replace hF := gb_ifT c4 hF
    exact gb_wk (fbX10_planned_28_ok h r hF) trivial
  · replace hF := gb_ifF c4 hF
    refine gb_iload_n dX10_planned_11 rfl rfl ?_
    refine gb_bipush (v := (-3 : Int32)) dX10_planned_12 (by decide) ?_
    refine gb_icmp_lt (tgt := 28) dX10_planned_14 (by decide) (fun c5 => ?_) (fun c5 => ?_)
    · replace hF := gb_ifT c5 hF
      exact gb_wk (fbX10_planned_28_ok h r hF) trivial
    · replace hF := gb_ifF c5 hF
      refine gb_iload_n dX10_planned_17 rfl rfl ?_
      refine gb_aload_n dX10_planned_18 rfl rfl ?_
      obtain ⟨g6, hF⟩ := gb_gdE hF
      obtain ⟨a7, ea7, hF⟩ := gb_rdE hF
      refine gb_getR fX10_64 dX10_planned_19 (gb_kE g6) ea7 ?_
      obtain ⟨g8, hF⟩ := gb_gdE hF
      refine gb_getI fX10_247 dX10_planned_22 (gb_kE g8) ?_
      refine gb_icmp_lt (tgt := 32) dX10_planned_25 (by decide) (fun c9 => ?_) (fun c9 => ?_)
      · replace hF := gb_ifT c9 hF
        refine gb_iload_n dX10_planned_32 rfl rfl ?_
        refine gb_if_ge (tgt := 52) dX10_planned_33 (by decide) (fun c10 => ?_) (fun c10 => ?_)
        · replace hF := gb_ifT c10 hF
          refine gb_aload_n dX10_planned_52 rfl rfl ?_
          obtain ⟨g11, hF⟩ := gb_gdE hF
          obtain ⟨a12, ea12, hF⟩ := gb_rdE hF
          refine gb_getR fX10_64 dX10_planned_53 (gb_kE g11) ea12 ?_
          obtain ⟨g13, hF⟩ := gb_gdE hF
          obtain ⟨a14, ea14, hF⟩ := gb_rdE hF
          refine gb_getR fX10_253 dX10_planned_56 (gb_kE g13) ea14 ?_
          refine gb_iload_n dX10_planned_59 rfl rfl ?_
          obtain ⟨g15, hF⟩ := gb_gdE hF
          obtain ⟨g16, hF⟩ := gb_gdE hF
          refine gb_iald dX10_planned_60 (gb_kE g15) (gb_inE g16) ?_
          refine gb_i2l dX10_planned_61 ?_
          exact gb_wk (fbX10_planned_62_ok ((gb_I h a14 p1.toNatClampNeg).toInt64) h r hF) trivial
        · replace hF := gb_ifF c10 hF
          refine gb_aload_n dX10_planned_36 rfl rfl ?_
          obtain ⟨g17, hF⟩ := gb_gdE hF
          obtain ⟨a18, ea18, hF⟩ := gb_rdE hF
          refine gb_getR fX10_64 dX10_planned_37 (gb_kE g17) ea18 ?_
          obtain ⟨g19, hF⟩ := gb_gdE hF
          obtain ⟨a20, ea20, hF⟩ := gb_rdE hF
          refine gb_getR fX10_250 dX10_planned_40 (gb_kE g19) ea20 ?_
          refine gb_iconst (v := (-1 : Int32)) dX10_planned_43 (by decide) ?_
          refine gb_iload_n dX10_planned_44 rfl rfl ?_
          refine gb_isub dX10_planned_45 ?_
          obtain ⟨g21, hF⟩ := gb_gdE hF
          obtain ⟨x22, h23, cx22, hF⟩ := gb_bdE hF
          refine gb_cV (As := [.int ((-1 : Int32) - p1)]) (S := []) (v := some (.long x22)) (h1 := h23) (S2 := [.long x22]) cf8 dX10_planned_46 mtX8_part lX10_183 inX8_part seX8_part (gb_kE g21) (fnX8_part_ok _ _ cx22) (by decide) rfl (Nat.le_of_ble_eq_true rfl) (Nat.le_of_ble_eq_true rfl) rfl rfl ?_
          refine gb_goto (tgt := 62) dX10_planned_49 (by decide) ?_
          exact gb_wk (fbX10_planned_62_ok x22 h23 r hF) trivial
      · replace hF := gb_ifF c9 hF
        exact gb_wk (fbX10_planned_28_ok h r hF) trivial
def fbX10_run_14 (v0 : Nat) (h : gb_H) : Option (Int32 × gb_H) :=
  gb_gd (gb_k h v0 10) <|
  gb_bd (fnX10_refuse v0 (-1 : Int32) h) fun x2 h3 =>
  some (x2, h3)
theorem fbX10_run_14_ok {X : gb_X} (v0 : Nat) (h : gb_H) (r : Int32 × gb_H) (hF : fbX10_run_14 v0 h = some r) : gb_Ev X 2 mX10_run 14 [some (.ref v0), none, none, none] [] h (gb_wI r) := by
  unfold fbX10_run_14 at hF
  refine gb_aload_n dX10_run_14 rfl rfl ?_
  refine gb_iconst (v := (-1 : Int32)) dX10_run_15 (by decide) ?_
  obtain ⟨g1, hF⟩ := gb_gdE hF
  obtain ⟨x2, h3, cx2, hF⟩ := gb_bdE hF
  refine gb_cV (As := [.int (-1 : Int32)]) (S := []) (v := some (.int x2)) (h1 := h3) (S2 := [.int x2]) cf10 dX10_run_16 mtX10_refuse lX10_96 inX10_refuse seX10_refuse (gb_kE g1) (fnX10_refuse_ok _ _ cx2) (by decide) rfl (Nat.le_of_ble_eq_true rfl) (Nat.le_of_ble_eq_true rfl) rfl rfl ?_
  cases hF
  exact gb_iret dX10_run_19 rfl
def fnX10_run (p0 : Nat) (p1 : Int32) (p2 : Int32) (p3 : Int32) (h : gb_H) : Option (Int32 × gb_H) :=
  gb_bd (fnX10_areBits p2 h) fun x1 h2 =>
  if x1 = 0 then
    fbX10_run_14 p0 h2
  else
    gb_bd (fnX10_isDay p3 h2) fun x4 h5 =>
    if x4 = 0 then
      fbX10_run_14 p0 h5
    else
      gb_bd (fnX10_isBench p1 h5) fun x7 h8 =>
      if x7 = 0 then
        gb_gd (gb_k h8 p0 10) <|
        gb_bd (fnX10_refuse p0 (-2 : Int32) h8) fun x11 h12 =>
        some (x11, h12)
      else
        gb_gd (gb_k h8 p0 10) <|
        gb_rd (gb_R h8 p0 5) fun a14 =>
        gb_gd (gb_k h8 a14 3) <|
        if (gb_I h8 a14 3) < (200 : Int32) then
          gb_gd (gb_k h8 p0 10) <|
          gb_rd (gb_R h8 p0 5) fun a18 =>
          gb_gd (gb_k h8 a18 3) <|
          gb_bd (fnX3_append a18 p1 p2 p3 h8) fun _ h21 =>
          gb_gd (gb_k h21 p0 10) <|
          gb_rd (gb_R h21 p0 5) fun a23 =>
          gb_gd (gb_k h21 a23 3) <|
          gb_gd (gb_k h21 p0 10) <|
          gb_bd (fnX10_allow p0 (gb_I h21 a23 3) h21) fun x26 h27 =>
          some (x26, h27)
        else
          gb_gd (gb_k h8 p0 10) <|
          gb_bd (fnX10_refuse p0 (-5 : Int32) h8) fun x29 h30 =>
          some (x29, h30)
theorem fnX10_run_ok {X : gb_X}  {p0 : Nat} {p1 : Int32} {p2 : Int32} {p3 : Int32} (h : gb_H) (r : Int32 × gb_H) (hF : fnX10_run p0 p1 p2 p3 h = some r) : gb_Ev X 2 mX10_run 0 (gb_L0 [.ref p0, .int p1, .int p2, .int p3]) [] h (gb_wI r) := by
  unfold fnX10_run at hF
  refine gb_weak (L' := [some (.ref p0), some (.int p1), some (.int p2), some (.int p3)]) (And.intro rfl (And.intro rfl (And.intro rfl (And.intro rfl trivial)))) ?_
  refine gb_iload_n dX10_run_0 rfl rfl ?_
  obtain ⟨x1, h2, cx1, hF⟩ := gb_bdE hF
  refine gb_cS (As := [.int p2]) (S := []) (v := some (.int x1)) (h1 := h2) (S2 := [.int x1]) dX10_run_1 mtX10_areBits lX10_187 stX10_areBits (fnX10_areBits_ok _ _ cx1) (by decide) rfl (Nat.le_of_ble_eq_true rfl) (Nat.le_of_ble_eq_true rfl) rfl rfl ?_
  refine gb_if_eq (tgt := 14) dX10_run_4 (by decide) (fun c3 => ?_) (fun c3 => ?_)
  · replace hF := gb_ifT c3 hF
    exact gb_wk (fbX10_run_14_ok p0 h2 r hF) (And.intro rfl trivial)
  · replace hF := gb_ifF c3 hF
    refine gb_iload_n dX10_run_7 rfl rfl ?_
    obtain ⟨x4, h5, cx4, hF⟩ := gb_bdE hF
    refine gb_cS (As := [.int p3]) (S := []) (v := some (.int x4)) (h1 := h5) (S2 := [.int x4]) dX10_run_8 mtX10_isDay lX10_194 stX10_isDay (fnX10_isDay_ok _ _ cx4) (by decide) rfl (Nat.le_of_ble_eq_true rfl) (Nat.le_of_ble_eq_true rfl) rfl rfl ?_
    refine gb_if_ne (tgt := 20) dX10_run_11 (by decide) (fun c6 => ?_) (fun c6 => ?_)
    · replace hF := gb_ifF c6 hF
      refine gb_iload_n dX10_run_20 rfl rfl ?_
      obtain ⟨x7, h8, cx7, hF⟩ := gb_bdE hF
      refine gb_cS (As := [.int p1]) (S := []) (v := some (.int x7)) (h1 := h8) (S2 := [.int x7]) dX10_run_21 mtX10_isBench lX10_119 stX10_isBench (fnX10_isBench_ok _ _ cx7) (by decide) rfl (Nat.le_of_ble_eq_true rfl) (Nat.le_of_ble_eq_true rfl) rfl rfl ?_
      refine gb_if_ne (tgt := 34) dX10_run_24 (by decide) (fun c9 => ?_) (fun c9 => ?_)
      · replace hF := gb_ifF c9 hF
        refine gb_aload_n dX10_run_34 rfl rfl ?_
        obtain ⟨g13, hF⟩ := gb_gdE hF
        obtain ⟨a14, ea14, hF⟩ := gb_rdE hF
        refine gb_getR fX10_48 dX10_run_35 (gb_kE g13) ea14 ?_
        obtain ⟨g15, hF⟩ := gb_gdE hF
        refine gb_getI fX10_197 dX10_run_38 (gb_kE g15) ?_
        refine gb_sipush (v := (200 : Int32)) dX10_run_41 (by decide) ?_
        refine gb_icmp_lt (tgt := 54) dX10_run_44 (by decide) (fun c16 => ?_) (fun c16 => ?_)
        · replace hF := gb_ifT c16 hF
          refine gb_aload_n dX10_run_54 rfl rfl ?_
          obtain ⟨g17, hF⟩ := gb_gdE hF
          obtain ⟨a18, ea18, hF⟩ := gb_rdE hF
          refine gb_getR fX10_48 dX10_run_55 (gb_kE g17) ea18 ?_
          refine gb_iload_n dX10_run_58 rfl rfl ?_
          refine gb_iload_n dX10_run_59 rfl rfl ?_
          refine gb_iload_n dX10_run_60 rfl rfl ?_
          obtain ⟨g19, hF⟩ := gb_gdE hF
          obtain ⟨x20, h21, cx20, hF⟩ := gb_bdE hF
          refine gb_cV (As := [.int p1, .int p2, .int p3]) (S := []) (v := none) (h1 := h21) (S2 := []) cf3 dX10_run_61 mtX3_append lX10_198 inX3_append seX3_append (gb_kE g19) (fnX3_append_ok _ _ cx20) (by decide) rfl (Nat.le_of_ble_eq_true rfl) (Nat.le_of_ble_eq_true rfl) rfl rfl ?_
          refine gb_aload_n dX10_run_64 rfl rfl ?_
          refine gb_aload_n dX10_run_65 rfl rfl ?_
          obtain ⟨g22, hF⟩ := gb_gdE hF
          obtain ⟨a23, ea23, hF⟩ := gb_rdE hF
          refine gb_getR fX10_48 dX10_run_66 (gb_kE g22) ea23 ?_
          obtain ⟨g24, hF⟩ := gb_gdE hF
          refine gb_getI fX10_197 dX10_run_69 (gb_kE g24) ?_
          obtain ⟨g25, hF⟩ := gb_gdE hF
          obtain ⟨x26, h27, cx26, hF⟩ := gb_bdE hF
          refine gb_cV (As := [.int (gb_I h21 a23 3)]) (S := []) (v := some (.int x26)) (h1 := h27) (S2 := [.int x26]) cf10 dX10_run_72 mtX10_allow lX10_106 inX10_allow seX10_allow (gb_kE g25) (fnX10_allow_ok _ _ cx26) (by decide) rfl (Nat.le_of_ble_eq_true rfl) (Nat.le_of_ble_eq_true rfl) rfl rfl ?_
          cases hF
          exact gb_iret dX10_run_75 rfl
        · replace hF := gb_ifF c16 hF
          refine gb_aload_n dX10_run_47 rfl rfl ?_
          refine gb_bipush (v := (-5 : Int32)) dX10_run_48 (by decide) ?_
          obtain ⟨g28, hF⟩ := gb_gdE hF
          obtain ⟨x29, h30, cx29, hF⟩ := gb_bdE hF
          refine gb_cV (As := [.int (-5 : Int32)]) (S := []) (v := some (.int x29)) (h1 := h30) (S2 := [.int x29]) cf10 dX10_run_50 mtX10_refuse lX10_96 inX10_refuse seX10_refuse (gb_kE g28) (fnX10_refuse_ok _ _ cx29) (by decide) rfl (Nat.le_of_ble_eq_true rfl) (Nat.le_of_ble_eq_true rfl) rfl rfl ?_
          cases hF
          exact gb_iret dX10_run_53 rfl
      · replace hF := gb_ifT c9 hF
        refine gb_aload_n dX10_run_27 rfl rfl ?_
        refine gb_bipush (v := (-2 : Int32)) dX10_run_28 (by decide) ?_
        obtain ⟨g10, hF⟩ := gb_gdE hF
        obtain ⟨x11, h12, cx11, hF⟩ := gb_bdE hF
        refine gb_cV (As := [.int (-2 : Int32)]) (S := []) (v := some (.int x11)) (h1 := h12) (S2 := [.int x11]) cf10 dX10_run_30 mtX10_refuse lX10_96 inX10_refuse seX10_refuse (gb_kE g10) (fnX10_refuse_ok _ _ cx11) (by decide) rfl (Nat.le_of_ble_eq_true rfl) (Nat.le_of_ble_eq_true rfl) rfl rfl ?_
        cases hF
        exact gb_iret dX10_run_33 rfl
    · replace hF := gb_ifT c6 hF
      exact gb_wk (fbX10_run_14_ok p0 h5 r hF) (And.intro rfl trivial)
def fnX10_shelf (p0 : Nat) (h : gb_H) : Option (Int32 × gb_H) :=
  gb_gd (gb_k h p0 10) <|
  gb_rd (gb_R h p0 3) fun a2 =>
  gb_gd (gb_k h a2 2) <|
  if (gb_I h a2 1) < (8 : Int32) then
    gb_gd (gb_k h p0 10) <|
    gb_rd (gb_R h p0 1) fun a6 =>
    gb_gd (gb_k h a6 7) <|
    gb_bd (fnX7_readDeedAlone a6 h) fun x8 h9 =>
    gb_gd (gb_k h9 p0 10) <|
    gb_lt (gb_sI h9 p0 14 x8) fun h11 =>
    gb_gd (gb_k h11 p0 10) <|
    gb_rd (gb_R h11 p0 0) fun a13 =>
    gb_gd (gb_k h11 a13 9) <|
    gb_lt (gb_sI h11 a13 1 (0 : Int32)) fun h15 =>
    gb_gd (gb_k h15 p0 10) <|
    if (gb_I h15 p0 14) = (-1 : Int32) then
      gb_gd (gb_k h15 p0 10) <|
      gb_rd (gb_R h15 p0 3) fun a19 =>
      gb_gd (gb_k h15 p0 10) <|
      gb_rd (gb_R h15 p0 1) fun a21 =>
      gb_gd (gb_k h15 a21 7) <|
      gb_rd (gb_R h15 a21 1) fun a23 =>
      gb_gd (gb_k h15 a23 2) <|
      gb_rd (gb_R h15 a23 0) fun a25 =>
      gb_gd (gb_k h15 a25 35) <|
      gb_gd (gb_in h15 a25 (0 : Int32)) <|
      gb_rd (gb_R h15 a25 (0 : Int32).toNatClampNeg) fun a28 =>
      gb_gd (gb_k h15 a19 2) <|
      gb_bd (fnX2_append a19 a28 h15) fun _ h31 =>
      gb_gd (gb_k h31 p0 10) <|
      gb_rd (gb_R h31 p0 3) fun a33 =>
      gb_gd (gb_k h31 a33 2) <|
      gb_gd (gb_k h31 p0 10) <|
      gb_bd (fnX10_allow p0 ((gb_I h31 a33 1) - (1 : Int32)) h31) fun x36 h37 =>
      some (x36, h37)
    else
      gb_gd (gb_k h15 p0 10) <|
      gb_bd (fnX10_refuse p0 (-6 : Int32) h15) fun x39 h40 =>
      some (x39, h40)
  else
    gb_gd (gb_k h p0 10) <|
    gb_rd (gb_R h p0 0) fun a42 =>
    gb_gd (gb_k h a42 9) <|
    gb_lt (gb_sI h a42 1 (0 : Int32)) fun h44 =>
    gb_gd (gb_k h44 p0 10) <|
    gb_bd (fnX10_refuse p0 (-5 : Int32) h44) fun x46 h47 =>
    some (x46, h47)
theorem fnX10_shelf_ok {X : gb_X}  {p0 : Nat} (h : gb_H) (r : Int32 × gb_H) (hF : fnX10_shelf p0 h = some r) : gb_Ev X 11 mX10_shelf 0 (gb_L0 [.ref p0]) [] h (gb_wI r) := by
  unfold fnX10_shelf at hF
  refine gb_weak (L' := [some (.ref p0)]) (And.intro rfl trivial) ?_
  refine gb_aload_n dX10_shelf_0 rfl rfl ?_
  obtain ⟨g1, hF⟩ := gb_gdE hF
  obtain ⟨a2, ea2, hF⟩ := gb_rdE hF
  refine gb_getR fX10_41 dX10_shelf_1 (gb_kE g1) ea2 ?_
  obtain ⟨g3, hF⟩ := gb_gdE hF
  refine gb_getI fX10_136 dX10_shelf_4 (gb_kE g3) ?_
  refine gb_bipush (v := (8 : Int32)) dX10_shelf_7 (by decide) ?_
  refine gb_icmp_lt (tgt := 27) dX10_shelf_9 (by decide) (fun c4 => ?_) (fun c4 => ?_)
  · replace hF := gb_ifT c4 hF
    refine gb_aload_n dX10_shelf_27 rfl rfl ?_
    refine gb_aload_n dX10_shelf_28 rfl rfl ?_
    obtain ⟨g5, hF⟩ := gb_gdE hF
    obtain ⟨a6, ea6, hF⟩ := gb_rdE hF
    refine gb_getR fX10_21 dX10_shelf_29 (gb_kE g5) ea6 ?_
    obtain ⟨g7, hF⟩ := gb_gdE hF
    obtain ⟨x8, h9, cx8, hF⟩ := gb_bdE hF
    refine gb_cV (As := []) (S := [.ref p0]) (v := some (.int x8)) (h1 := h9) (S2 := [.int x8, .ref p0]) cf7 dX10_shelf_32 mtX7_readDeedAlone lX10_139 inX7_readDeedAlone seX7_readDeedAlone (gb_kE g7) (fnX7_readDeedAlone_ok _ _ cx8) (by decide) rfl (Nat.le_of_ble_eq_true rfl) (Nat.le_of_ble_eq_true rfl) rfl rfl ?_
    obtain ⟨g10, hF⟩ := gb_gdE hF
    obtain ⟨h11, eh11, hF⟩ := gb_ltE hF
    refine gb_putI fX10_92 (gb_nff nf10_14) dX10_shelf_35 (gb_kE g10) (fun _ => ⟨rfl, rfl⟩) (gb_hp eh11 ?_)
    refine gb_aload_n dX10_shelf_38 rfl rfl ?_
    obtain ⟨g12, hF⟩ := gb_gdE hF
    obtain ⟨a13, ea13, hF⟩ := gb_rdE hF
    refine gb_getR fX10_12 dX10_shelf_39 (gb_kE g12) ea13 ?_
    refine gb_iconst (v := (0 : Int32)) dX10_shelf_42 (by decide) ?_
    obtain ⟨g14, hF⟩ := gb_gdE hF
    obtain ⟨h15, eh15, hF⟩ := gb_ltE hF
    refine gb_putI fX10_116 (gb_nff nf9_1) dX10_shelf_43 (gb_kE g14) (fun _ => ⟨rfl, rfl⟩) (gb_hp eh15 ?_)
    refine gb_aload_n dX10_shelf_46 rfl rfl ?_
    obtain ⟨g16, hF⟩ := gb_gdE hF
    refine gb_getI fX10_92 dX10_shelf_47 (gb_kE g16) ?_
    refine gb_iconst (v := (-1 : Int32)) dX10_shelf_50 (by decide) ?_
    refine gb_icmp_eq (tgt := 61) dX10_shelf_51 (by decide) (fun c17 => ?_) (fun c17 => ?_)
    · replace hF := gb_ifT c17 hF
      refine gb_aload_n dX10_shelf_61 rfl rfl ?_
      obtain ⟨g18, hF⟩ := gb_gdE hF
      obtain ⟨a19, ea19, hF⟩ := gb_rdE hF
      refine gb_getR fX10_41 dX10_shelf_62 (gb_kE g18) ea19 ?_
      refine gb_aload_n dX10_shelf_65 rfl rfl ?_
      obtain ⟨g20, hF⟩ := gb_gdE hF
      obtain ⟨a21, ea21, hF⟩ := gb_rdE hF
      refine gb_getR fX10_21 dX10_shelf_66 (gb_kE g20) ea21 ?_
      obtain ⟨g22, hF⟩ := gb_gdE hF
      obtain ⟨a23, ea23, hF⟩ := gb_rdE hF
      refine gb_getR fX10_126 dX10_shelf_69 (gb_kE g22) ea23 ?_
      obtain ⟨g24, hF⟩ := gb_gdE hF
      obtain ⟨a25, ea25, hF⟩ := gb_rdE hF
      refine gb_getR fX10_142 dX10_shelf_72 (gb_kE g24) ea25 ?_
      refine gb_iconst (v := (0 : Int32)) dX10_shelf_75 (by decide) ?_
      obtain ⟨g26, hF⟩ := gb_gdE hF
      obtain ⟨g27, hF⟩ := gb_gdE hF
      obtain ⟨a28, ea28, hF⟩ := gb_rdE hF
      refine gb_aald dX10_shelf_76 (gb_kE g26) (by decide) (gb_inE g27) ea28 ?_
      obtain ⟨g29, hF⟩ := gb_gdE hF
      obtain ⟨x30, h31, cx30, hF⟩ := gb_bdE hF
      refine gb_cV (As := [.ref a28]) (S := []) (v := none) (h1 := h31) (S2 := []) cf2 dX10_shelf_77 mtX2_append lX10_146 inX2_append seX2_append (gb_kE g29) (fnX2_append_ok _ _ cx30) (by decide) rfl (Nat.le_of_ble_eq_true rfl) (Nat.le_of_ble_eq_true rfl) rfl rfl ?_
      refine gb_aload_n dX10_shelf_80 rfl rfl ?_
      refine gb_aload_n dX10_shelf_81 rfl rfl ?_
      obtain ⟨g32, hF⟩ := gb_gdE hF
      obtain ⟨a33, ea33, hF⟩ := gb_rdE hF
      refine gb_getR fX10_41 dX10_shelf_82 (gb_kE g32) ea33 ?_
      obtain ⟨g34, hF⟩ := gb_gdE hF
      refine gb_getI fX10_136 dX10_shelf_85 (gb_kE g34) ?_
      refine gb_iconst (v := (1 : Int32)) dX10_shelf_88 (by decide) ?_
      refine gb_isub dX10_shelf_89 ?_
      obtain ⟨g35, hF⟩ := gb_gdE hF
      obtain ⟨x36, h37, cx36, hF⟩ := gb_bdE hF
      refine gb_cV (As := [.int ((gb_I h31 a33 1) - (1 : Int32))]) (S := []) (v := some (.int x36)) (h1 := h37) (S2 := [.int x36]) cf10 dX10_shelf_90 mtX10_allow lX10_106 inX10_allow seX10_allow (gb_kE g35) (fnX10_allow_ok _ _ cx36) (by decide) rfl (Nat.le_of_ble_eq_true rfl) (Nat.le_of_ble_eq_true rfl) rfl rfl ?_
      cases hF
      exact gb_iret dX10_shelf_93 rfl
    · replace hF := gb_ifF c17 hF
      refine gb_aload_n dX10_shelf_54 rfl rfl ?_
      refine gb_bipush (v := (-6 : Int32)) dX10_shelf_55 (by decide) ?_
      obtain ⟨g38, hF⟩ := gb_gdE hF
      obtain ⟨x39, h40, cx39, hF⟩ := gb_bdE hF
      refine gb_cV (As := [.int (-6 : Int32)]) (S := []) (v := some (.int x39)) (h1 := h40) (S2 := [.int x39]) cf10 dX10_shelf_57 mtX10_refuse lX10_96 inX10_refuse seX10_refuse (gb_kE g38) (fnX10_refuse_ok _ _ cx39) (by decide) rfl (Nat.le_of_ble_eq_true rfl) (Nat.le_of_ble_eq_true rfl) rfl rfl ?_
      cases hF
      exact gb_iret dX10_shelf_60 rfl
  · replace hF := gb_ifF c4 hF
    refine gb_aload_n dX10_shelf_12 rfl rfl ?_
    obtain ⟨g41, hF⟩ := gb_gdE hF
    obtain ⟨a42, ea42, hF⟩ := gb_rdE hF
    refine gb_getR fX10_12 dX10_shelf_13 (gb_kE g41) ea42 ?_
    refine gb_iconst (v := (0 : Int32)) dX10_shelf_16 (by decide) ?_
    obtain ⟨g43, hF⟩ := gb_gdE hF
    obtain ⟨h44, eh44, hF⟩ := gb_ltE hF
    refine gb_putI fX10_116 (gb_nff nf9_1) dX10_shelf_17 (gb_kE g43) (fun _ => ⟨rfl, rfl⟩) (gb_hp eh44 ?_)
    refine gb_aload_n dX10_shelf_20 rfl rfl ?_
    refine gb_bipush (v := (-5 : Int32)) dX10_shelf_21 (by decide) ?_
    obtain ⟨g45, hF⟩ := gb_gdE hF
    obtain ⟨x46, h47, cx46, hF⟩ := gb_bdE hF
    refine gb_cV (As := [.int (-5 : Int32)]) (S := []) (v := some (.int x46)) (h1 := h47) (S2 := [.int x46]) cf10 dX10_shelf_23 mtX10_refuse lX10_96 inX10_refuse seX10_refuse (gb_kE g45) (fnX10_refuse_ok _ _ cx46) (by decide) rfl (Nat.le_of_ble_eq_true rfl) (Nat.le_of_ble_eq_true rfl) rfl rfl ?_
    cases hF
    exact gb_iret dX10_shelf_26 rfl
def fnX10_status (p0 : Nat) (h : gb_H) : Option (Int32 × gb_H) :=
  gb_gd (gb_k h p0 10) <|
  some (gb_I h p0 15, h)
theorem fnX10_status_ok {X : gb_X}  {p0 : Nat} (h : gb_H) (r : Int32 × gb_H) (hF : fnX10_status p0 h = some r) : gb_Ev X 1 mX10_status 0 (gb_L0 [.ref p0]) [] h (gb_wI r) := by
  unfold fnX10_status at hF
  refine gb_weak (L' := [some (.ref p0)]) (And.intro rfl trivial) ?_
  refine gb_aload_n dX10_status_0 rfl rfl ?_
  obtain ⟨g1, hF⟩ := gb_gdE hF
  refine gb_getI fX10_256 dX10_status_1 (gb_kE g1) ?_
  cases hF
  exact gb_iret dX10_status_4 rfl
def fbX10_way_27 (h : gb_H) : Option (Int32 × gb_H) :=
  some ((-2000000000 : Int32), h)
theorem fbX10_way_27_ok {X : gb_X} (h : gb_H) (r : Int32 × gb_H) (hF : fbX10_way_27 h = some r) : gb_Ev X 6 mX10_way 27 [none, none, none, none, none, none, none] [] h (gb_wI r) := by
  unfold fbX10_way_27 at hF
  refine gb_ldc (v := (-2000000000 : Int32)) dX10_way_27 kX10_153 ?_
  cases hF
  exact gb_iret dX10_way_29 rfl
def fbX10_way_60 (h : gb_H) : Option (Int32 × gb_H) :=
  some ((-2000000000 : Int32), h)
theorem fbX10_way_60_ok {X : gb_X} (h : gb_H) (r : Int32 × gb_H) (hF : fbX10_way_60 h = some r) : gb_Ev X 6 mX10_way 60 [none, none, none, none, none, none, none] [] h (gb_wI r) := by
  unfold fbX10_way_60 at hF
  refine gb_ldc (v := (-2000000000 : Int32)) dX10_way_60 kX10_153 ?_
  cases hF
  exact gb_iret dX10_way_62 rfl
def fnX10_way (p0 : Nat) (p1 : Int32) (p2 : Int32) (p3 : Int32) (p4 : Int32) (h : gb_H) : Option (Int32 × gb_H) :=
  gb_bd (fnX10_isBench p1 h) fun x1 h2 =>
  if x1 = 0 then
    fbX10_way_27 h2
  else
    if p2 < 0 then
      fbX10_way_27 h2
    else
      if (10 : Int32) ≤ p2 then
        fbX10_way_27 h2
      else
        if p3 < 0 then
          fbX10_way_27 h2
        else
          if p3 < (10 : Int32) then
            gb_gd (gb_k h2 p0 10) <|
            gb_rd (gb_R h2 p0 2) fun a9 =>
            gb_gd (gb_k h2 a9 32) <|
            gb_gd (gb_in h2 a9 p1) <|
            gb_rd (gb_R h2 a9 p1.toNatClampNeg) fun a12 =>
            gb_gd (gb_k h2 a12 2) <|
            gb_bd (fnX2_depthFor a12 (1 : Int32) h2) fun x14 h15 =>
            if (300000 : Int32) < x14 then
              fbX10_way_60 h15
            else
              if p4 < 0 then
                fbX10_way_60 h15
              else
                if p4 ≤ (4 : Int32) then
                  if p4 = (4 : Int32) then
                    some (x14, h15)
                  else
                    gb_gd (gb_k h15 p0 10) <|
                    gb_rd (gb_R h15 p0 2) fun a21 =>
                    gb_gd (gb_k h15 a21 32) <|
                    gb_gd (gb_in h15 a21 p1) <|
                    gb_rd (gb_R h15 a21 p1.toNatClampNeg) fun a24 =>
                    gb_bd (fnX0_keyOf (0 : Int32) (0 : Int32) (p2 + (1 : Int32)) h15) fun x25 h26 =>
                    gb_gd (gb_k h26 p0 10) <|
                    gb_bd (fnX10_lightThrough p0 a24 x25 h26) fun x28 h29 =>
                    gb_bd (fnX0_keyOf (0 : Int32) (0 : Int32) (p3 + (1 : Int32)) h29) fun x30 h31 =>
                    gb_gd (gb_k h31 x28 0) <|
                    gb_bd (fnX0_numberPart x28 x30 p4 h31) fun x33 h34 =>
                    some (x33.toInt32, h34)
                else
                  fbX10_way_60 h15
          else
            fbX10_way_27 h2
theorem fnX10_way_ok {X : gb_X}  {p0 : Nat} {p1 : Int32} {p2 : Int32} {p3 : Int32} {p4 : Int32} (h : gb_H) (r : Int32 × gb_H) (hF : fnX10_way p0 p1 p2 p3 p4 h = some r) : gb_Ev X 6 mX10_way 0 (gb_L0 [.ref p0, .int p1, .int p2, .int p3, .int p4]) [] h (gb_wI r) := by
  unfold fnX10_way at hF
  refine gb_weak (L' := [some (.ref p0), some (.int p1), some (.int p2), some (.int p3), some (.int p4), none, none]) (And.intro rfl (And.intro rfl (And.intro rfl (And.intro rfl (And.intro rfl trivial))))) ?_
  refine gb_iload_n dX10_way_0 rfl rfl ?_
  obtain ⟨x1, h2, cx1, hF⟩ := gb_bdE hF
  refine gb_cS (As := [.int p1]) (S := []) (v := some (.int x1)) (h1 := h2) (S2 := [.int x1]) dX10_way_1 mtX10_isBench lX10_119 stX10_isBench (fnX10_isBench_ok _ _ cx1) (by decide) rfl (Nat.le_of_ble_eq_true rfl) (Nat.le_of_ble_eq_true rfl) rfl rfl ?_
  refine gb_if_eq (tgt := 27) dX10_way_4 (by decide) (fun c3 => ?_) (fun c3 => ?_)
  · replace hF := gb_ifT c3 hF
    exact gb_wk (fbX10_way_27_ok h2 r hF) trivial
  · replace hF := gb_ifF c3 hF
    refine gb_iload_n dX10_way_7 rfl rfl ?_
    refine gb_if_lt (tgt := 27) dX10_way_8 (by decide) (fun c4 => ?_) (fun c4 => ?_)
    · replace hF := gb_ifT c4 hF
      exact gb_wk (fbX10_way_27_ok h2 r hF) trivial
    · replace hF := gb_ifF c4 hF
      refine gb_iload_n dX10_way_11 rfl rfl ?_
      refine gb_bipush (v := (10 : Int32)) dX10_way_12 (by decide) ?_
      refine gb_icmp_ge (tgt := 27) dX10_way_14 (by decide) (fun c5 => ?_) (fun c5 => ?_)
      · replace hF := gb_ifT c5 hF
        exact gb_wk (fbX10_way_27_ok h2 r hF) trivial
      · replace hF := gb_ifF c5 hF
        refine gb_iload_n dX10_way_17 rfl rfl ?_
        refine gb_if_lt (tgt := 27) dX10_way_18 (by decide) (fun c6 => ?_) (fun c6 => ?_)
        · replace hF := gb_ifT c6 hF
          exact gb_wk (fbX10_way_27_ok h2 r hF) trivial
        · replace hF := gb_ifF c6 hF
          refine gb_iload_n dX10_way_21 rfl rfl ?_
          refine gb_bipush (v := (10 : Int32)) dX10_way_22 (by decide) ?_
          refine gb_icmp_lt (tgt := 30) dX10_way_24 (by decide) (fun c7 => ?_) (fun c7 => ?_)
          · replace hF := gb_ifT c7 hF
            refine gb_aload_n dX10_way_30 rfl rfl ?_
            obtain ⟨g8, hF⟩ := gb_gdE hF
            obtain ⟨a9, ea9, hF⟩ := gb_rdE hF
            refine gb_getR fX10_27 dX10_way_31 (gb_kE g8) ea9 ?_
            refine gb_iload_n dX10_way_34 rfl rfl ?_
            obtain ⟨g10, hF⟩ := gb_gdE hF
            obtain ⟨g11, hF⟩ := gb_gdE hF
            obtain ⟨a12, ea12, hF⟩ := gb_rdE hF
            refine gb_aald dX10_way_35 (gb_kE g10) (by decide) (gb_inE g11) ea12 ?_
            refine gb_iconst (v := (1 : Int32)) dX10_way_36 (by decide) ?_
            obtain ⟨g13, hF⟩ := gb_gdE hF
            obtain ⟨x14, h15, cx14, hF⟩ := gb_bdE hF
            refine gb_cV (As := [.int (1 : Int32)]) (S := []) (v := some (.int x14)) (h1 := h15) (S2 := [.int x14]) cf2 dX10_way_37 mtX2_depthFor lX10_150 inX2_depthFor seX2_depthFor (gb_kE g13) (fnX2_depthFor_ok _ _ cx14) (by decide) rfl (Nat.le_of_ble_eq_true rfl) (Nat.le_of_ble_eq_true rfl) rfl rfl ?_
            refine gb_istore (L' := [some (.ref p0), some (.int p1), some (.int p2), some (.int p3), some (.int p4), some (.int x14), none]) dX10_way_40 (by decide) rfl rfl ?_
            refine gb_iload dX10_way_42 rfl ?_
            refine gb_ldc (v := (300000 : Int32)) dX10_way_44 kX10_154 ?_
            refine gb_icmp_gt (tgt := 60) dX10_way_46 (by decide) (fun c16 => ?_) (fun c16 => ?_)
            · replace hF := gb_ifT c16 hF
              exact gb_wk (fbX10_way_60_ok h15 r hF) trivial
            · replace hF := gb_ifF c16 hF
              refine gb_iload dX10_way_49 rfl ?_
              refine gb_if_lt (tgt := 60) dX10_way_51 (by decide) (fun c17 => ?_) (fun c17 => ?_)
              · replace hF := gb_ifT c17 hF
                exact gb_wk (fbX10_way_60_ok h15 r hF) trivial
              · replace hF := gb_ifF c17 hF
                refine gb_iload dX10_way_54 rfl ?_
                refine gb_iconst (v := (4 : Int32)) dX10_way_56 (by decide) ?_
                refine gb_icmp_le (tgt := 63) dX10_way_57 (by decide) (fun c18 => ?_) (fun c18 => ?_)
                · replace hF := gb_ifT c18 hF
                  refine gb_iload dX10_way_63 rfl ?_
                  refine gb_iconst (v := (4 : Int32)) dX10_way_65 (by decide) ?_
                  refine gb_icmp_ne (tgt := 72) dX10_way_66 (by decide) (fun c19 => ?_) (fun c19 => ?_)
                  · replace hF := gb_ifF c19 hF
                    refine gb_aload_n dX10_way_72 rfl rfl ?_
                    refine gb_aload_n dX10_way_73 rfl rfl ?_
                    obtain ⟨g20, hF⟩ := gb_gdE hF
                    obtain ⟨a21, ea21, hF⟩ := gb_rdE hF
                    refine gb_getR fX10_27 dX10_way_74 (gb_kE g20) ea21 ?_
                    refine gb_iload_n dX10_way_77 rfl rfl ?_
                    obtain ⟨g22, hF⟩ := gb_gdE hF
                    obtain ⟨g23, hF⟩ := gb_gdE hF
                    obtain ⟨a24, ea24, hF⟩ := gb_rdE hF
                    refine gb_aald dX10_way_78 (gb_kE g22) (by decide) (gb_inE g23) ea24 ?_
                    refine gb_iconst (v := (0 : Int32)) dX10_way_79 (by decide) ?_
                    refine gb_iconst (v := (0 : Int32)) dX10_way_80 (by decide) ?_
                    refine gb_iload_n dX10_way_81 rfl rfl ?_
                    refine gb_iconst (v := (1 : Int32)) dX10_way_82 (by decide) ?_
                    refine gb_iadd dX10_way_83 ?_
                    obtain ⟨x25, h26, cx25, hF⟩ := gb_bdE hF
                    refine gb_cS (As := [.int (0 : Int32), .int (0 : Int32), .int (p2 + (1 : Int32))]) (S := [.ref a24, .ref p0]) (v := some (.int x25)) (h1 := h26) (S2 := [.int x25, .ref a24, .ref p0]) dX10_way_84 mtX0_keyOf lX10_155 stX0_keyOf (fnX0_keyOf_ok _ _ cx25) (by decide) rfl (Nat.le_of_ble_eq_true rfl) (Nat.le_of_ble_eq_true rfl) rfl rfl ?_
                    obtain ⟨g27, hF⟩ := gb_gdE hF
                    obtain ⟨x28, h29, cx28, hF⟩ := gb_bdE hF
                    refine gb_cV (As := [.ref a24, .int x25]) (S := []) (v := some (.ref x28)) (h1 := h29) (S2 := [.ref x28]) cf10 dX10_way_87 mtX10_lightThrough lX10_159 inX10_lightThrough seX10_lightThrough (gb_kE g27) (fnX10_lightThrough_ok _ _ cx28) (by decide) rfl (Nat.le_of_ble_eq_true rfl) (Nat.le_of_ble_eq_true rfl) rfl rfl ?_
                    refine gb_astore (L' := [some (.ref p0), some (.int p1), some (.int p2), some (.int p3), some (.int p4), some (.int x14), some (.ref x28)]) dX10_way_90 (by decide) rfl rfl ?_
                    refine gb_aload dX10_way_92 rfl ?_
                    refine gb_iconst (v := (0 : Int32)) dX10_way_94 (by decide) ?_
                    refine gb_iconst (v := (0 : Int32)) dX10_way_95 (by decide) ?_
                    refine gb_iload_n dX10_way_96 rfl rfl ?_
                    refine gb_iconst (v := (1 : Int32)) dX10_way_97 (by decide) ?_
                    refine gb_iadd dX10_way_98 ?_
                    obtain ⟨x30, h31, cx30, hF⟩ := gb_bdE hF
                    refine gb_cS (As := [.int (0 : Int32), .int (0 : Int32), .int (p3 + (1 : Int32))]) (S := [.ref x28]) (v := some (.int x30)) (h1 := h31) (S2 := [.int x30, .ref x28]) dX10_way_99 mtX0_keyOf lX10_155 stX0_keyOf (fnX0_keyOf_ok _ _ cx30) (by decide) rfl (Nat.le_of_ble_eq_true rfl) (Nat.le_of_ble_eq_true rfl) rfl rfl ?_
                    refine gb_iload dX10_way_102 rfl ?_
                    obtain ⟨g32, hF⟩ := gb_gdE hF
                    obtain ⟨x33, h34, cx33, hF⟩ := gb_bdE hF
                    refine gb_cV (As := [.int x30, .int p4]) (S := []) (v := some (.long x33)) (h1 := h34) (S2 := [.long x33]) cf0 dX10_way_104 mtX0_numberPart lX10_163 inX0_numberPart seX0_numberPart (gb_kE g32) (fnX0_numberPart_ok _ _ cx33) (by decide) rfl (Nat.le_of_ble_eq_true rfl) (Nat.le_of_ble_eq_true rfl) rfl rfl ?_
                    refine gb_l2i dX10_way_107 ?_
                    cases hF
                    exact gb_iret dX10_way_108 rfl
                  · replace hF := gb_ifT c19 hF
                    refine gb_iload dX10_way_69 rfl ?_
                    cases hF
                    exact gb_iret dX10_way_71 rfl
                · replace hF := gb_ifF c18 hF
                  exact gb_wk (fbX10_way_60_ok h15 r hF) trivial
          · replace hF := gb_ifF c7 hF
            exact gb_wk (fbX10_way_27_ok h2 r hF) trivial
def fbX10_wrong_15 (h : gb_H) : Option (Int32 × gb_H) :=
  some ((-1 : Int32), h)
theorem fbX10_wrong_15_ok {X : gb_X} (h : gb_H) (r : Int32 × gb_H) (hF : fbX10_wrong_15 h = some r) : gb_Ev X 7 mX10_wrong 15 [none, none, none, none, none] [] h (gb_wI r) := by
  unfold fbX10_wrong_15 at hF
  refine gb_iconst (v := (-1 : Int32)) dX10_wrong_15 (by decide) ?_
  cases hF
  exact gb_iret dX10_wrong_16 rfl
def fbX10_wrong_97 (k31 : Nat → Int32 → Int32 → Int32 → gb_H → Option (Int32 × gb_H)) (v0 : Nat) (v1 : Int32) (v3 : Int32) (v4 : Int32) (h : gb_H) : Option (Int32 × gb_H) :=
  gb_lt (v4 + (1 : Int32)) fun x1 =>
  k31 v0 v1 v3 x1 h
theorem fbX10_wrong_97_ok {X : gb_X} {k31 : Nat → Int32 → Int32 → Int32 → gb_H → Option (Int32 × gb_H)} (hk31 : ∀ v0 v1 v3 v4 h r, k31 v0 v1 v3 v4 h = some r → gb_Ev X 7 mX10_wrong 31 [some (.ref v0), some (.int v1), none, some (.int v3), some (.int v4)] [] h (gb_wI r)) (v0 : Nat) (v1 : Int32) (v3 : Int32) (v4 : Int32) (h : gb_H) (r : Int32 × gb_H) (hF : fbX10_wrong_97 k31 v0 v1 v3 v4 h = some r) : gb_Ev X 7 mX10_wrong 97 [some (.ref v0), some (.int v1), none, some (.int v3), some (.int v4)] [] h (gb_wI r) := by
  unfold fbX10_wrong_97 at hF
  obtain ⟨x1, ex1, hF⟩ := gb_ltE hF
  refine gb_iinc (v := x1) (L' := [some (.ref v0), some (.int v1), none, some (.int v3), some (.int x1)]) dX10_wrong_97 rfl (by rw [ex1]; rfl) (by decide) rfl rfl ?_
  refine gb_goto (tgt := 31) dX10_wrong_100 (by decide) ?_
  exact gb_wk (hk31 v0 v1 v3 x1 h r hF) (And.intro rfl (And.intro rfl (And.intro rfl (And.intro rfl trivial))))
def fbX10_wrong_95 (k31 : Nat → Int32 → Int32 → Int32 → gb_H → Option (Int32 × gb_H)) (v0 : Nat) (v1 : Int32) (v4 : Int32) (s0 : Int32) (s1 : Int32) (h : gb_H) : Option (Int32 × gb_H) :=
  gb_lt (s0 + s1) fun x1 =>
  fbX10_wrong_97 k31 v0 v1 x1 v4 h
theorem fbX10_wrong_95_ok {X : gb_X} {k31 : Nat → Int32 → Int32 → Int32 → gb_H → Option (Int32 × gb_H)} (hk31 : ∀ v0 v1 v3 v4 h r, k31 v0 v1 v3 v4 h = some r → gb_Ev X 7 mX10_wrong 31 [some (.ref v0), some (.int v1), none, some (.int v3), some (.int v4)] [] h (gb_wI r)) (v0 : Nat) (v1 : Int32) (v4 : Int32) (s0 : Int32) (s1 : Int32) (h : gb_H) (r : Int32 × gb_H) (hF : fbX10_wrong_95 k31 v0 v1 v4 s0 s1 h = some r) : gb_Ev X 7 mX10_wrong 95 [some (.ref v0), some (.int v1), none, none, some (.int v4)] [.int s1, .int s0] h (gb_wI r) := by
  unfold fbX10_wrong_95 at hF
  refine gb_iadd dX10_wrong_95 ?_
  obtain ⟨x1, ex1, hF⟩ := gb_ltE hF
  refine gb_topI ex1 ?_
  refine gb_istore_n (L' := [some (.ref v0), some (.int v1), none, some (.int x1), some (.int v4)]) dX10_wrong_96 rfl (by decide) rfl rfl ?_
  exact gb_wk (fbX10_wrong_97_ok hk31 v0 v1 x1 v4 h r hF) (And.intro rfl (And.intro rfl (And.intro rfl (And.intro rfl trivial))))
def fbX10_wrong_31 (k31 : Nat → Int32 → Int32 → Int32 → gb_H → Option (Int32 × gb_H)) (v0 : Nat) (v1 : Int32) (v3 : Int32) (v4 : Int32) (h : gb_H) : Option (Int32 × gb_H) :=
  if (32 : Int32) ≤ v4 then
    some (v3, h)
  else
    gb_gd (gb_k h v0 10) <|
    gb_rd (gb_R h v0 5) fun a3 =>
    gb_gd (gb_k h a3 3) <|
    gb_rd (gb_R h a3 4) fun a5 =>
    gb_gd (gb_k h a5 20) <|
    gb_gd (gb_in h a5 v4) <|
    if (gb_I h a5 v4.toNatClampNeg) ≤ 0 then
      fbX10_wrong_97 k31 v0 v1 v3 v4 h
    else
      gb_gd (gb_k h v0 10) <|
      gb_rd (gb_R h v0 4) fun a10 =>
      gb_gd (gb_k h a10 31) <|
      gb_gd (gb_in h a10 v1) <|
      gb_rd (gb_R h a10 v1.toNatClampNeg) fun a13 =>
      gb_gd (gb_k h v0 10) <|
      gb_rd (gb_R h v0 12) fun a15 =>
      gb_gd (gb_k h v0 10) <|
      gb_rd (gb_R h v0 10) fun a17 =>
      gb_gd (gb_k h a13 1) <|
      gb_bd (fnX1_shareOfClicks a13 v4 a15 a17 h) fun _ h20 =>
      gb_gd (gb_k h20 v0 10) <|
      gb_rd (gb_R h20 v0 10) fun a22 =>
      gb_gd (gb_k h20 a22 8) <|
      gb_bd (fnX8_isZero a22 h20) fun x24 h25 =>
      if x24 = 0 then
        fbX10_wrong_95 k31 v0 v1 v4 v3 (0 : Int32) h25
      else
        gb_gd (gb_k h25 v0 10) <|
        gb_rd (gb_R h25 v0 5) fun a28 =>
        gb_gd (gb_k h25 a28 3) <|
        gb_rd (gb_R h25 a28 4) fun a30 =>
        gb_gd (gb_k h25 a30 20) <|
        gb_gd (gb_in h25 a30 v4) <|
        fbX10_wrong_95 k31 v0 v1 v4 v3 (gb_I h25 a30 v4.toNatClampNeg) h25
theorem fbX10_wrong_31_ok {X : gb_X} {k31 : Nat → Int32 → Int32 → Int32 → gb_H → Option (Int32 × gb_H)} (hk31 : ∀ v0 v1 v3 v4 h r, k31 v0 v1 v3 v4 h = some r → gb_Ev X 7 mX10_wrong 31 [some (.ref v0), some (.int v1), none, some (.int v3), some (.int v4)] [] h (gb_wI r)) (v0 : Nat) (v1 : Int32) (v3 : Int32) (v4 : Int32) (h : gb_H) (r : Int32 × gb_H) (hF : fbX10_wrong_31 k31 v0 v1 v3 v4 h = some r) : gb_Ev X 7 mX10_wrong 31 [some (.ref v0), some (.int v1), none, some (.int v3), some (.int v4)] [] h (gb_wI r) := by
  unfold fbX10_wrong_31 at hF
  refine gb_iload dX10_wrong_31 rfl ?_
  refine gb_bipush (v := (32 : Int32)) dX10_wrong_33 (by decide) ?_
  refine gb_icmp_ge (tgt := 103) dX10_wrong_35 (by decide) (fun c1 => ?_) (fun c1 => ?_)
  · replace hF := gb_ifT c1 hF
    refine gb_iload_n dX10_wrong_103 rfl rfl ?_
    cases hF
    exact gb_iret dX10_wrong_104 rfl
  · replace hF := gb_ifF c1 hF
    refine gb_aload_n dX10_wrong_38 rfl rfl ?_
    obtain ⟨g2, hF⟩ := gb_gdE hF
    obtain ⟨a3, ea3, hF⟩ := gb_rdE hF
    refine gb_getR fX10_48 dX10_wrong_39 (gb_kE g2) ea3 ?_
    obtain ⟨g4, hF⟩ := gb_gdE hF
    obtain ⟨a5, ea5, hF⟩ := gb_rdE hF
    refine gb_getR fX10_208 dX10_wrong_42 (gb_kE g4) ea5 ?_
    refine gb_iload dX10_wrong_45 rfl ?_
    obtain ⟨g6, hF⟩ := gb_gdE hF
    obtain ⟨g7, hF⟩ := gb_gdE hF
    refine gb_iald dX10_wrong_47 (gb_kE g6) (gb_inE g7) ?_
    refine gb_if_le (tgt := 97) dX10_wrong_48 (by decide) (fun c8 => ?_) (fun c8 => ?_)
    · replace hF := gb_ifT c8 hF
      exact gb_wk (fbX10_wrong_97_ok hk31 v0 v1 v3 v4 h r hF) (And.intro rfl (And.intro rfl (And.intro rfl (And.intro rfl trivial))))
    · replace hF := gb_ifF c8 hF
      refine gb_aload_n dX10_wrong_51 rfl rfl ?_
      obtain ⟨g9, hF⟩ := gb_gdE hF
      obtain ⟨a10, ea10, hF⟩ := gb_rdE hF
      refine gb_getR fX10_33 dX10_wrong_52 (gb_kE g9) ea10 ?_
      refine gb_iload_n dX10_wrong_55 rfl rfl ?_
      obtain ⟨g11, hF⟩ := gb_gdE hF
      obtain ⟨g12, hF⟩ := gb_gdE hF
      obtain ⟨a13, ea13, hF⟩ := gb_rdE hF
      refine gb_aald dX10_wrong_56 (gb_kE g11) (by decide) (gb_inE g12) ea13 ?_
      refine gb_iload dX10_wrong_57 rfl ?_
      refine gb_aload_n dX10_wrong_59 rfl rfl ?_
      obtain ⟨g14, hF⟩ := gb_gdE hF
      obtain ⟨a15, ea15, hF⟩ := gb_rdE hF
      refine gb_getR fX10_89 dX10_wrong_60 (gb_kE g14) ea15 ?_
      refine gb_aload_n dX10_wrong_63 rfl rfl ?_
      obtain ⟨g16, hF⟩ := gb_gdE hF
      obtain ⟨a17, ea17, hF⟩ := gb_rdE hF
      refine gb_getR fX10_81 dX10_wrong_64 (gb_kE g16) ea17 ?_
      obtain ⟨g18, hF⟩ := gb_gdE hF
      obtain ⟨x19, h20, cx19, hF⟩ := gb_bdE hF
      refine gb_cV (As := [.int v4, .ref a15, .ref a17]) (S := []) (v := none) (h1 := h20) (S2 := []) cf1 dX10_wrong_67 mtX1_shareOfClicks lX10_190 inX1_shareOfClicks seX1_shareOfClicks (gb_kE g18) (fnX1_shareOfClicks_ok _ _ cx19) (by decide) rfl (Nat.le_of_ble_eq_true rfl) (Nat.le_of_ble_eq_true rfl) rfl rfl ?_
      refine gb_iload_n dX10_wrong_70 rfl rfl ?_
      refine gb_aload_n dX10_wrong_71 rfl rfl ?_
      obtain ⟨g21, hF⟩ := gb_gdE hF
      obtain ⟨a22, ea22, hF⟩ := gb_rdE hF
      refine gb_getR fX10_81 dX10_wrong_72 (gb_kE g21) ea22 ?_
      obtain ⟨g23, hF⟩ := gb_gdE hF
      obtain ⟨x24, h25, cx24, hF⟩ := gb_bdE hF
      refine gb_cV (As := []) (S := [.int v3]) (v := some (.int x24)) (h1 := h25) (S2 := [.int x24, .int v3]) cf8 dX10_wrong_75 mtX8_isZero lX10_211 inX8_isZero seX8_isZero (gb_kE g23) (fnX8_isZero_ok _ _ cx24) (by decide) rfl (Nat.le_of_ble_eq_true rfl) (Nat.le_of_ble_eq_true rfl) rfl rfl ?_
      refine gb_if_eq (tgt := 94) dX10_wrong_78 (by decide) (fun c26 => ?_) (fun c26 => ?_)
      · replace hF := gb_ifT c26 hF
        refine gb_iconst (v := (0 : Int32)) dX10_wrong_94 (by decide) ?_
        exact gb_wk (fbX10_wrong_95_ok hk31 v0 v1 v4 v3 (0 : Int32) h25 r hF) (And.intro rfl (And.intro rfl (And.intro rfl trivial)))
      · replace hF := gb_ifF c26 hF
        refine gb_aload_n dX10_wrong_81 rfl rfl ?_
        obtain ⟨g27, hF⟩ := gb_gdE hF
        obtain ⟨a28, ea28, hF⟩ := gb_rdE hF
        refine gb_getR fX10_48 dX10_wrong_82 (gb_kE g27) ea28 ?_
        obtain ⟨g29, hF⟩ := gb_gdE hF
        obtain ⟨a30, ea30, hF⟩ := gb_rdE hF
        refine gb_getR fX10_208 dX10_wrong_85 (gb_kE g29) ea30 ?_
        refine gb_iload dX10_wrong_88 rfl ?_
        obtain ⟨g31, hF⟩ := gb_gdE hF
        obtain ⟨g32, hF⟩ := gb_gdE hF
        refine gb_iald dX10_wrong_90 (gb_kE g31) (gb_inE g32) ?_
        refine gb_goto (tgt := 95) dX10_wrong_91 (by decide) ?_
        exact gb_wk (fbX10_wrong_95_ok hk31 v0 v1 v4 v3 (gb_I h25 a30 v4.toNatClampNeg) h25 r hF) (And.intro rfl (And.intro rfl (And.intro rfl trivial)))
def lpX10_wrong_31 (n : Nat) (v0 : Nat) (v1 : Int32) (v3 : Int32) (v4 : Int32) (h : gb_H) : Option (Int32 × gb_H) := gb_lp (σ := Nat × Int32 × Int32 × Int32 × gb_H) (fun k s => fbX10_wrong_31 (fun v0 v1 v3 v4 h => k (v0, v1, v3, v4, h)) s.1 s.2.1 s.2.2.1 s.2.2.2.1 s.2.2.2.2) n (v0, v1, v3, v4, h)
theorem lpX10_wrong_31_ok {X : gb_X}  (n : Nat) (v0 : Nat) (v1 : Int32) (v3 : Int32) (v4 : Int32) (h : gb_H) (r : Int32 × gb_H) (hF : lpX10_wrong_31 n v0 v1 v3 v4 h = some r) : gb_Ev X 7 mX10_wrong 31 [some (.ref v0), some (.int v1), none, some (.int v3), some (.int v4)] [] h (gb_wI r) := by
  exact gb_lpE (σ := Nat × Int32 × Int32 × Int32 × gb_H) (P := fun s r => gb_Ev X 7 mX10_wrong 31 [some (.ref s.1), some (.int s.2.1), none, some (.int s.2.2.1), some (.int s.2.2.2.1)] [] s.2.2.2.2 (gb_wI r)) (fun k hk s r hs => fbX10_wrong_31_ok (fun v0 v1 v3 v4 h r e => hk (v0, v1, v3, v4, h) r e) _ _ _ _ _ r hs) n (v0, v1, v3, v4, h) r hF
def fnX10_wrong (p0 : Nat) (p1 : Int32) (p2 : Int32) (h : gb_H) : Option (Int32 × gb_H) :=
  gb_bd (fnX10_isDay p2 h) fun x1 h2 =>
  if x1 = 0 then
    fbX10_wrong_15 h2
  else
    gb_gd (gb_k h2 p0 10) <|
    gb_bd (fnX10_isTold p0 p1 h2) fun x5 h6 =>
    if x5 = 0 then
      fbX10_wrong_15 h6
    else
      gb_gd (gb_k h6 p0 10) <|
      gb_rd (gb_R h6 p0 5) fun a9 =>
      gb_gd (gb_k h6 a9 3) <|
      gb_bd (fnX3_tally a9 p1 p2 h6) fun _ h12 =>
      lpX10_wrong_31 gb_FU p0 p1 (0 : Int32) (0 : Int32) h12
theorem fnX10_wrong_ok {X : gb_X}  {p0 : Nat} {p1 : Int32} {p2 : Int32} (h : gb_H) (r : Int32 × gb_H) (hF : fnX10_wrong p0 p1 p2 h = some r) : gb_Ev X 7 mX10_wrong 0 (gb_L0 [.ref p0, .int p1, .int p2]) [] h (gb_wI r) := by
  unfold fnX10_wrong at hF
  refine gb_weak (L' := [some (.ref p0), some (.int p1), some (.int p2), none, none]) (And.intro rfl (And.intro rfl (And.intro rfl trivial))) ?_
  refine gb_iload_n dX10_wrong_0 rfl rfl ?_
  obtain ⟨x1, h2, cx1, hF⟩ := gb_bdE hF
  refine gb_cS (As := [.int p2]) (S := []) (v := some (.int x1)) (h1 := h2) (S2 := [.int x1]) dX10_wrong_1 mtX10_isDay lX10_194 stX10_isDay (fnX10_isDay_ok _ _ cx1) (by decide) rfl (Nat.le_of_ble_eq_true rfl) (Nat.le_of_ble_eq_true rfl) rfl rfl ?_
  refine gb_if_eq (tgt := 15) dX10_wrong_4 (by decide) (fun c3 => ?_) (fun c3 => ?_)
  · replace hF := gb_ifT c3 hF
    exact gb_wk (fbX10_wrong_15_ok h2 r hF) trivial
  · replace hF := gb_ifF c3 hF
    refine gb_aload_n dX10_wrong_7 rfl rfl ?_
    refine gb_iload_n dX10_wrong_8 rfl rfl ?_
    obtain ⟨g4, hF⟩ := gb_gdE hF
    obtain ⟨x5, h6, cx5, hF⟩ := gb_bdE hF
    refine gb_cV (As := [.int p1]) (S := []) (v := some (.int x5)) (h1 := h6) (S2 := [.int x5]) cf10 dX10_wrong_9 mtX10_isTold lX10_173 inX10_isTold seX10_isTold (gb_kE g4) (fnX10_isTold_ok _ _ cx5) (by decide) rfl (Nat.le_of_ble_eq_true rfl) (Nat.le_of_ble_eq_true rfl) rfl rfl ?_
    refine gb_if_ne (tgt := 17) dX10_wrong_12 (by decide) (fun c7 => ?_) (fun c7 => ?_)
    · replace hF := gb_ifF c7 hF
      refine gb_aload_n dX10_wrong_17 rfl rfl ?_
      obtain ⟨g8, hF⟩ := gb_gdE hF
      obtain ⟨a9, ea9, hF⟩ := gb_rdE hF
      refine gb_getR fX10_48 dX10_wrong_18 (gb_kE g8) ea9 ?_
      refine gb_iload_n dX10_wrong_21 rfl rfl ?_
      refine gb_iload_n dX10_wrong_22 rfl rfl ?_
      obtain ⟨g10, hF⟩ := gb_gdE hF
      obtain ⟨x11, h12, cx11, hF⟩ := gb_bdE hF
      refine gb_cV (As := [.int p1, .int p2]) (S := []) (v := none) (h1 := h12) (S2 := []) cf3 dX10_wrong_23 mtX3_tally lX10_201 inX3_tally seX3_tally (gb_kE g10) (fnX3_tally_ok _ _ cx11) (by decide) rfl (Nat.le_of_ble_eq_true rfl) (Nat.le_of_ble_eq_true rfl) rfl rfl ?_
      refine gb_iconst (v := (0 : Int32)) dX10_wrong_26 (by decide) ?_
      refine gb_istore_n (L' := [some (.ref p0), some (.int p1), some (.int p2), some (.int (0 : Int32)), none]) dX10_wrong_27 rfl (by decide) rfl rfl ?_
      refine gb_iconst (v := (0 : Int32)) dX10_wrong_28 (by decide) ?_
      refine gb_istore (L' := [some (.ref p0), some (.int p1), some (.int p2), some (.int (0 : Int32)), some (.int (0 : Int32))]) dX10_wrong_29 (by decide) rfl rfl ?_
      exact gb_wk (lpX10_wrong_31_ok gb_FU p0 p1 (0 : Int32) (0 : Int32) h12 r hF) (And.intro rfl (And.intro rfl (And.intro rfl (And.intro rfl trivial))))
    · replace hF := gb_ifT c7 hF
      exact gb_wk (fbX10_wrong_15_ok h6 r hF) trivial
