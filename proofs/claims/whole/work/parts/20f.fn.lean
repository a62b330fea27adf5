def fnX11_init (p0 : Nat) (h : gb_H) : Option (Unit × gb_H) :=
  gb_lt (gb_cn h) fun a1 =>
  gb_gd (gb_nn (3 : Int32) 4) <|
  gb_lt (gb_nw h 20 (3 : Int32).toNatClampNeg (3 : Int32).toNatClampNeg) fun h3 =>
  gb_gd (gb_k h3 p0 11) <|
  gb_lt (gb_sR h3 p0 2 (some a1)) fun h5 =>
  gb_lt (gb_cn h5) fun a6 =>
  gb_gd (gb_nn (512 : Int32) 4) <|
  gb_lt (gb_nw h5 20 (512 : Int32).toNatClampNeg (512 : Int32).toNatClampNeg) fun h8 =>
  gb_gd (gb_k h8 p0 11) <|
  gb_lt (gb_sR h8 p0 3 (some a6)) fun h10 =>
  gb_lt (gb_cn h10) fun a11 =>
  gb_gd (gb_nn (4 : Int32) 4) <|
  gb_lt (gb_nw h10 20 (4 : Int32).toNatClampNeg (4 : Int32).toNatClampNeg) fun h13 =>
  gb_gd (gb_k h13 p0 11) <|
  gb_lt (gb_sR h13 p0 4 (some a11)) fun h15 =>
  gb_lt (gb_cn h15) fun a16 =>
  gb_gd (gb_nn (64 : Int32) 4) <|
  gb_lt (gb_nw h15 20 (64 : Int32).toNatClampNeg (64 : Int32).toNatClampNeg) fun h18 =>
  gb_gd (gb_k h18 p0 11) <|
  gb_lt (gb_sR h18 p0 5 (some a16)) fun h20 =>
  gb_lt (gb_cn h20) fun a21 =>
  gb_gd (gb_nn (128 : Int32) 4) <|
  gb_lt (gb_nw h20 20 (128 : Int32).toNatClampNeg (128 : Int32).toNatClampNeg) fun h23 =>
  gb_gd (gb_k h23 p0 11) <|
  gb_lt (gb_sR h23 p0 7 (some a21)) fun h25 =>
  gb_lt (gb_cn h25) fun a26 =>
  gb_gd (gb_nn (5 : Int32) 1) <|
  gb_lt (gb_nw h25 21 (5 : Int32).toNatClampNeg (5 : Int32).toNatClampNeg) fun h28 =>
  gb_gd (gb_k h28 p0 11) <|
  gb_lt (gb_sR h28 p0 8 (some a26)) fun h30 =>
  gb_lt (gb_cn h30) fun a31 =>
  gb_gd (gb_nn (400 : Int32) 1) <|
  gb_lt (gb_nw h30 22 (400 : Int32).toNatClampNeg (400 : Int32).toNatClampNeg) fun h33 =>
  gb_gd (gb_k h33 p0 11) <|
  gb_lt (gb_sR h33 p0 11 (some a31)) fun h35 =>
  gb_lt (gb_cn h35) fun a36 =>
  gb_gd (gb_nn (400 : Int32) 1) <|
  gb_lt (gb_nw h35 22 (400 : Int32).toNatClampNeg (400 : Int32).toNatClampNeg) fun h38 =>
  gb_gd (gb_k h38 p0 11) <|
  gb_lt (gb_sR h38 p0 12 (some a36)) fun h40 =>
  gb_lt (gb_cn h40) fun a41 =>
  gb_gd (gb_nn (5 : Int32) 4) <|
  gb_lt (gb_nw h40 20 (5 : Int32).toNatClampNeg (5 : Int32).toNatClampNeg) fun h43 =>
  gb_gd (gb_k h43 p0 11) <|
  gb_lt (gb_sR h43 p0 13 (some a41)) fun h45 =>
  gb_gd (gb_k h45 p0 11) <|
  gb_lt (gb_sI h45 p0 18 (-1 : Int32)) fun h47 =>
  gb_lt (gb_cn h47) fun a48 =>
  gb_gd (gb_nn (16384 : Int32) 8) <|
  gb_lt (gb_nw h47 23 (16384 : Int32).toNatClampNeg (16384 : Int32).toNatClampNeg) fun h50 =>
  gb_gd (gb_k h50 p0 11) <|
  gb_lt (gb_sR h50 p0 20 (some a48)) fun h52 =>
  gb_lt (gb_cn h52) fun a53 =>
  gb_gd (gb_nn (16384 : Int32) 8) <|
  gb_lt (gb_nw h52 23 (16384 : Int32).toNatClampNeg (16384 : Int32).toNatClampNeg) fun h55 =>
  gb_gd (gb_k h55 p0 11) <|
  gb_lt (gb_sR h55 p0 21 (some a53)) fun h57 =>
  gb_lt (gb_cn h57) fun a58 =>
  gb_gd (gb_nn (16384 : Int32) 8) <|
  gb_lt (gb_nw h57 23 (16384 : Int32).toNatClampNeg (16384 : Int32).toNatClampNeg) fun h60 =>
  gb_gd (gb_k h60 p0 11) <|
  gb_lt (gb_sR h60 p0 22 (some a58)) fun h62 =>
  gb_lt (gb_cn h62) fun a63 =>
  gb_gd (gb_nn (4 : Int32) 8) <|
  gb_lt (gb_nw h62 23 (4 : Int32).toNatClampNeg (4 : Int32).toNatClampNeg) fun h65 =>
  gb_gd (gb_k h65 p0 11) <|
  gb_lt (gb_sR h65 p0 26 (some a63)) fun h67 =>
  gb_lt (gb_cn h67) fun a68 =>
  gb_gd (gb_nn (4 : Int32) 8) <|
  gb_lt (gb_nw h67 23 (4 : Int32).toNatClampNeg (4 : Int32).toNatClampNeg) fun h70 =>
  gb_gd (gb_k h70 p0 11) <|
  gb_lt (gb_sR h70 p0 27 (some a68)) fun h72 =>
  gb_lt (gb_cn h72) fun a73 =>
  gb_gd (gb_nn (1024 : Int32) 8) <|
  gb_lt (gb_nw h72 23 (1024 : Int32).toNatClampNeg (1024 : Int32).toNatClampNeg) fun h75 =>
  gb_gd (gb_k h75 p0 11) <|
  gb_lt (gb_sR h75 p0 28 (some a73)) fun h77 =>
  gb_lt (gb_cn h77) fun a78 =>
  gb_gd (gb_nn (1024 : Int32) 8) <|
  gb_lt (gb_nw h77 23 (1024 : Int32).toNatClampNeg (1024 : Int32).toNatClampNeg) fun h80 =>
  gb_gd (gb_k h80 p0 11) <|
  gb_lt (gb_sR h80 p0 29 (some a78)) fun h82 =>
  gb_lt (gb_cn h82) fun a83 =>
  gb_gd (gb_nn (4 : Int32) 8) <|
  gb_lt (gb_nw h82 23 (4 : Int32).toNatClampNeg (4 : Int32).toNatClampNeg) fun h85 =>
  gb_gd (gb_k h85 p0 11) <|
  gb_lt (gb_sR h85 p0 31 (some a83)) fun h87 =>
  gb_lt (gb_cn h87) fun a88 =>
  gb_gd (gb_nn (6 : Int32) 4) <|
  gb_lt (gb_nw h87 20 (6 : Int32).toNatClampNeg (6 : Int32).toNatClampNeg) fun h90 =>
  gb_gd (gb_k h90 p0 11) <|
  gb_lt (gb_sR h90 p0 32 (some a88)) fun h92 =>
  gb_lt (gb_cn h92) fun a93 =>
  gb_gd (gb_nn (5 : Int32) 4) <|
  gb_lt (gb_nw h92 20 (5 : Int32).toNatClampNeg (5 : Int32).toNatClampNeg) fun h95 =>
  gb_gd (gb_k h95 p0 11) <|
  gb_lt (gb_sR h95 p0 33 (some a93)) fun h97 =>
  gb_lt (gb_cn h97) fun a98 =>
  gb_gd (gb_nn (200 : Int32) 4) <|
  gb_lt (gb_nw h97 20 (200 : Int32).toNatClampNeg (200 : Int32).toNatClampNeg) fun h100 =>
  gb_gd (gb_k h100 p0 11) <|
  gb_lt (gb_sR h100 p0 38 (some a98)) fun h102 =>
  gb_lt (gb_cn h102) fun a103 =>
  gb_gd (gb_nn (200 : Int32) 4) <|
  gb_lt (gb_nw h102 20 (200 : Int32).toNatClampNeg (200 : Int32).toNatClampNeg) fun h105 =>
  gb_gd (gb_k h105 p0 11) <|
  gb_lt (gb_sR h105 p0 39 (some a103)) fun h107 =>
  gb_lt (gb_cn h107) fun a108 =>
  gb_gd (gb_nn (200 : Int32) 4) <|
  gb_lt (gb_nw h107 20 (200 : Int32).toNatClampNeg (200 : Int32).toNatClampNeg) fun h110 =>
  gb_gd (gb_k h110 p0 11) <|
  gb_lt (gb_sR h110 p0 40 (some a108)) fun h112 =>
  gb_lt (gb_cn h112) fun a113 =>
  gb_gd (gb_nn (24 : Int32) 4) <|
  gb_lt (gb_nw h112 20 (24 : Int32).toNatClampNeg (24 : Int32).toNatClampNeg) fun h115 =>
  gb_gd (gb_k h115 p0 11) <|
  gb_lt (gb_sR h115 p0 41 (some a113)) fun h117 =>
  gb_lt (gb_cn h117) fun a118 =>
  gb_gd (gb_nn (3 : Int32) 4) <|
  gb_lt (gb_nw h117 20 (3 : Int32).toNatClampNeg (3 : Int32).toNatClampNeg) fun h120 =>
  gb_gd (gb_k h120 p0 11) <|
  gb_lt (gb_sR h120 p0 42 (some a118)) fun h122 =>
  gb_lt (gb_cn h122) fun a123 =>
  gb_gd (gb_nn (3 : Int32) 4) <|
  gb_lt (gb_nw h122 20 (3 : Int32).toNatClampNeg (3 : Int32).toNatClampNeg) fun h125 =>
  gb_gd (gb_k h125 p0 11) <|
  gb_lt (gb_sR h125 p0 43 (some a123)) fun h127 =>
  gb_lt (gb_cn h127) fun a128 =>
  gb_gd (gb_nn (24 : Int32) 4) <|
  gb_lt (gb_nw h127 20 (24 : Int32).toNatClampNeg (24 : Int32).toNatClampNeg) fun h130 =>
  gb_gd (gb_k h130 p0 11) <|
  gb_lt (gb_sR h130 p0 44 (some a128)) fun h132 =>
  gb_lt (gb_cn h132) fun a133 =>
  gb_gd (gb_nn (3 : Int32) 4) <|
  gb_lt (gb_nw h132 20 (3 : Int32).toNatClampNeg (3 : Int32).toNatClampNeg) fun h135 =>
  gb_gd (gb_k h135 p0 11) <|
  gb_lt (gb_sR h135 p0 45 (some a133)) fun h137 =>
  gb_gd (gb_k h137 p0 11) <|
  gb_lt (gb_sI h137 p0 46 (-1 : Int32)) fun h139 =>
  some ((), h139)
theorem fnX11_init_ok {X : gb_X}  {p0 : Nat} (h : gb_H) (r : Unit × gb_H) (hF : fnX11_init p0 h = some r) : gb_Ev X 2 mX11_init 0 (gb_L0 [.ref p0]) [] h (gb_wV r) := by
  unfold fnX11_init at hF
  refine gb_weak (L' := [some (.ref p0)]) (And.intro rfl trivial) ?_
  refine gb_aload_n dX11_init_0 rfl rfl ?_
  refine gb_objInit dX11_init_1 lX11_1 gb_oin gb_ocd (by decide) (Nat.le_of_ble_eq_true rfl) ?_
  refine gb_aload_n dX11_init_4 rfl rfl ?_
  refine gb_iconst (v := (3 : Int32)) dX11_init_5 (by decide) ?_
  obtain ⟨a1, ea1, hF⟩ := gb_ltE hF
  obtain ⟨g2, hF⟩ := gb_gdE hF
  obtain ⟨h3, eh3, hF⟩ := gb_ltE hF
  refine gb_newa (t := 20) (by decide) rfl ac20 (gb_nnE g2).1 (gb_nnE g2).2 dX11_init_6 (gb_hp eh3 (gb_topA ea1 ?_))
  obtain ⟨g4, hF⟩ := gb_gdE hF
  obtain ⟨h5, eh5, hF⟩ := gb_ltE hF
  refine gb_putR fX11_7 ffX11_7 dX11_init_8 (gb_kE g4) (fun _ => ⟨rfl, rfl⟩) (gb_hp eh5 ?_)
  refine gb_aload_n dX11_init_11 rfl rfl ?_
  refine gb_sipush (v := (512 : Int32)) dX11_init_12 (by decide) ?_
  obtain ⟨a6, ea6, hF⟩ := gb_ltE hF
  obtain ⟨g7, hF⟩ := gb_gdE hF
  obtain ⟨h8, eh8, hF⟩ := gb_ltE hF
  refine gb_newa (t := 20) (by decide) rfl ac20 (gb_nnE g7).1 (gb_nnE g7).2 dX11_init_15 (gb_hp eh8 (gb_topA ea6 ?_))
  obtain ⟨g9, hF⟩ := gb_gdE hF
  obtain ⟨h10, eh10, hF⟩ := gb_ltE hF
  refine gb_putR fX11_13 ffX11_13 dX11_init_17 (gb_kE g9) (fun _ => ⟨rfl, rfl⟩) (gb_hp eh10 ?_)
  refine gb_aload_n dX11_init_20 rfl rfl ?_
  refine gb_iconst (v := (4 : Int32)) dX11_init_21 (by decide) ?_
  obtain ⟨a11, ea11, hF⟩ := gb_ltE hF
  obtain ⟨g12, hF⟩ := gb_gdE hF
  obtain ⟨h13, eh13, hF⟩ := gb_ltE hF
  refine gb_newa (t := 20) (by decide) rfl ac20 (gb_nnE g12).1 (gb_nnE g12).2 dX11_init_22 (gb_hp eh13 (gb_topA ea11 ?_))
  obtain ⟨g14, hF⟩ := gb_gdE hF
  obtain ⟨h15, eh15, hF⟩ := gb_ltE hF
  refine gb_putR fX11_16 ffX11_16 dX11_init_24 (gb_kE g14) (fun _ => ⟨rfl, rfl⟩) (gb_hp eh15 ?_)
  refine gb_aload_n dX11_init_27 rfl rfl ?_
  refine gb_bipush (v := (64 : Int32)) dX11_init_28 (by decide) ?_
  obtain ⟨a16, ea16, hF⟩ := gb_ltE hF
  obtain ⟨g17, hF⟩ := gb_gdE hF
  obtain ⟨h18, eh18, hF⟩ := gb_ltE hF
  refine gb_newa (t := 20) (by decide) rfl ac20 (gb_nnE g17).1 (gb_nnE g17).2 dX11_init_30 (gb_hp eh18 (gb_topA ea16 ?_))
  obtain ⟨g19, hF⟩ := gb_gdE hF
  obtain ⟨h20, eh20, hF⟩ := gb_ltE hF
  refine gb_putR fX11_19 ffX11_19 dX11_init_32 (gb_kE g19) (fun _ => ⟨rfl, rfl⟩) (gb_hp eh20 ?_)
  refine gb_aload_n dX11_init_35 rfl rfl ?_
  refine gb_sipush (v := (128 : Int32)) dX11_init_36 (by decide) ?_
  obtain ⟨a21, ea21, hF⟩ := gb_ltE hF
  obtain ⟨g22, hF⟩ := gb_gdE hF
  obtain ⟨h23, eh23, hF⟩ := gb_ltE hF
  refine gb_newa (t := 20) (by decide) rfl ac20 (gb_nnE g22).1 (gb_nnE g22).2 dX11_init_39 (gb_hp eh23 (gb_topA ea21 ?_))
  obtain ⟨g24, hF⟩ := gb_gdE hF
  obtain ⟨h25, eh25, hF⟩ := gb_ltE hF
  refine gb_putR fX11_22 ffX11_22 dX11_init_41 (gb_kE g24) (fun _ => ⟨rfl, rfl⟩) (gb_hp eh25 ?_)
  refine gb_aload_n dX11_init_44 rfl rfl ?_
  refine gb_iconst (v := (5 : Int32)) dX11_init_45 (by decide) ?_
  obtain ⟨a26, ea26, hF⟩ := gb_ltE hF
  obtain ⟨g27, hF⟩ := gb_gdE hF
  obtain ⟨h28, eh28, hF⟩ := gb_ltE hF
  refine gb_newa (t := 21) (by decide) rfl ac21 (gb_nnE g27).1 (gb_nnE g27).2 dX11_init_46 (gb_hp eh28 (gb_topA ea26 ?_))
  obtain ⟨g29, hF⟩ := gb_gdE hF
  obtain ⟨h30, eh30, hF⟩ := gb_ltE hF
  refine gb_putR fX11_25 ffX11_25 dX11_init_48 (gb_kE g29) (fun _ => ⟨rfl, rfl⟩) (gb_hp eh30 ?_)
  refine gb_aload_n dX11_init_51 rfl rfl ?_
  refine gb_sipush (v := (400 : Int32)) dX11_init_52 (by decide) ?_
  obtain ⟨a31, ea31, hF⟩ := gb_ltE hF
  obtain ⟨g32, hF⟩ := gb_gdE hF
  obtain ⟨h33, eh33, hF⟩ := gb_ltE hF
  refine gb_newa (t := 22) (by decide) rfl ac22 (gb_nnE g32).1 (gb_nnE g32).2 dX11_init_55 (gb_hp eh33 (gb_topA ea31 ?_))
  obtain ⟨g34, hF⟩ := gb_gdE hF
  obtain ⟨h35, eh35, hF⟩ := gb_ltE hF
  refine gb_putR fX11_29 ffX11_29 dX11_init_57 (gb_kE g34) (fun _ => ⟨rfl, rfl⟩) (gb_hp eh35 ?_)
  refine gb_aload_n dX11_init_60 rfl rfl ?_
  refine gb_sipush (v := (400 : Int32)) dX11_init_61 (by decide) ?_
  obtain ⟨a36, ea36, hF⟩ := gb_ltE hF
  obtain ⟨g37, hF⟩ := gb_gdE hF
  obtain ⟨h38, eh38, hF⟩ := gb_ltE hF
  refine gb_newa (t := 22) (by decide) rfl ac22 (gb_nnE g37).1 (gb_nnE g37).2 dX11_init_64 (gb_hp eh38 (gb_topA ea36 ?_))
  obtain ⟨g39, hF⟩ := gb_gdE hF
  obtain ⟨h40, eh40, hF⟩ := gb_ltE hF
  refine gb_putR fX11_33 ffX11_33 dX11_init_66 (gb_kE g39) (fun _ => ⟨rfl, rfl⟩) (gb_hp eh40 ?_)
  refine gb_aload_n dX11_init_69 rfl rfl ?_
  refine gb_iconst (v := (5 : Int32)) dX11_init_70 (by decide) ?_
  obtain ⟨a41, ea41, hF⟩ := gb_ltE hF
  obtain ⟨g42, hF⟩ := gb_gdE hF
  obtain ⟨h43, eh43, hF⟩ := gb_ltE hF
  refine gb_newa (t := 20) (by decide) rfl ac20 (gb_nnE g42).1 (gb_nnE g42).2 dX11_init_71 (gb_hp eh43 (gb_topA ea41 ?_))
  obtain ⟨g44, hF⟩ := gb_gdE hF
  obtain ⟨h45, eh45, hF⟩ := gb_ltE hF
  refine gb_putR fX11_36 ffX11_36 dX11_init_73 (gb_kE g44) (fun _ => ⟨rfl, rfl⟩) (gb_hp eh45 ?_)
  refine gb_aload_n dX11_init_76 rfl rfl ?_
  refine gb_iconst (v := (-1 : Int32)) dX11_init_77 (by decide) ?_
  obtain ⟨g46, hF⟩ := gb_gdE hF
  obtain ⟨h47, eh47, hF⟩ := gb_ltE hF
  refine gb_putI fX11_39 (gb_nff nf11_18) dX11_init_78 (gb_kE g46) (fun _ => ⟨rfl, rfl⟩) (gb_hp eh47 ?_)
  refine gb_aload_n dX11_init_81 rfl rfl ?_
  refine gb_sipush (v := (16384 : Int32)) dX11_init_82 (by decide) ?_
  obtain ⟨a48, ea48, hF⟩ := gb_ltE hF
  obtain ⟨g49, hF⟩ := gb_gdE hF
  obtain ⟨h50, eh50, hF⟩ := gb_ltE hF
  refine gb_newa (t := 23) (by decide) rfl ac23 (gb_nnE g49).1 (gb_nnE g49).2 dX11_init_85 (gb_hp eh50 (gb_topA ea48 ?_))
  obtain ⟨g51, hF⟩ := gb_gdE hF
  obtain ⟨h52, eh52, hF⟩ := gb_ltE hF
  refine gb_putR fX11_43 ffX11_43 dX11_init_87 (gb_kE g51) (fun _ => ⟨rfl, rfl⟩) (gb_hp eh52 ?_)
  refine gb_aload_n dX11_init_90 rfl rfl ?_
  refine gb_sipush (v := (16384 : Int32)) dX11_init_91 (by decide) ?_
  obtain ⟨a53, ea53, hF⟩ := gb_ltE hF
  obtain ⟨g54, hF⟩ := gb_gdE hF
  obtain ⟨h55, eh55, hF⟩ := gb_ltE hF
  refine gb_newa (t := 23) (by decide) rfl ac23 (gb_nnE g54).1 (gb_nnE g54).2 dX11_init_94 (gb_hp eh55 (gb_topA ea53 ?_))
  obtain ⟨g56, hF⟩ := gb_gdE hF
  obtain ⟨h57, eh57, hF⟩ := gb_ltE hF
  refine gb_putR fX11_47 ffX11_47 dX11_init_96 (gb_kE g56) (fun _ => ⟨rfl, rfl⟩) (gb_hp eh57 ?_)
  refine gb_aload_n dX11_init_99 rfl rfl ?_
  refine gb_sipush (v := (16384 : Int32)) dX11_init_100 (by decide) ?_
  obtain ⟨a58, ea58, hF⟩ := gb_ltE hF
  obtain ⟨g59, hF⟩ := gb_gdE hF
  obtain ⟨h60, eh60, hF⟩ := gb_ltE hF
  refine gb_newa (t := 23) (by decide) rfl ac23 (gb_nnE g59).1 (gb_nnE g59).2 dX11_init_103 (gb_hp eh60 (gb_topA ea58 ?_))
  obtain ⟨g61, hF⟩ := gb_gdE hF
  obtain ⟨h62, eh62, hF⟩ := gb_ltE hF
  refine gb_putR fX11_50 ffX11_50 dX11_init_105 (gb_kE g61) (fun _ => ⟨rfl, rfl⟩) (gb_hp eh62 ?_)
  refine gb_aload_n dX11_init_108 rfl rfl ?_
  refine gb_iconst (v := (4 : Int32)) dX11_init_109 (by decide) ?_
  obtain ⟨a63, ea63, hF⟩ := gb_ltE hF
  obtain ⟨g64, hF⟩ := gb_gdE hF
  obtain ⟨h65, eh65, hF⟩ := gb_ltE hF
  refine gb_newa (t := 23) (by decide) rfl ac23 (gb_nnE g64).1 (gb_nnE g64).2 dX11_init_110 (gb_hp eh65 (gb_topA ea63 ?_))
  obtain ⟨g66, hF⟩ := gb_gdE hF
  obtain ⟨h67, eh67, hF⟩ := gb_ltE hF
  refine gb_putR fX11_53 ffX11_53 dX11_init_112 (gb_kE g66) (fun _ => ⟨rfl, rfl⟩) (gb_hp eh67 ?_)
  refine gb_aload_n dX11_init_115 rfl rfl ?_
  refine gb_iconst (v := (4 : Int32)) dX11_init_116 (by decide) ?_
  obtain ⟨a68, ea68, hF⟩ := gb_ltE hF
  obtain ⟨g69, hF⟩ := gb_gdE hF
  obtain ⟨h70, eh70, hF⟩ := gb_ltE hF
  refine gb_newa (t := 23) (by decide) rfl ac23 (gb_nnE g69).1 (gb_nnE g69).2 dX11_init_117 (gb_hp eh70 (gb_topA ea68 ?_))
  obtain ⟨g71, hF⟩ := gb_gdE hF
  obtain ⟨h72, eh72, hF⟩ := gb_ltE hF
  refine gb_putR fX11_56 ffX11_56 dX11_init_119 (gb_kE g71) (fun _ => ⟨rfl, rfl⟩) (gb_hp eh72 ?_)
  refine gb_aload_n dX11_init_122 rfl rfl ?_
  refine gb_sipush (v := (1024 : Int32)) dX11_init_123 (by decide) ?_
  obtain ⟨a73, ea73, hF⟩ := gb_ltE hF
  obtain ⟨g74, hF⟩ := gb_gdE hF
  obtain ⟨h75, eh75, hF⟩ := gb_ltE hF
  refine gb_newa (t := 23) (by decide) rfl ac23 (gb_nnE g74).1 (gb_nnE g74).2 dX11_init_126 (gb_hp eh75 (gb_topA ea73 ?_))
  obtain ⟨g76, hF⟩ := gb_gdE hF
  obtain ⟨h77, eh77, hF⟩ := gb_ltE hF
  refine gb_putR fX11_59 ffX11_59 dX11_init_128 (gb_kE g76) (fun _ => ⟨rfl, rfl⟩) (gb_hp eh77 ?_)
  refine gb_aload_n dX11_init_131 rfl rfl ?_
  refine gb_sipush (v := (1024 : Int32)) dX11_init_132 (by decide) ?_
  obtain ⟨a78, ea78, hF⟩ := gb_ltE hF
  obtain ⟨g79, hF⟩ := gb_gdE hF
  obtain ⟨h80, eh80, hF⟩ := gb_ltE hF
  refine gb_newa (t := 23) (by decide) rfl ac23 (gb_nnE g79).1 (gb_nnE g79).2 dX11_init_135 (gb_hp eh80 (gb_topA ea78 ?_))
  obtain ⟨g81, hF⟩ := gb_gdE hF
  obtain ⟨h82, eh82, hF⟩ := gb_ltE hF
  refine gb_putR fX11_62 ffX11_62 dX11_init_137 (gb_kE g81) (fun _ => ⟨rfl, rfl⟩) (gb_hp eh82 ?_)
  refine gb_aload_n dX11_init_140 rfl rfl ?_
  refine gb_iconst (v := (4 : Int32)) dX11_init_141 (by decide) ?_
  obtain ⟨a83, ea83, hF⟩ := gb_ltE hF
  obtain ⟨g84, hF⟩ := gb_gdE hF
  obtain ⟨h85, eh85, hF⟩ := gb_ltE hF
  refine gb_newa (t := 23) (by decide) rfl ac23 (gb_nnE g84).1 (gb_nnE g84).2 dX11_init_142 (gb_hp eh85 (gb_topA ea83 ?_))
  obtain ⟨g86, hF⟩ := gb_gdE hF
  obtain ⟨h87, eh87, hF⟩ := gb_ltE hF
  refine gb_putR fX11_65 ffX11_65 dX11_init_144 (gb_kE g86) (fun _ => ⟨rfl, rfl⟩) (gb_hp eh87 ?_)
  refine gb_aload_n dX11_init_147 rfl rfl ?_
  refine gb_bipush (v := (6 : Int32)) dX11_init_148 (by decide) ?_
  obtain ⟨a88, ea88, hF⟩ := gb_ltE hF
  obtain ⟨g89, hF⟩ := gb_gdE hF
  obtain ⟨h90, eh90, hF⟩ := gb_ltE hF
  refine gb_newa (t := 20) (by decide) rfl ac20 (gb_nnE g89).1 (gb_nnE g89).2 dX11_init_150 (gb_hp eh90 (gb_topA ea88 ?_))
  obtain ⟨g91, hF⟩ := gb_gdE hF
  obtain ⟨h92, eh92, hF⟩ := gb_ltE hF
  refine gb_putR fX11_68 ffX11_68 dX11_init_152 (gb_kE g91) (fun _ => ⟨rfl, rfl⟩) (gb_hp eh92 ?_)
  refine gb_aload_n dX11_init_155 rfl rfl ?_
  refine gb_iconst (v := (5 : Int32)) dX11_init_156 (by decide) ?_
  obtain ⟨a93, ea93, hF⟩ := gb_ltE hF
  obtain ⟨g94, hF⟩ := gb_gdE hF
  obtain ⟨h95, eh95, hF⟩ := gb_ltE hF
  refine gb_newa (t := 20) (by decide) rfl ac20 (gb_nnE g94).1 (gb_nnE g94).2 dX11_init_157 (gb_hp eh95 (gb_topA ea93 ?_))
  obtain ⟨g96, hF⟩ := gb_gdE hF
  obtain ⟨h97, eh97, hF⟩ := gb_ltE hF
  refine gb_putR fX11_71 ffX11_71 dX11_init_159 (gb_kE g96) (fun _ => ⟨rfl, rfl⟩) (gb_hp eh97 ?_)
  refine gb_aload_n dX11_init_162 rfl rfl ?_
  refine gb_sipush (v := (200 : Int32)) dX11_init_163 (by decide) ?_
  obtain ⟨a98, ea98, hF⟩ := gb_ltE hF
  obtain ⟨g99, hF⟩ := gb_gdE hF
  obtain ⟨h100, eh100, hF⟩ := gb_ltE hF
  refine gb_newa (t := 20) (by decide) rfl ac20 (gb_nnE g99).1 (gb_nnE g99).2 dX11_init_166 (gb_hp eh100 (gb_topA ea98 ?_))
  obtain ⟨g101, hF⟩ := gb_gdE hF
  obtain ⟨h102, eh102, hF⟩ := gb_ltE hF
  refine gb_putR fX11_74 ffX11_74 dX11_init_168 (gb_kE g101) (fun _ => ⟨rfl, rfl⟩) (gb_hp eh102 ?_)
  refine gb_aload_n dX11_init_171 rfl rfl ?_
  refine gb_sipush (v := (200 : Int32)) dX11_init_172 (by decide) ?_
  obtain ⟨a103, ea103, hF⟩ := gb_ltE hF
  obtain ⟨g104, hF⟩ := gb_gdE hF
  obtain ⟨h105, eh105, hF⟩ := gb_ltE hF
  refine gb_newa (t := 20) (by decide) rfl ac20 (gb_nnE g104).1 (gb_nnE g104).2 dX11_init_175 (gb_hp eh105 (gb_topA ea103 ?_))
  obtain ⟨g106, hF⟩ := gb_gdE hF
  obtain ⟨h107, eh107, hF⟩ := gb_ltE hF
  refine gb_putR fX11_77 ffX11_77 dX11_init_177 (gb_kE g106) (fun _ => ⟨rfl, rfl⟩) (gb_hp eh107 ?_)
  refine gb_aload_n dX11_init_180 rfl rfl ?_
  refine gb_sipush (v := (200 : Int32)) dX11_init_181 (by decide) ?_
  obtain ⟨a108, ea108, hF⟩ := gb_ltE hF
  obtain ⟨g109, hF⟩ := gb_gdE hF
  obtain ⟨h110, eh110, hF⟩ := gb_ltE hF
  refine gb_newa (t := 20) (by decide) rfl ac20 (gb_nnE g109).1 (gb_nnE g109).2 dX11_init_184 (gb_hp eh110 (gb_topA ea108 ?_))
  obtain ⟨g111, hF⟩ := gb_gdE hF
  obtain ⟨h112, eh112, hF⟩ := gb_ltE hF
  refine gb_putR fX11_80 ffX11_80 dX11_init_186 (gb_kE g111) (fun _ => ⟨rfl, rfl⟩) (gb_hp eh112 ?_)
  refine gb_aload_n dX11_init_189 rfl rfl ?_
  refine gb_bipush (v := (24 : Int32)) dX11_init_190 (by decide) ?_
  obtain ⟨a113, ea113, hF⟩ := gb_ltE hF
  obtain ⟨g114, hF⟩ := gb_gdE hF
  obtain ⟨h115, eh115, hF⟩ := gb_ltE hF
  refine gb_newa (t := 20) (by decide) rfl ac20 (gb_nnE g114).1 (gb_nnE g114).2 dX11_init_192 (gb_hp eh115 (gb_topA ea113 ?_))
  obtain ⟨g116, hF⟩ := gb_gdE hF
  obtain ⟨h117, eh117, hF⟩ := gb_ltE hF
  refine gb_putR fX11_83 ffX11_83 dX11_init_194 (gb_kE g116) (fun _ => ⟨rfl, rfl⟩) (gb_hp eh117 ?_)
  refine gb_aload_n dX11_init_197 rfl rfl ?_
  refine gb_iconst (v := (3 : Int32)) dX11_init_198 (by decide) ?_
  obtain ⟨a118, ea118, hF⟩ := gb_ltE hF
  obtain ⟨g119, hF⟩ := gb_gdE hF
  obtain ⟨h120, eh120, hF⟩ := gb_ltE hF
  refine gb_newa (t := 20) (by decide) rfl ac20 (gb_nnE g119).1 (gb_nnE g119).2 dX11_init_199 (gb_hp eh120 (gb_topA ea118 ?_))
  obtain ⟨g121, hF⟩ := gb_gdE hF
  obtain ⟨h122, eh122, hF⟩ := gb_ltE hF
  refine gb_putR fX11_86 ffX11_86 dX11_init_201 (gb_kE g121) (fun _ => ⟨rfl, rfl⟩) (gb_hp eh122 ?_)
  refine gb_aload_n dX11_init_204 rfl rfl ?_
  refine gb_iconst (v := (3 : Int32)) dX11_init_205 (by decide) ?_
  obtain ⟨a123, ea123, hF⟩ := gb_ltE hF
  obtain ⟨g124, hF⟩ := gb_gdE hF
  obtain ⟨h125, eh125, hF⟩ := gb_ltE hF
  refine gb_newa (t := 20) (by decide) rfl ac20 (gb_nnE g124).1 (gb_nnE g124).2 dX11_init_206 (gb_hp eh125 (gb_topA ea123 ?_))
  obtain ⟨g126, hF⟩ := gb_gdE hF
  obtain ⟨h127, eh127, hF⟩ := gb_ltE hF
  refine gb_putR fX11_89 ffX11_89 dX11_init_208 (gb_kE g126) (fun _ => ⟨rfl, rfl⟩) (gb_hp eh127 ?_)
  refine gb_aload_n dX11_init_211 rfl rfl ?_
  refine gb_bipush (v := (24 : Int32)) dX11_init_212 (by decide) ?_
  obtain ⟨a128, ea128, hF⟩ := gb_ltE hF
  obtain ⟨g129, hF⟩ := gb_gdE hF
  obtain ⟨h130, eh130, hF⟩ := gb_ltE hF
  refine gb_newa (t := 20) (by decide) rfl ac20 (gb_nnE g129).1 (gb_nnE g129).2 dX11_init_214 (gb_hp eh130 (gb_topA ea128 ?_))
  obtain ⟨g131, hF⟩ := gb_gdE hF
  obtain ⟨h132, eh132, hF⟩ := gb_ltE hF
  refine gb_putR fX11_92 ffX11_92 dX11_init_216 (gb_kE g131) (fun _ => ⟨rfl, rfl⟩) (gb_hp eh132 ?_)
  refine gb_aload_n dX11_init_219 rfl rfl ?_
  refine gb_iconst (v := (3 : Int32)) dX11_init_220 (by decide) ?_
  obtain ⟨a133, ea133, hF⟩ := gb_ltE hF
  obtain ⟨g134, hF⟩ := gb_gdE hF
  obtain ⟨h135, eh135, hF⟩ := gb_ltE hF
  refine gb_newa (t := 20) (by decide) rfl ac20 (gb_nnE g134).1 (gb_nnE g134).2 dX11_init_221 (gb_hp eh135 (gb_topA ea133 ?_))
  obtain ⟨g136, hF⟩ := gb_gdE hF
  obtain ⟨h137, eh137, hF⟩ := gb_ltE hF
  refine gb_putR fX11_95 ffX11_95 dX11_init_223 (gb_kE g136) (fun _ => ⟨rfl, rfl⟩) (gb_hp eh137 ?_)
  refine gb_aload_n dX11_init_226 rfl rfl ?_
  refine gb_iconst (v := (-1 : Int32)) dX11_init_227 (by decide) ?_
  obtain ⟨g138, hF⟩ := gb_gdE hF
  obtain ⟨h139, eh139, hF⟩ := gb_ltE hF
  refine gb_putI fX11_98 (gb_nff nf11_46) dX11_init_228 (gb_kE g138) (fun _ => ⟨rfl, rfl⟩) (gb_hp eh139 ?_)
  cases hF
  exact gb_vret dX11_init_231 rfl
def fbX11_in_15 (s0 : Int32) (h : gb_H) : Option (Int32 × gb_H) :=
  gb_gd (gb_b s0) <|
  some (s0, h)
theorem fbX11_in_15_ok {X : gb_X} (s0 : Int32) (h : gb_H) (r : Int32 × gb_H) (hF : fbX11_in_15 s0 h = some r) : gb_Ev X 1 mX11_in 15 [none, none, none] [.int s0] h (gb_wI r) := by
  unfold fbX11_in_15 at hF
  obtain ⟨g1, hF⟩ := gb_gdE hF
  cases hF
  exact gb_zret dX11_in_15 rfl (gb_bE g1)
def fbX11_in_14 (h : gb_H) : Option (Int32 × gb_H) :=
  fbX11_in_15 (0 : Int32) h
theorem fbX11_in_14_ok {X : gb_X} (h : gb_H) (r : Int32 × gb_H) (hF : fbX11_in_14 h = some r) : gb_Ev X 1 mX11_in 14 [none, none, none] [] h (gb_wI r) := by
  unfold fbX11_in_14 at hF
  refine gb_iconst (v := (0 : Int32)) dX11_in_14 (by decide) ?_
  exact gb_wk (fbX11_in_15_ok (0 : Int32) h r hF) trivial
def fnX11_in (p0 : Int32) (p1 : Int32) (p2 : Int32) (h : gb_H) : Option (Int32 × gb_H) :=
  if p0 < p1 then
    fbX11_in_14 h
  else
    if p2 < p0 then
      fbX11_in_14 h
    else
      fbX11_in_15 (1 : Int32) h
theorem fnX11_in_ok {X : gb_X}  {p0 : Int32} {p1 : Int32} {p2 : Int32} (h : gb_H) (r : Int32 × gb_H) (hF : fnX11_in p0 p1 p2 h = some r) : gb_Ev X 1 mX11_in 0 (gb_L0 [.int p0, .int p1, .int p2]) [] h (gb_wI r) := by
  unfold fnX11_in at hF
  refine gb_weak (L' := [some (.int p0), some (.int p1), some (.int p2)]) (And.intro rfl (And.intro rfl (And.intro rfl trivial))) ?_
  refine gb_iload_n dX11_in_0 rfl rfl ?_
  refine gb_iload_n dX11_in_1 rfl rfl ?_
  refine gb_icmp_lt (tgt := 14) dX11_in_2 (by decide) (fun c1 => ?_) (fun c1 => ?_)
  · replace hF := gb_ifT c1 hF
    exact gb_wk (fbX11_in_14_ok h r hF) trivial
  · replace hF := gb_ifF c1 hF
    refine gb_iload_n dX11_in_5 rfl rfl ?_
    refine gb_iload_n dX11_in_6 rfl rfl ?_
    refine gb_icmp_gt (tgt := 14) dX11_in_7 (by decide) (fun c2 => ?_) (fun c2 => ?_)
    · replace hF := gb_ifT c2 hF
      exact gb_wk (fbX11_in_14_ok h r hF) trivial
    · replace hF := gb_ifF c2 hF
      refine gb_iconst (v := (1 : Int32)) dX11_in_10 (by decide) ?_
      refine gb_goto (tgt := 15) dX11_in_11 (by decide) ?_
      exact gb_wk (fbX11_in_15_ok (1 : Int32) h r hF) trivial
def fbX11_ends_10 (v1 : Int32) (s0 : Nat) (s1 : Int32) (h : gb_H) : Option (Int32 × gb_H) :=
  gb_gd (gb_k h s0 11) <|
  gb_lt (gb_sI h s0 0 s1) fun h2 =>
  some (v1, h2)
theorem fbX11_ends_10_ok {X : gb_X} (v1 : Int32) (s0 : Nat) (s1 : Int32) (h : gb_H) (r : Int32 × gb_H) (hF : fbX11_ends_10 v1 s0 s1 h = some r) : gb_Ev X 1 mX11_ends 10 [none, some (.int v1)] [.int s1, .ref s0] h (gb_wI r) := by
  unfold fbX11_ends_10 at hF
  obtain ⟨g1, hF⟩ := gb_gdE hF
  obtain ⟨h2, eh2, hF⟩ := gb_ltE hF
  refine gb_putI fX11_101 (gb_nff nf11_0) dX11_ends_10 (gb_kE g1) (fun _ => ⟨rfl, rfl⟩) (gb_hp eh2 ?_)
  refine gb_iload_n dX11_ends_13 rfl rfl ?_
  cases hF
  exact gb_iret dX11_ends_14 rfl
def fnX11_ends (p0 : Nat) (p1 : Int32) (h : gb_H) : Option (Int32 × gb_H) :=
  if 0 ≤ p1 then
    fbX11_ends_10 p1 p0 (0 : Int32) h
  else
    fbX11_ends_10 p1 p0 p1 h
theorem fnX11_ends_ok {X : gb_X}  {p0 : Nat} {p1 : Int32} (h : gb_H) (r : Int32 × gb_H) (hF : fnX11_ends p0 p1 h = some r) : gb_Ev X 1 mX11_ends 0 (gb_L0 [.ref p0, .int p1]) [] h (gb_wI r) := by
  unfold fnX11_ends at hF
  refine gb_weak (L' := [some (.ref p0), some (.int p1)]) (And.intro rfl (And.intro rfl trivial)) ?_
  refine gb_aload_n dX11_ends_0 rfl rfl ?_
  refine gb_iload_n dX11_ends_1 rfl rfl ?_
  refine gb_if_ge (tgt := 9) dX11_ends_2 (by decide) (fun c1 => ?_) (fun c1 => ?_)
  · replace hF := gb_ifT c1 hF
    refine gb_iconst (v := (0 : Int32)) dX11_ends_9 (by decide) ?_
    exact gb_wk (fbX11_ends_10_ok p1 p0 (0 : Int32) h r hF) (And.intro rfl trivial)
  · replace hF := gb_ifF c1 hF
    refine gb_iload_n dX11_ends_5 rfl rfl ?_
    refine gb_goto (tgt := 10) dX11_ends_6 (by decide) ?_
    exact gb_wk (fbX11_ends_10_ok p1 p0 p1 h r hF) (And.intro rfl trivial)
def fnX11_grain (p0 : Nat) (p1 : Int32) (h : gb_H) : Option (Int32 × gb_H) :=
  gb_bd (fnX11_in p1 (0 : Int32) (9 : Int32) h) fun x1 h2 =>
  if x1 = 0 then
    gb_gd (gb_k h2 p0 11) <|
    gb_bd (fnX11_ends p0 (-1 : Int32) h2) fun x5 h6 =>
    some (x5, h6)
  else
    gb_gd (gb_k h2 p0 11) <|
    if (gb_I h2 p0 1) = (3 : Int32) then
      gb_gd (gb_k h2 p0 11) <|
      gb_bd (fnX11_ends p0 (-5 : Int32) h2) fun x10 h11 =>
      some (x10, h11)
    else
      gb_gd (gb_k h2 p0 11) <|
      gb_rd (gb_R h2 p0 2) fun a13 =>
      gb_gd (gb_k h2 p0 11) <|
      gb_lt (gb_I h2 p0 1) fun x15 =>
      gb_gd (gb_k h2 a13 20) <|
      gb_gd (gb_in h2 a13 x15) <|
      gb_lt (gb_sI h2 a13 x15.toNatClampNeg p1) fun h18 =>
      gb_gd (gb_k h18 p0 11) <|
      gb_gd (gb_k h18 p0 11) <|
      gb_lt (gb_sI h18 p0 1 ((gb_I h18 p0 1) + (1 : Int32))) fun h21 =>
      gb_gd (gb_k h21 p0 11) <|
      gb_gd (gb_k h21 p0 11) <|
      gb_bd (fnX11_ends p0 (gb_I h21 p0 1) h21) fun x24 h25 =>
      some (x24, h25)
theorem fnX11_grain_ok {X : gb_X}  {p0 : Nat} {p1 : Int32} (h : gb_H) (r : Int32 × gb_H) (hF : fnX11_grain p0 p1 h = some r) : gb_Ev X 2 mX11_grain 0 (gb_L0 [.ref p0, .int p1]) [] h (gb_wI r) := by
  unfold fnX11_grain at hF
  refine gb_weak (L' := [some (.ref p0), some (.int p1)]) (And.intro rfl (And.intro rfl trivial)) ?_
  refine gb_iload_n dX11_grain_0 rfl rfl ?_
  refine gb_iconst (v := (0 : Int32)) dX11_grain_1 (by decide) ?_
  refine gb_bipush (v := (9 : Int32)) dX11_grain_2 (by decide) ?_
  obtain ⟨x1, h2, cx1, hF⟩ := gb_bdE hF
  refine gb_cS (As := [.int p1, .int (0 : Int32), .int (9 : Int32)]) (S := []) (v := some (.int x1)) (h1 := h2) (S2 := [.int x1]) dX11_grain_4 mtX11_in lX11_104 stX11_in (fnX11_in_ok _ _ cx1) (by decide) rfl (Nat.le_of_ble_eq_true rfl) (Nat.le_of_ble_eq_true rfl) rfl rfl ?_
  refine gb_if_ne (tgt := 16) dX11_grain_7 (by decide) (fun c3 => ?_) (fun c3 => ?_)
  · replace hF := gb_ifF c3 hF
    refine gb_aload_n dX11_grain_16 rfl rfl ?_
    obtain ⟨g7, hF⟩ := gb_gdE hF
    refine gb_getI fX11_112 dX11_grain_17 (gb_kE g7) ?_
    refine gb_iconst (v := (3 : Int32)) dX11_grain_20 (by decide) ?_
    refine gb_icmp_ne (tgt := 31) dX11_grain_21 (by decide) (fun c8 => ?_) (fun c8 => ?_)
    · replace hF := gb_ifF c8 hF
      refine gb_aload_n dX11_grain_31 rfl rfl ?_
      obtain ⟨g12, hF⟩ := gb_gdE hF
      obtain ⟨a13, ea13, hF⟩ := gb_rdE hF
      refine gb_getR fX11_7 dX11_grain_32 (gb_kE g12) ea13 ?_
      refine gb_aload_n dX11_grain_35 rfl rfl ?_
      obtain ⟨g14, hF⟩ := gb_gdE hF
      refine gb_getI fX11_112 dX11_grain_36 (gb_kE g14) ?_
      refine gb_iload_n dX11_grain_39 rfl rfl ?_
      obtain ⟨x15, ex15, hF⟩ := gb_ltE hF
      refine gb_topI2 ex15 ?_
      obtain ⟨g16, hF⟩ := gb_gdE hF
      obtain ⟨g17, hF⟩ := gb_gdE hF
      obtain ⟨h18, eh18, hF⟩ := gb_ltE hF
      refine gb_iast dX11_grain_40 (gb_kE g16) (gb_inE g17) (gb_hp eh18 ?_)
      refine gb_aload_n dX11_grain_41 rfl rfl ?_
      refine gb_dup dX11_grain_42 rfl ?_
      obtain ⟨g19, hF⟩ := gb_gdE hF
      refine gb_getI fX11_112 dX11_grain_43 (gb_kE g19) ?_
      refine gb_iconst (v := (1 : Int32)) dX11_grain_46 (by decide) ?_
      refine gb_iadd dX11_grain_47 ?_
      obtain ⟨g20, hF⟩ := gb_gdE hF
      obtain ⟨h21, eh21, hF⟩ := gb_ltE hF
      refine gb_putI fX11_112 (gb_nff nf11_1) dX11_grain_48 (gb_kE g20) (fun _ => ⟨rfl, rfl⟩) (gb_hp eh21 ?_)
      refine gb_aload_n dX11_grain_51 rfl rfl ?_
      refine gb_aload_n dX11_grain_52 rfl rfl ?_
      obtain ⟨g22, hF⟩ := gb_gdE hF
      refine gb_getI fX11_112 dX11_grain_53 (gb_kE g22) ?_
      obtain ⟨g23, hF⟩ := gb_gdE hF
      obtain ⟨x24, h25, cx24, hF⟩ := gb_bdE hF
      refine gb_cV (As := [.int (gb_I h21 p0 1)]) (S := []) (v := some (.int x24)) (h1 := h25) (S2 := [.int x24]) cf11 dX11_grain_56 mtX11_ends lX11_108 inX11_ends seX11_ends (gb_kE g23) (fnX11_ends_ok _ _ cx24) (by decide) rfl (Nat.le_of_ble_eq_true rfl) (Nat.le_of_ble_eq_true rfl) rfl rfl ?_
      cases hF
      exact gb_iret dX11_grain_59 rfl
    · replace hF := gb_ifT c8 hF
      refine gb_aload_n dX11_grain_24 rfl rfl ?_
      refine gb_bipush (v := (-5 : Int32)) dX11_grain_25 (by decide) ?_
      obtain ⟨g9, hF⟩ := gb_gdE hF
      obtain ⟨x10, h11, cx10, hF⟩ := gb_bdE hF
      refine gb_cV (As := [.int (-5 : Int32)]) (S := []) (v := some (.int x10)) (h1 := h11) (S2 := [.int x10]) cf11 dX11_grain_27 mtX11_ends lX11_108 inX11_ends seX11_ends (gb_kE g9) (fnX11_ends_ok _ _ cx10) (by decide) rfl (Nat.le_of_ble_eq_true rfl) (Nat.le_of_ble_eq_true rfl) rfl rfl ?_
      cases hF
      exact gb_iret dX11_grain_30 rfl
  · replace hF := gb_ifT c3 hF
    refine gb_aload_n dX11_grain_10 rfl rfl ?_
    refine gb_iconst (v := (-1 : Int32)) dX11_grain_11 (by decide) ?_
    obtain ⟨g4, hF⟩ := gb_gdE hF
    obtain ⟨x5, h6, cx5, hF⟩ := gb_bdE hF
    refine gb_cV (As := [.int (-1 : Int32)]) (S := []) (v := some (.int x5)) (h1 := h6) (S2 := [.int x5]) cf11 dX11_grain_12 mtX11_ends lX11_108 inX11_ends seX11_ends (gb_kE g4) (fnX11_ends_ok _ _ cx5) (by decide) rfl (Nat.le_of_ble_eq_true rfl) (Nat.le_of_ble_eq_true rfl) rfl rfl ?_
    cases hF
    exact gb_iret dX11_grain_15 rfl
def fnX11_clear (p0 : Nat) (h : gb_H) : Option (Int32 × gb_H) :=
  gb_gd (gb_k h p0 11) <|
  gb_lt (gb_I h p0 1) fun x2 =>
  gb_gd (gb_k h p0 11) <|
  gb_lt (gb_sI h p0 1 (0 : Int32)) fun h4 =>
  some (x2, h4)
theorem fnX11_clear_ok {X : gb_X}  {p0 : Nat} (h : gb_H) (r : Int32 × gb_H) (hF : fnX11_clear p0 h = some r) : gb_Ev X 1 mX11_clear 0 (gb_L0 [.ref p0]) [] h (gb_wI r) := by
  unfold fnX11_clear at hF
  refine gb_weak (L' := [some (.ref p0), none]) (And.intro rfl trivial) ?_
  refine gb_aload_n dX11_clear_0 rfl rfl ?_
  obtain ⟨g1, hF⟩ := gb_gdE hF
  refine gb_getI fX11_112 dX11_clear_1 (gb_kE g1) ?_
  obtain ⟨x2, ex2, hF⟩ := gb_ltE hF
  refine gb_topI ex2 ?_
  refine gb_istore_n (L' := [some (.ref p0), some (.int x2)]) dX11_clear_4 rfl (by decide) rfl rfl ?_
  refine gb_aload_n dX11_clear_5 rfl rfl ?_
  refine gb_iconst (v := (0 : Int32)) dX11_clear_6 (by decide) ?_
  obtain ⟨g3, hF⟩ := gb_gdE hF
  obtain ⟨h4, eh4, hF⟩ := gb_ltE hF
  refine gb_putI fX11_112 (gb_nff nf11_1) dX11_clear_7 (gb_kE g3) (fun _ => ⟨rfl, rfl⟩) (gb_hp eh4 ?_)
  refine gb_iload_n dX11_clear_10 rfl rfl ?_
  cases hF
  exact gb_iret dX11_clear_11 rfl
def fbX11_feed_55 (k55 : Nat → Int32 → gb_H → Option (Int32 × gb_H)) (v0 : Nat) (v6 : Int32) (h : gb_H) : Option (Int32 × gb_H) :=
  if (20 : Int32) ≤ v6 then
    gb_gd (gb_k h v0 11) <|
    gb_gd (gb_k h v0 11) <|
    gb_lt (gb_sI h v0 14 ((gb_I h v0 14) + (20 : Int32))) fun h4 =>
    gb_gd (gb_k h4 v0 11) <|
    some (gb_I h4 v0 14, h4)
  else
    gb_gd (gb_k h v0 11) <|
    gb_rd (gb_R h v0 11) fun a7 =>
    gb_gd (gb_k h v0 11) <|
    gb_gd (gb_k h v0 11) <|
    gb_rd (gb_R h v0 13) fun a10 =>
    gb_gd (gb_nz (4 : Int32)) <|
    gb_lt (v6 / (4 : Int32)) fun x12 =>
    gb_gd (gb_k h a10 20) <|
    gb_gd (gb_in h a10 x12) <|
    gb_gd (gb_nz (4 : Int32)) <|
    gb_lt ((gb_I h v0 14) + v6) fun x16 =>
    gb_gd (gb_k h a7 22) <|
    gb_gd (gb_in h a7 x16) <|
    gb_lt (gb_sI h a7 x16.toNatClampNeg (((gb_I h a10 x12.toNatClampNeg) >>> (((24 : Int32) - ((8 : Int32) * (v6 - v6 / (4 : Int32) * (4 : Int32)))) &&& 31)).toInt8.toInt32).toInt8.toInt32) fun h19 =>
    gb_lt (v6 + (1 : Int32)) fun x20 =>
    k55 v0 x20 h19
theorem fbX11_feed_55_ok {X : gb_X} {k55 : Nat → Int32 → gb_H → Option (Int32 × gb_H)} (hk55 : ∀ v0 v6 h r, k55 v0 v6 h = some r → gb_Ev X 1 mX11_feed 55 [some (.ref v0), none, none, none, none, none, some (.int v6)] [] h (gb_wI r)) (v0 : Nat) (v6 : Int32) (h : gb_H) (r : Int32 × gb_H) (hF : fbX11_feed_55 k55 v0 v6 h = some r) : gb_Ev X 1 mX11_feed 55 [some (.ref v0), none, none, none, none, none, some (.int v6)] [] h (gb_wI r) := by
  unfold fbX11_feed_55 at hF
  refine gb_iload dX11_feed_55 rfl ?_
  refine gb_bipush (v := (20 : Int32)) dX11_feed_57 (by decide) ?_
  refine gb_icmp_ge (tgt := 101) dX11_feed_59 (by decide) (fun c1 => ?_) (fun c1 => ?_)
  · replace hF := gb_ifT c1 hF
    refine gb_aload_n dX11_feed_101 rfl rfl ?_
    refine gb_dup dX11_feed_102 rfl ?_
    obtain ⟨g2, hF⟩ := gb_gdE hF
    refine gb_getI fX11_115 dX11_feed_103 (gb_kE g2) ?_
    refine gb_bipush (v := (20 : Int32)) dX11_feed_106 (by decide) ?_
    refine gb_iadd dX11_feed_108 ?_
    obtain ⟨g3, hF⟩ := gb_gdE hF
    obtain ⟨h4, eh4, hF⟩ := gb_ltE hF
    refine gb_putI fX11_115 (gb_nff nf11_14) dX11_feed_109 (gb_kE g3) (fun _ => ⟨rfl, rfl⟩) (gb_hp eh4 ?_)
    refine gb_aload_n dX11_feed_112 rfl rfl ?_
    obtain ⟨g5, hF⟩ := gb_gdE hF
    refine gb_getI fX11_115 dX11_feed_113 (gb_kE g5) ?_
    cases hF
    exact gb_iret dX11_feed_116 rfl
  · replace hF := gb_ifF c1 hF
    refine gb_aload_n dX11_feed_62 rfl rfl ?_
    obtain ⟨g6, hF⟩ := gb_gdE hF
    obtain ⟨a7, ea7, hF⟩ := gb_rdE hF
    refine gb_getR fX11_29 dX11_feed_63 (gb_kE g6) ea7 ?_
    refine gb_aload_n dX11_feed_66 rfl rfl ?_
    obtain ⟨g8, hF⟩ := gb_gdE hF
    refine gb_getI fX11_115 dX11_feed_67 (gb_kE g8) ?_
    refine gb_iload dX11_feed_70 rfl ?_
    refine gb_iadd dX11_feed_72 ?_
    refine gb_aload_n dX11_feed_73 rfl rfl ?_
    obtain ⟨g9, hF⟩ := gb_gdE hF
    obtain ⟨a10, ea10, hF⟩ := gb_rdE hF
    refine gb_getR fX11_36 dX11_feed_74 (gb_kE g9) ea10 ?_
    refine gb_iload dX11_feed_77 rfl ?_
    refine gb_iconst (v := (4 : Int32)) dX11_feed_79 (by decide) ?_
    obtain ⟨g11, hF⟩ := gb_gdE hF
    refine gb_idiv dX11_feed_80 (gb_nzE g11) ?_
    obtain ⟨x12, ex12, hF⟩ := gb_ltE hF
    refine gb_topI ex12 ?_
    obtain ⟨g13, hF⟩ := gb_gdE hF
    obtain ⟨g14, hF⟩ := gb_gdE hF
    refine gb_iald dX11_feed_81 (gb_kE g13) (gb_inE g14) ?_
    refine gb_bipush (v := (24 : Int32)) dX11_feed_82 (by decide) ?_
    refine gb_bipush (v := (8 : Int32)) dX11_feed_84 (by decide) ?_
    refine gb_iload dX11_feed_86 rfl ?_
    refine gb_iconst (v := (4 : Int32)) dX11_feed_88 (by decide) ?_
    obtain ⟨g15, hF⟩ := gb_gdE hF
    refine gb_irem dX11_feed_89 (gb_nzE g15) ?_
    refine gb_imul dX11_feed_90 ?_
    refine gb_isub dX11_feed_91 ?_
    refine gb_ishr dX11_feed_92 ?_
    refine gb_i2b dX11_feed_93 ?_
    obtain ⟨x16, ex16, hF⟩ := gb_ltE hF
    refine gb_topI2 ex16 ?_
    obtain ⟨g17, hF⟩ := gb_gdE hF
    obtain ⟨g18, hF⟩ := gb_gdE hF
    obtain ⟨h19, eh19, hF⟩ := gb_ltE hF
    refine gb_bast dX11_feed_94 (gb_kE g17) (gb_inE g18) (gb_hp eh19 ?_)
    obtain ⟨x20, ex20, hF⟩ := gb_ltE hF
    refine gb_iinc (v := x20) (L' := [some (.ref v0), none, none, none, none, none, some (.int x20)]) dX11_feed_95 rfl (by rw [ex20]; rfl) (by decide) rfl rfl ?_
    refine gb_goto (tgt := 55) dX11_feed_98 (by decide) ?_
    exact gb_wk (hk55 v0 x20 h19 r hF) (And.intro rfl (And.intro rfl trivial))
def lpX11_feed_55 (n : Nat) (v0 : Nat) (v6 : Int32) (h : gb_H) : Option (Int32 × gb_H) := gb_lp (σ := Nat × Int32 × gb_H) (fun k s => fbX11_feed_55 (fun v0 v6 h => k (v0, v6, h)) s.1 s.2.1 s.2.2) n (v0, v6, h)
theorem lpX11_feed_55_ok {X : gb_X}  (n : Nat) (v0 : Nat) (v6 : Int32) (h : gb_H) (r : Int32 × gb_H) (hF : lpX11_feed_55 n v0 v6 h = some r) : gb_Ev X 1 mX11_feed 55 [some (.ref v0), none, none, none, none, none, some (.int v6)] [] h (gb_wI r) := by
  exact gb_lpE (σ := Nat × Int32 × gb_H) (P := fun s r => gb_Ev X 1 mX11_feed 55 [some (.ref s.1), none, none, none, none, none, some (.int s.2.1)] [] s.2.2 (gb_wI r)) (fun k hk s r hs => fbX11_feed_55_ok (fun v0 v6 h r e => hk (v0, v6, h) r e) _ _ _ r hs) n (v0, v6, h) r hF
def fnX11_feed (p0 : Nat) (p1 : Int32) (p2 : Int32) (p3 : Int32) (p4 : Int32) (p5 : Int32) (h : gb_H) : Option (Int32 × gb_H) :=
  gb_gd (gb_k h p0 11) <|
  if ((gb_I h p0 14) + (20 : Int32)) ≤ (400 : Int32) then
    gb_gd (gb_k h p0 11) <|
    gb_rd (gb_R h p0 13) fun a4 =>
    gb_gd (gb_k h a4 20) <|
    gb_gd (gb_in h a4 (0 : Int32)) <|
    gb_lt (gb_sI h a4 (0 : Int32).toNatClampNeg p1) fun h7 =>
    gb_gd (gb_k h7 p0 11) <|
    gb_rd (gb_R h7 p0 13) fun a9 =>
    gb_gd (gb_k h7 a9 20) <|
    gb_gd (gb_in h7 a9 (1 : Int32)) <|
    gb_lt (gb_sI h7 a9 (1 : Int32).toNatClampNeg p2) fun h12 =>
    gb_gd (gb_k h12 p0 11) <|
    gb_rd (gb_R h12 p0 13) fun a14 =>
    gb_gd (gb_k h12 a14 20) <|
    gb_gd (gb_in h12 a14 (2 : Int32)) <|
    gb_lt (gb_sI h12 a14 (2 : Int32).toNatClampNeg p3) fun h17 =>
    gb_gd (gb_k h17 p0 11) <|
    gb_rd (gb_R h17 p0 13) fun a19 =>
    gb_gd (gb_k h17 a19 20) <|
    gb_gd (gb_in h17 a19 (3 : Int32)) <|
    gb_lt (gb_sI h17 a19 (3 : Int32).toNatClampNeg p4) fun h22 =>
    gb_gd (gb_k h22 p0 11) <|
    gb_rd (gb_R h22 p0 13) fun a24 =>
    gb_gd (gb_k h22 a24 20) <|
    gb_gd (gb_in h22 a24 (4 : Int32)) <|
    gb_lt (gb_sI h22 a24 (4 : Int32).toNatClampNeg p5) fun h27 =>
    lpX11_feed_55 gb_FU p0 (0 : Int32) h27
  else
    some ((-1 : Int32), h)
theorem fnX11_feed_ok {X : gb_X}  {p0 : Nat} {p1 : Int32} {p2 : Int32} {p3 : Int32} {p4 : Int32} {p5 : Int32} (h : gb_H) (r : Int32 × gb_H) (hF : fnX11_feed p0 p1 p2 p3 p4 p5 h = some r) : gb_Ev X 1 mX11_feed 0 (gb_L0 [.ref p0, .int p1, .int p2, .int p3, .int p4, .int p5]) [] h (gb_wI r) := by
  unfold fnX11_feed at hF
  refine gb_weak (L' := [some (.ref p0), some (.int p1), some (.int p2), some (.int p3), some (.int p4), some (.int p5), none]) (And.intro rfl (And.intro rfl (And.intro rfl (And.intro rfl (And.intro rfl (And.intro rfl trivial)))))) ?_
  refine gb_aload_n dX11_feed_0 rfl rfl ?_
  obtain ⟨g1, hF⟩ := gb_gdE hF
  refine gb_getI fX11_115 dX11_feed_1 (gb_kE g1) ?_
  refine gb_bipush (v := (20 : Int32)) dX11_feed_4 (by decide) ?_
  refine gb_iadd dX11_feed_6 ?_
  refine gb_sipush (v := (400 : Int32)) dX11_feed_7 (by decide) ?_
  refine gb_icmp_le (tgt := 15) dX11_feed_10 (by decide) (fun c2 => ?_) (fun c2 => ?_)
  · replace hF := gb_ifT c2 hF
    refine gb_aload_n dX11_feed_15 rfl rfl ?_
    obtain ⟨g3, hF⟩ := gb_gdE hF
    obtain ⟨a4, ea4, hF⟩ := gb_rdE hF
    refine gb_getR fX11_36 dX11_feed_16 (gb_kE g3) ea4 ?_
    refine gb_iconst (v := (0 : Int32)) dX11_feed_19 (by decide) ?_
    refine gb_iload_n dX11_feed_20 rfl rfl ?_
    obtain ⟨g5, hF⟩ := gb_gdE hF
    obtain ⟨g6, hF⟩ := gb_gdE hF
    obtain ⟨h7, eh7, hF⟩ := gb_ltE hF
    refine gb_iast dX11_feed_21 (gb_kE g5) (gb_inE g6) (gb_hp eh7 ?_)
    refine gb_aload_n dX11_feed_22 rfl rfl ?_
    obtain ⟨g8, hF⟩ := gb_gdE hF
    obtain ⟨a9, ea9, hF⟩ := gb_rdE hF
    refine gb_getR fX11_36 dX11_feed_23 (gb_kE g8) ea9 ?_
    refine gb_iconst (v := (1 : Int32)) dX11_feed_26 (by decide) ?_
    refine gb_iload_n dX11_feed_27 rfl rfl ?_
    obtain ⟨g10, hF⟩ := gb_gdE hF
    obtain ⟨g11, hF⟩ := gb_gdE hF
    obtain ⟨h12, eh12, hF⟩ := gb_ltE hF
    refine gb_iast dX11_feed_28 (gb_kE g10) (gb_inE g11) (gb_hp eh12 ?_)
    refine gb_aload_n dX11_feed_29 rfl rfl ?_
    obtain ⟨g13, hF⟩ := gb_gdE hF
    obtain ⟨a14, ea14, hF⟩ := gb_rdE hF
    refine gb_getR fX11_36 dX11_feed_30 (gb_kE g13) ea14 ?_
    refine gb_iconst (v := (2 : Int32)) dX11_feed_33 (by decide) ?_
    refine gb_iload_n dX11_feed_34 rfl rfl ?_
    obtain ⟨g15, hF⟩ := gb_gdE hF
    obtain ⟨g16, hF⟩ := gb_gdE hF
    obtain ⟨h17, eh17, hF⟩ := gb_ltE hF
    refine gb_iast dX11_feed_35 (gb_kE g15) (gb_inE g16) (gb_hp eh17 ?_)
    refine gb_aload_n dX11_feed_36 rfl rfl ?_
    obtain ⟨g18, hF⟩ := gb_gdE hF
    obtain ⟨a19, ea19, hF⟩ := gb_rdE hF
    refine gb_getR fX11_36 dX11_feed_37 (gb_kE g18) ea19 ?_
    refine gb_iconst (v := (3 : Int32)) dX11_feed_40 (by decide) ?_
    refine gb_iload dX11_feed_41 rfl ?_
    obtain ⟨g20, hF⟩ := gb_gdE hF
    obtain ⟨g21, hF⟩ := gb_gdE hF
    obtain ⟨h22, eh22, hF⟩ := gb_ltE hF
    refine gb_iast dX11_feed_43 (gb_kE g20) (gb_inE g21) (gb_hp eh22 ?_)
    refine gb_aload_n dX11_feed_44 rfl rfl ?_
    obtain ⟨g23, hF⟩ := gb_gdE hF
    obtain ⟨a24, ea24, hF⟩ := gb_rdE hF
    refine gb_getR fX11_36 dX11_feed_45 (gb_kE g23) ea24 ?_
    refine gb_iconst (v := (4 : Int32)) dX11_feed_48 (by decide) ?_
    refine gb_iload dX11_feed_49 rfl ?_
    obtain ⟨g25, hF⟩ := gb_gdE hF
    obtain ⟨g26, hF⟩ := gb_gdE hF
    obtain ⟨h27, eh27, hF⟩ := gb_ltE hF
    refine gb_iast dX11_feed_51 (gb_kE g25) (gb_inE g26) (gb_hp eh27 ?_)
    refine gb_iconst (v := (0 : Int32)) dX11_feed_52 (by decide) ?_
    refine gb_istore (L' := [some (.ref p0), some (.int p1), some (.int p2), some (.int p3), some (.int p4), some (.int p5), some (.int (0 : Int32))]) dX11_feed_53 (by decide) rfl rfl ?_
    exact gb_wk (lpX11_feed_55_ok gb_FU p0 (0 : Int32) h27 r hF) (And.intro rfl (And.intro rfl trivial))
  · replace hF := gb_ifF c2 hF
    refine gb_iconst (v := (-1 : Int32)) dX11_feed_13 (by decide) ?_
    cases hF
    exact gb_iret dX11_feed_14 rfl
def fnX11_end (p0 : Nat) (p1 : Int32) (h : gb_H) : Option (Int32 × gb_H) :=
  gb_gd (gb_k h p0 11) <|
  gb_bd (fnX11_in p1 (0 : Int32) (gb_I h p0 14) h) fun x2 h3 =>
  if x2 = 0 then
    some ((-1 : Int32), h3)
  else
    gb_gd (gb_k h3 p0 11) <|
    gb_lt (gb_sI h3 p0 14 p1) fun h6 =>
    some (p1, h6)
theorem fnX11_end_ok {X : gb_X}  {p0 : Nat} {p1 : Int32} (h : gb_H) (r : Int32 × gb_H) (hF : fnX11_end p0 p1 h = some r) : gb_Ev X 2 mX11_end 0 (gb_L0 [.ref p0, .int p1]) [] h (gb_wI r) := by
  unfold fnX11_end at hF
  refine gb_weak (L' := [some (.ref p0), some (.int p1)]) (And.intro rfl (And.intro rfl trivial)) ?_
  refine gb_iload_n dX11_end_0 rfl rfl ?_
  refine gb_iconst (v := (0 : Int32)) dX11_end_1 (by decide) ?_
  refine gb_aload_n dX11_end_2 rfl rfl ?_
  obtain ⟨g1, hF⟩ := gb_gdE hF
  refine gb_getI fX11_115 dX11_end_3 (gb_kE g1) ?_
  obtain ⟨x2, h3, cx2, hF⟩ := gb_bdE hF
  refine gb_cS (As := [.int p1, .int (0 : Int32), .int (gb_I h p0 14)]) (S := []) (v := some (.int x2)) (h1 := h3) (S2 := [.int x2]) dX11_end_6 mtX11_in lX11_104 stX11_in (fnX11_in_ok _ _ cx2) (by decide) rfl (Nat.le_of_ble_eq_true rfl) (Nat.le_of_ble_eq_true rfl) rfl rfl ?_
  refine gb_if_ne (tgt := 14) dX11_end_9 (by decide) (fun c4 => ?_) (fun c4 => ?_)
  · replace hF := gb_ifF c4 hF
    refine gb_aload_n dX11_end_14 rfl rfl ?_
    refine gb_iload_n dX11_end_15 rfl rfl ?_
    obtain ⟨g5, hF⟩ := gb_gdE hF
    obtain ⟨h6, eh6, hF⟩ := gb_ltE hF
    refine gb_putI fX11_115 (gb_nff nf11_14) dX11_end_16 (gb_kE g5) (fun _ => ⟨rfl, rfl⟩) (gb_hp eh6 ?_)
    refine gb_iload_n dX11_end_19 rfl rfl ?_
    cases hF
    exact gb_iret dX11_end_20 rfl
  · replace hF := gb_ifT c4 hF
    refine gb_iconst (v := (-1 : Int32)) dX11_end_12 (by decide) ?_
    cases hF
    exact gb_iret dX11_end_13 rfl
def fbX11_isIn_33 (s0 : Int32) (h : gb_H) : Option (Int32 × gb_H) :=
  gb_gd (gb_b s0) <|
  some (s0, h)
theorem fbX11_isIn_33_ok {X : gb_X} (s0 : Int32) (h : gb_H) (r : Int32 × gb_H) (hF : fbX11_isIn_33 s0 h = some r) : gb_Ev X 1 mX11_isIn 33 [none, none, none, none] [.int s0] h (gb_wI r) := by
  unfold fbX11_isIn_33 at hF
  obtain ⟨g1, hF⟩ := gb_gdE hF
  cases hF
  exact gb_zret dX11_isIn_33 rfl (gb_bE g1)
def fbX11_isIn_32 (h : gb_H) : Option (Int32 × gb_H) :=
  fbX11_isIn_33 (0 : Int32) h
theorem fbX11_isIn_32_ok {X : gb_X} (h : gb_H) (r : Int32 × gb_H) (hF : fbX11_isIn_32 h = some r) : gb_Ev X 1 mX11_isIn 32 [none, none, none, none] [] h (gb_wI r) := by
  unfold fbX11_isIn_32 at hF
  refine gb_iconst (v := (0 : Int32)) dX11_isIn_32 (by decide) ?_
  exact gb_wk (fbX11_isIn_33_ok (0 : Int32) h r hF) trivial
def fnX11_isIn (p0 : Nat) (p1 : Int32) (p2 : Int32) (p3 : Int32) (h : gb_H) : Option (Int32 × gb_H) :=
  gb_gd (gb_k h p0 11) <|
  if (gb_I h p0 15) ≤ p1 then
    fbX11_isIn_32 h
  else
    gb_gd (gb_k h p0 11) <|
    gb_rd (gb_R h p0 12) fun a4 =>
    gb_gd (gb_k h a4 22) <|
    gb_gd (gb_in h a4 p1) <|
    if (gb_I h a4 p1.toNatClampNeg) < p2 then
      fbX11_isIn_32 h
    else
      gb_gd (gb_k h p0 11) <|
      gb_rd (gb_R h p0 12) fun a9 =>
      gb_gd (gb_k h a9 22) <|
      gb_gd (gb_in h a9 p1) <|
      if p3 < (gb_I h a9 p1.toNatClampNeg) then
        fbX11_isIn_32 h
      else
        fbX11_isIn_33 (1 : Int32) h
theorem fnX11_isIn_ok {X : gb_X}  {p0 : Nat} {p1 : Int32} {p2 : Int32} {p3 : Int32} (h : gb_H) (r : Int32 × gb_H) (hF : fnX11_isIn p0 p1 p2 p3 h = some r) : gb_Ev X 1 mX11_isIn 0 (gb_L0 [.ref p0, .int p1, .int p2, .int p3]) [] h (gb_wI r) := by
  unfold fnX11_isIn at hF
  refine gb_weak (L' := [some (.ref p0), some (.int p1), some (.int p2), some (.int p3)]) (And.intro rfl (And.intro rfl (And.intro rfl (And.intro rfl trivial)))) ?_
  refine gb_iload_n dX11_isIn_0 rfl rfl ?_
  refine gb_aload_n dX11_isIn_1 rfl rfl ?_
  obtain ⟨g1, hF⟩ := gb_gdE hF
  refine gb_getI fX11_118 dX11_isIn_2 (gb_kE g1) ?_
  refine gb_icmp_ge (tgt := 32) dX11_isIn_5 (by decide) (fun c2 => ?_) (fun c2 => ?_)
  · replace hF := gb_ifT c2 hF
    exact gb_wk (fbX11_isIn_32_ok h r hF) trivial
  · replace hF := gb_ifF c2 hF
    refine gb_aload_n dX11_isIn_8 rfl rfl ?_
    obtain ⟨g3, hF⟩ := gb_gdE hF
    obtain ⟨a4, ea4, hF⟩ := gb_rdE hF
    refine gb_getR fX11_33 dX11_isIn_9 (gb_kE g3) ea4 ?_
    refine gb_iload_n dX11_isIn_12 rfl rfl ?_
    obtain ⟨g5, hF⟩ := gb_gdE hF
    obtain ⟨g6, hF⟩ := gb_gdE hF
    refine gb_bald dX11_isIn_13 (gb_kE g5) (gb_inE g6) ?_
    refine gb_iload_n dX11_isIn_14 rfl rfl ?_
    refine gb_icmp_lt (tgt := 32) dX11_isIn_15 (by decide) (fun c7 => ?_) (fun c7 => ?_)
    · replace hF := gb_ifT c7 hF
      exact gb_wk (fbX11_isIn_32_ok h r hF) trivial
    · replace hF := gb_ifF c7 hF
      refine gb_aload_n dX11_isIn_18 rfl rfl ?_
      obtain ⟨g8, hF⟩ := gb_gdE hF
      obtain ⟨a9, ea9, hF⟩ := gb_rdE hF
      refine gb_getR fX11_33 dX11_isIn_19 (gb_kE g8) ea9 ?_
      refine gb_iload_n dX11_isIn_22 rfl rfl ?_
      obtain ⟨g10, hF⟩ := gb_gdE hF
      obtain ⟨g11, hF⟩ := gb_gdE hF
      refine gb_bald dX11_isIn_23 (gb_kE g10) (gb_inE g11) ?_
      refine gb_iload_n dX11_isIn_24 rfl rfl ?_
      refine gb_icmp_gt (tgt := 32) dX11_isIn_25 (by decide) (fun c12 => ?_) (fun c12 => ?_)
      · replace hF := gb_ifT c12 hF
        exact gb_wk (fbX11_isIn_32_ok h r hF) trivial
      · replace hF := gb_ifF c12 hF
        refine gb_iconst (v := (1 : Int32)) dX11_isIn_28 (by decide) ?_
        refine gb_goto (tgt := 33) dX11_isIn_29 (by decide) ?_
        exact gb_wk (fbX11_isIn_33_ok (1 : Int32) h r hF) trivial
def fbX11_next_162 (h : gb_H) : Option (Unit × gb_H) :=
  some ((), h)
theorem fbX11_next_162_ok {X : gb_X} (h : gb_H) (r : Unit × gb_H) (hF : fbX11_next_162 h = some r) : gb_Ev X 2 mX11_next 162 [none] [] h (gb_wV r) := by
  unfold fbX11_next_162 at hF
  cases hF
  exact gb_vret dX11_next_162 rfl
def fbX11_next_81 (k81 : Nat → gb_H → Option (Unit × gb_H)) (v0 : Nat) (h : gb_H) : Option (Unit × gb_H) :=
  gb_gd (gb_k h v0 11) <|
  gb_gd (gb_k h v0 11) <|
  gb_bd (fnX11_isIn v0 (gb_I h v0 17) (97 : Int32) (122 : Int32) h) fun x3 h4 =>
  if x3 = 0 then
    fbX11_next_162 h4
  else
    gb_gd (gb_k h4 v0 11) <|
    gb_gd (gb_k h4 v0 11) <|
    gb_lt (gb_sI h4 v0 17 ((gb_I h4 v0 17) + (1 : Int32))) fun h8 =>
    k81 v0 h8
theorem fbX11_next_81_ok {X : gb_X} {k81 : Nat → gb_H → Option (Unit × gb_H)} (hk81 : ∀ v0 h r, k81 v0 h = some r → gb_Ev X 2 mX11_next 81 [some (.ref v0)] [] h (gb_wV r)) (v0 : Nat) (h : gb_H) (r : Unit × gb_H) (hF : fbX11_next_81 k81 v0 h = some r) : gb_Ev X 2 mX11_next 81 [some (.ref v0)] [] h (gb_wV r) := by
  unfold fbX11_next_81 at hF
  refine gb_aload_n dX11_next_81 rfl rfl ?_
  refine gb_aload_n dX11_next_82 rfl rfl ?_
  obtain ⟨g1, hF⟩ := gb_gdE hF
  refine gb_getI fX11_121 dX11_next_83 (gb_kE g1) ?_
  refine gb_bipush (v := (97 : Int32)) dX11_next_86 (by decide) ?_
  refine gb_bipush (v := (122 : Int32)) dX11_next_88 (by decide) ?_
  obtain ⟨g2, hF⟩ := gb_gdE hF
  obtain ⟨x3, h4, cx3, hF⟩ := gb_bdE hF
  refine gb_cV (As := [.int (gb_I h v0 17), .int (97 : Int32), .int (122 : Int32)]) (S := []) (v := some (.int x3)) (h1 := h4) (S2 := [.int x3]) cf11 dX11_next_90 mtX11_isIn lX11_127 inX11_isIn seX11_isIn (gb_kE g2) (fnX11_isIn_ok _ _ cx3) (by decide) rfl (Nat.le_of_ble_eq_true rfl) (Nat.le_of_ble_eq_true rfl) rfl rfl ?_
  refine gb_if_eq (tgt := 162) dX11_next_93 (by decide) (fun c5 => ?_) (fun c5 => ?_)
  · replace hF := gb_ifT c5 hF
    exact gb_wk (fbX11_next_162_ok h4 r hF) trivial
  · replace hF := gb_ifF c5 hF
    refine gb_aload_n dX11_next_96 rfl rfl ?_
    refine gb_dup dX11_next_97 rfl ?_
    obtain ⟨g6, hF⟩ := gb_gdE hF
    refine gb_getI fX11_121 dX11_next_98 (gb_kE g6) ?_
    refine gb_iconst (v := (1 : Int32)) dX11_next_101 (by decide) ?_
    refine gb_iadd dX11_next_102 ?_
    obtain ⟨g7, hF⟩ := gb_gdE hF
    obtain ⟨h8, eh8, hF⟩ := gb_ltE hF
    refine gb_putI fX11_121 (gb_nff nf11_17) dX11_next_103 (gb_kE g7) (fun _ => ⟨rfl, rfl⟩) (gb_hp eh8 ?_)
    refine gb_goto (tgt := 81) dX11_next_106 (by decide) ?_
    exact gb_wk (hk81 v0 h8 r hF) (And.intro rfl trivial)
def lpX11_next_81 (n : Nat) (v0 : Nat) (h : gb_H) : Option (Unit × gb_H) := gb_lp (σ := Nat × gb_H) (fun k s => fbX11_next_81 (fun v0 h => k (v0, h)) s.1 s.2) n (v0, h)
theorem lpX11_next_81_ok {X : gb_X}  (n : Nat) (v0 : Nat) (h : gb_H) (r : Unit × gb_H) (hF : lpX11_next_81 n v0 h = some r) : gb_Ev X 2 mX11_next 81 [some (.ref v0)] [] h (gb_wV r) := by
  exact gb_lpE (σ := Nat × gb_H) (P := fun s r => gb_Ev X 2 mX11_next 81 [some (.ref s.1)] [] s.2 (gb_wV r)) (fun k hk s r hs => fbX11_next_81_ok (fun v0 h r e => hk (v0, h) r e) _ _ r hs) n (v0, h) r hF
def fbX11_next_124 (k124 : Nat → gb_H → Option (Unit × gb_H)) (v0 : Nat) (h : gb_H) : Option (Unit × gb_H) :=
  gb_gd (gb_k h v0 11) <|
  gb_gd (gb_k h v0 11) <|
  gb_bd (fnX11_isIn v0 (gb_I h v0 17) (48 : Int32) (57 : Int32) h) fun x3 h4 =>
  if x3 = 0 then
    fbX11_next_162 h4
  else
    gb_gd (gb_k h4 v0 11) <|
    gb_gd (gb_k h4 v0 11) <|
    gb_lt (gb_sI h4 v0 17 ((gb_I h4 v0 17) + (1 : Int32))) fun h8 =>
    k124 v0 h8
theorem fbX11_next_124_ok {X : gb_X} {k124 : Nat → gb_H → Option (Unit × gb_H)} (hk124 : ∀ v0 h r, k124 v0 h = some r → gb_Ev X 2 mX11_next 124 [some (.ref v0)] [] h (gb_wV r)) (v0 : Nat) (h : gb_H) (r : Unit × gb_H) (hF : fbX11_next_124 k124 v0 h = some r) : gb_Ev X 2 mX11_next 124 [some (.ref v0)] [] h (gb_wV r) := by
  unfold fbX11_next_124 at hF
  refine gb_aload_n dX11_next_124 rfl rfl ?_
  refine gb_aload_n dX11_next_125 rfl rfl ?_
  obtain ⟨g1, hF⟩ := gb_gdE hF
  refine gb_getI fX11_121 dX11_next_126 (gb_kE g1) ?_
  refine gb_bipush (v := (48 : Int32)) dX11_next_129 (by decide) ?_
  refine gb_bipush (v := (57 : Int32)) dX11_next_131 (by decide) ?_
  obtain ⟨g2, hF⟩ := gb_gdE hF
  obtain ⟨x3, h4, cx3, hF⟩ := gb_bdE hF
  refine gb_cV (As := [.int (gb_I h v0 17), .int (48 : Int32), .int (57 : Int32)]) (S := []) (v := some (.int x3)) (h1 := h4) (S2 := [.int x3]) cf11 dX11_next_133 mtX11_isIn lX11_127 inX11_isIn seX11_isIn (gb_kE g2) (fnX11_isIn_ok _ _ cx3) (by decide) rfl (Nat.le_of_ble_eq_true rfl) (Nat.le_of_ble_eq_true rfl) rfl rfl ?_
  refine gb_if_eq (tgt := 162) dX11_next_136 (by decide) (fun c5 => ?_) (fun c5 => ?_)
  · replace hF := gb_ifT c5 hF
    exact gb_wk (fbX11_next_162_ok h4 r hF) trivial
  · replace hF := gb_ifF c5 hF
    refine gb_aload_n dX11_next_139 rfl rfl ?_
    refine gb_dup dX11_next_140 rfl ?_
    obtain ⟨g6, hF⟩ := gb_gdE hF
    refine gb_getI fX11_121 dX11_next_141 (gb_kE g6) ?_
    refine gb_iconst (v := (1 : Int32)) dX11_next_144 (by decide) ?_
    refine gb_iadd dX11_next_145 ?_
    obtain ⟨g7, hF⟩ := gb_gdE hF
    obtain ⟨h8, eh8, hF⟩ := gb_ltE hF
    refine gb_putI fX11_121 (gb_nff nf11_17) dX11_next_146 (gb_kE g7) (fun _ => ⟨rfl, rfl⟩) (gb_hp eh8 ?_)
    refine gb_goto (tgt := 124) dX11_next_149 (by decide) ?_
    exact gb_wk (hk124 v0 h8 r hF) (And.intro rfl trivial)
def lpX11_next_124 (n : Nat) (v0 : Nat) (h : gb_H) : Option (Unit × gb_H) := gb_lp (σ := Nat × gb_H) (fun k s => fbX11_next_124 (fun v0 h => k (v0, h)) s.1 s.2) n (v0, h)
theorem lpX11_next_124_ok {X : gb_X}  (n : Nat) (v0 : Nat) (h : gb_H) (r : Unit × gb_H) (hF : lpX11_next_124 n v0 h = some r) : gb_Ev X 2 mX11_next 124 [some (.ref v0)] [] h (gb_wV r) := by
  exact gb_lpE (σ := Nat × gb_H) (P := fun s r => gb_Ev X 2 mX11_next 124 [some (.ref s.1)] [] s.2 (gb_wV r)) (fun k hk s r hs => fbX11_next_124_ok (fun v0 h r e => hk (v0, h) r e) _ _ r hs) n (v0, h) r hF
def fbX11_next_46 (v0 : Nat) (h : gb_H) : Option (Unit × gb_H) :=
  gb_gd (gb_k h v0 11) <|
  gb_gd (gb_k h v0 11) <|
  gb_lt (gb_sI h v0 17 (gb_I h v0 16)) fun h3 =>
  gb_gd (gb_k h3 v0 11) <|
  gb_gd (gb_k h3 v0 11) <|
  if (gb_I h3 v0 16) = (gb_I h3 v0 15) then
    some ((), h3)
  else
    gb_gd (gb_k h3 v0 11) <|
    gb_gd (gb_k h3 v0 11) <|
    gb_bd (fnX11_isIn v0 (gb_I h3 v0 16) (97 : Int32) (122 : Int32) h3) fun x9 h10 =>
    if x9 = 0 then
      gb_gd (gb_k h10 v0 11) <|
      gb_gd (gb_k h10 v0 11) <|
      gb_bd (fnX11_isIn v0 (gb_I h10 v0 16) (48 : Int32) (57 : Int32) h10) fun x14 h15 =>
      if x14 = 0 then
        gb_gd (gb_k h15 v0 11) <|
        gb_gd (gb_k h15 v0 11) <|
        gb_lt (gb_sI h15 v0 17 ((gb_I h15 v0 17) + (1 : Int32))) fun h19 =>
        fbX11_next_162 h19
      else
        lpX11_next_124 gb_FU v0 h15
    else
      lpX11_next_81 gb_FU v0 h10
theorem fbX11_next_46_ok {X : gb_X} (v0 : Nat) (h : gb_H) (r : Unit × gb_H) (hF : fbX11_next_46 v0 h = some r) : gb_Ev X 2 mX11_next 46 [some (.ref v0)] [] h (gb_wV r) := by
  unfold fbX11_next_46 at hF
  refine gb_aload_n dX11_next_46 rfl rfl ?_
  refine gb_aload_n dX11_next_47 rfl rfl ?_
  obtain ⟨g1, hF⟩ := gb_gdE hF
  refine gb_getI fX11_124 dX11_next_48 (gb_kE g1) ?_
  obtain ⟨g2, hF⟩ := gb_gdE hF
  obtain ⟨h3, eh3, hF⟩ := gb_ltE hF
  refine gb_putI fX11_121 (gb_nff nf11_17) dX11_next_51 (gb_kE g2) (fun _ => ⟨rfl, rfl⟩) (gb_hp eh3 ?_)
  refine gb_aload_n dX11_next_54 rfl rfl ?_
  obtain ⟨g4, hF⟩ := gb_gdE hF
  refine gb_getI fX11_124 dX11_next_55 (gb_kE g4) ?_
  refine gb_aload_n dX11_next_58 rfl rfl ?_
  obtain ⟨g5, hF⟩ := gb_gdE hF
  refine gb_getI fX11_118 dX11_next_59 (gb_kE g5) ?_
  refine gb_icmp_ne (tgt := 66) dX11_next_62 (by decide) (fun c6 => ?_) (fun c6 => ?_)
  · replace hF := gb_ifF c6 hF
    refine gb_aload_n dX11_next_66 rfl rfl ?_
    refine gb_aload_n dX11_next_67 rfl rfl ?_
    obtain ⟨g7, hF⟩ := gb_gdE hF
    refine gb_getI fX11_124 dX11_next_68 (gb_kE g7) ?_
    refine gb_bipush (v := (97 : Int32)) dX11_next_71 (by decide) ?_
    refine gb_bipush (v := (122 : Int32)) dX11_next_73 (by decide) ?_
    obtain ⟨g8, hF⟩ := gb_gdE hF
    obtain ⟨x9, h10, cx9, hF⟩ := gb_bdE hF
    refine gb_cV (As := [.int (gb_I h3 v0 16), .int (97 : Int32), .int (122 : Int32)]) (S := []) (v := some (.int x9)) (h1 := h10) (S2 := [.int x9]) cf11 dX11_next_75 mtX11_isIn lX11_127 inX11_isIn seX11_isIn (gb_kE g8) (fnX11_isIn_ok _ _ cx9) (by decide) rfl (Nat.le_of_ble_eq_true rfl) (Nat.le_of_ble_eq_true rfl) rfl rfl ?_
    refine gb_if_eq (tgt := 109) dX11_next_78 (by decide) (fun c11 => ?_) (fun c11 => ?_)
    · replace hF := gb_ifT c11 hF
      refine gb_aload_n dX11_next_109 rfl rfl ?_
      refine gb_aload_n dX11_next_110 rfl rfl ?_
      obtain ⟨g12, hF⟩ := gb_gdE hF
      refine gb_getI fX11_124 dX11_next_111 (gb_kE g12) ?_
      refine gb_bipush (v := (48 : Int32)) dX11_next_114 (by decide) ?_
      refine gb_bipush (v := (57 : Int32)) dX11_next_116 (by decide) ?_
      obtain ⟨g13, hF⟩ := gb_gdE hF
      obtain ⟨x14, h15, cx14, hF⟩ := gb_bdE hF
      refine gb_cV (As := [.int (gb_I h10 v0 16), .int (48 : Int32), .int (57 : Int32)]) (S := []) (v := some (.int x14)) (h1 := h15) (S2 := [.int x14]) cf11 dX11_next_118 mtX11_isIn lX11_127 inX11_isIn seX11_isIn (gb_kE g13) (fnX11_isIn_ok _ _ cx14) (by decide) rfl (Nat.le_of_ble_eq_true rfl) (Nat.le_of_ble_eq_true rfl) rfl rfl ?_
      refine gb_if_eq (tgt := 152) dX11_next_121 (by decide) (fun c16 => ?_) (fun c16 => ?_)
      · replace hF := gb_ifT c16 hF
        refine gb_aload_n dX11_next_152 rfl rfl ?_
        refine gb_dup dX11_next_153 rfl ?_
        obtain ⟨g17, hF⟩ := gb_gdE hF
        refine gb_getI fX11_121 dX11_next_154 (gb_kE g17) ?_
        refine gb_iconst (v := (1 : Int32)) dX11_next_157 (by decide) ?_
        refine gb_iadd dX11_next_158 ?_
        obtain ⟨g18, hF⟩ := gb_gdE hF
        obtain ⟨h19, eh19, hF⟩ := gb_ltE hF
        refine gb_putI fX11_121 (gb_nff nf11_17) dX11_next_159 (gb_kE g18) (fun _ => ⟨rfl, rfl⟩) (gb_hp eh19 ?_)
        exact gb_wk (fbX11_next_162_ok h19 r hF) trivial
      · replace hF := gb_ifF c16 hF
        exact gb_wk (lpX11_next_124_ok gb_FU v0 h15 r hF) (And.intro rfl trivial)
    · replace hF := gb_ifF c11 hF
      exact gb_wk (lpX11_next_81_ok gb_FU v0 h10 r hF) (And.intro rfl trivial)
  · replace hF := gb_ifT c6 hF
    cases hF
    exact gb_vret dX11_next_65 rfl
def fbX11_next_8 (k8 : Nat → gb_H → Option (Unit × gb_H)) (v0 : Nat) (h : gb_H) : Option (Unit × gb_H) :=
  gb_gd (gb_k h v0 11) <|
  gb_gd (gb_k h v0 11) <|
  if (gb_I h v0 15) ≤ (gb_I h v0 16) then
    fbX11_next_46 v0 h
  else
    gb_gd (gb_k h v0 11) <|
    gb_rd (gb_R h v0 12) fun a5 =>
    gb_gd (gb_k h v0 11) <|
    gb_lt (gb_I h v0 16) fun x7 =>
    gb_gd (gb_k h a5 22) <|
    gb_gd (gb_in h a5 x7) <|
    if (gb_I h a5 x7.toNatClampNeg) = (32 : Int32) then
      gb_gd (gb_k h v0 11) <|
      gb_gd (gb_k h v0 11) <|
      gb_lt (gb_sI h v0 16 ((gb_I h v0 16) + (1 : Int32))) fun h13 =>
      k8 v0 h13
    else
      fbX11_next_46 v0 h
theorem fbX11_next_8_ok {X : gb_X} {k8 : Nat → gb_H → Option (Unit × gb_H)} (hk8 : ∀ v0 h r, k8 v0 h = some r → gb_Ev X 2 mX11_next 8 [some (.ref v0)] [] h (gb_wV r)) (v0 : Nat) (h : gb_H) (r : Unit × gb_H) (hF : fbX11_next_8 k8 v0 h = some r) : gb_Ev X 2 mX11_next 8 [some (.ref v0)] [] h (gb_wV r) := by
  unfold fbX11_next_8 at hF
  refine gb_aload_n dX11_next_8 rfl rfl ?_
  obtain ⟨g1, hF⟩ := gb_gdE hF
  refine gb_getI fX11_124 dX11_next_9 (gb_kE g1) ?_
  refine gb_aload_n dX11_next_12 rfl rfl ?_
  obtain ⟨g2, hF⟩ := gb_gdE hF
  refine gb_getI fX11_118 dX11_next_13 (gb_kE g2) ?_
  refine gb_icmp_ge (tgt := 46) dX11_next_16 (by decide) (fun c3 => ?_) (fun c3 => ?_)
  · replace hF := gb_ifT c3 hF
    exact gb_wk (fbX11_next_46_ok v0 h r hF) (And.intro rfl trivial)
  · replace hF := gb_ifF c3 hF
    refine gb_aload_n dX11_next_19 rfl rfl ?_
    obtain ⟨g4, hF⟩ := gb_gdE hF
    obtain ⟨a5, ea5, hF⟩ := gb_rdE hF
    refine gb_getR fX11_33 dX11_next_20 (gb_kE g4) ea5 ?_
    refine gb_aload_n dX11_next_23 rfl rfl ?_
    obtain ⟨g6, hF⟩ := gb_gdE hF
    refine gb_getI fX11_124 dX11_next_24 (gb_kE g6) ?_
    obtain ⟨x7, ex7, hF⟩ := gb_ltE hF
    refine gb_topI ex7 ?_
    obtain ⟨g8, hF⟩ := gb_gdE hF
    obtain ⟨g9, hF⟩ := gb_gdE hF
    refine gb_bald dX11_next_27 (gb_kE g8) (gb_inE g9) ?_
    refine gb_bipush (v := (32 : Int32)) dX11_next_28 (by decide) ?_
    refine gb_icmp_ne (tgt := 46) dX11_next_30 (by decide) (fun c10 => ?_) (fun c10 => ?_)
    · replace hF := gb_ifF c10 hF
      exact gb_wk (fbX11_next_46_ok v0 h r hF) (And.intro rfl trivial)
    · replace hF := gb_ifT c10 hF
      refine gb_aload_n dX11_next_33 rfl rfl ?_
      refine gb_dup dX11_next_34 rfl ?_
      obtain ⟨g11, hF⟩ := gb_gdE hF
      refine gb_getI fX11_124 dX11_next_35 (gb_kE g11) ?_
      refine gb_iconst (v := (1 : Int32)) dX11_next_38 (by decide) ?_
      refine gb_iadd dX11_next_39 ?_
      obtain ⟨g12, hF⟩ := gb_gdE hF
      obtain ⟨h13, eh13, hF⟩ := gb_ltE hF
      refine gb_putI fX11_124 (gb_nff nf11_16) dX11_next_40 (gb_kE g12) (fun _ => ⟨rfl, rfl⟩) (gb_hp eh13 ?_)
      refine gb_goto (tgt := 8) dX11_next_43 (by decide) ?_
      exact gb_wk (hk8 v0 h13 r hF) (And.intro rfl trivial)
def lpX11_next_8 (n : Nat) (v0 : Nat) (h : gb_H) : Option (Unit × gb_H) := gb_lp (σ := Nat × gb_H) (fun k s => fbX11_next_8 (fun v0 h => k (v0, h)) s.1 s.2) n (v0, h)
theorem lpX11_next_8_ok {X : gb_X}  (n : Nat) (v0 : Nat) (h : gb_H) (r : Unit × gb_H) (hF : lpX11_next_8 n v0 h = some r) : gb_Ev X 2 mX11_next 8 [some (.ref v0)] [] h (gb_wV r) := by
  exact gb_lpE (σ := Nat × gb_H) (P := fun s r => gb_Ev X 2 mX11_next 8 [some (.ref s.1)] [] s.2 (gb_wV r)) (fun k hk s r hs => fbX11_next_8_ok (fun v0 h r e => hk (v0, h) r e) _ _ r hs) n (v0, h) r hF
def fnX11_next (p0 : Nat) (h : gb_H) : Option (Unit × gb_H) :=
  gb_gd (gb_k h p0 11) <|
  gb_gd (gb_k h p0 11) <|
  gb_lt (gb_sI h p0 16 (gb_I h p0 17)) fun h3 =>
  lpX11_next_8 gb_FU p0 h3
theorem fnX11_next_ok {X : gb_X}  {p0 : Nat} (h : gb_H) (r : Unit × gb_H) (hF : fnX11_next p0 h = some r) : gb_Ev X 2 mX11_next 0 (gb_L0 [.ref p0]) [] h (gb_wV r) := by
  unfold fnX11_next at hF
  refine gb_weak (L' := [some (.ref p0)]) (And.intro rfl trivial) ?_
  refine gb_aload_n dX11_next_0 rfl rfl ?_
  refine gb_aload_n dX11_next_1 rfl rfl ?_
  obtain ⟨g1, hF⟩ := gb_gdE hF
  refine gb_getI fX11_121 dX11_next_2 (gb_kE g1) ?_
  obtain ⟨g2, hF⟩ := gb_gdE hF
  obtain ⟨h3, eh3, hF⟩ := gb_ltE hF
  refine gb_putI fX11_124 (gb_nff nf11_16) dX11_next_5 (gb_kE g2) (fun _ => ⟨rfl, rfl⟩) (gb_hp eh3 ?_)
  exact gb_wk (lpX11_next_8_ok gb_FU p0 h3 r hF) (And.intro rfl trivial)
def fbX11_begins_63 (k63 : Nat → Int32 → gb_H → Option (Unit × gb_H)) (v0 : Nat) (v1 : Int32) (h : gb_H) : Option (Unit × gb_H) :=
  if (5 : Int32) ≤ v1 then
    gb_gd (gb_k h v0 11) <|
    gb_bd (fnX11_next v0 h) fun _ h4 =>
    some ((), h4)
  else
    gb_gd (gb_k h v0 11) <|
    gb_rd (gb_R h v0 8) fun a6 =>
    gb_gd (gb_k h a6 21) <|
    gb_gd (gb_in h a6 v1) <|
    gb_lt (gb_sI h a6 v1.toNatClampNeg ((0 : Int32) &&& 1)) fun h9 =>
    gb_lt (v1 + (1 : Int32)) fun x10 =>
    k63 v0 x10 h9
theorem fbX11_begins_63_ok {X : gb_X} {k63 : Nat → Int32 → gb_H → Option (Unit × gb_H)} (hk63 : ∀ v0 v1 h r, k63 v0 v1 h = some r → gb_Ev X 3 mX11_begins 63 [some (.ref v0), some (.int v1)] [] h (gb_wV r)) (v0 : Nat) (v1 : Int32) (h : gb_H) (r : Unit × gb_H) (hF : fbX11_begins_63 k63 v0 v1 h = some r) : gb_Ev X 3 mX11_begins 63 [some (.ref v0), some (.int v1)] [] h (gb_wV r) := by
  unfold fbX11_begins_63 at hF
  refine gb_iload_n dX11_begins_63 rfl rfl ?_
  refine gb_iconst (v := (5 : Int32)) dX11_begins_64 (by decide) ?_
  refine gb_icmp_ge (tgt := 81) dX11_begins_65 (by decide) (fun c1 => ?_) (fun c1 => ?_)
  · replace hF := gb_ifT c1 hF
    refine gb_aload_n dX11_begins_81 rfl rfl ?_
    obtain ⟨g2, hF⟩ := gb_gdE hF
    obtain ⟨x3, h4, cx3, hF⟩ := gb_bdE hF
    refine gb_cV (As := []) (S := []) (v := none) (h1 := h4) (S2 := []) cf11 dX11_begins_82 mtX11_next lX11_139 inX11_next seX11_next (gb_kE g2) (fnX11_next_ok _ _ cx3) (by decide) rfl (Nat.le_of_ble_eq_true rfl) (Nat.le_of_ble_eq_true rfl) rfl rfl ?_
    cases hF
    exact gb_vret dX11_begins_85 rfl
  · replace hF := gb_ifF c1 hF
    refine gb_aload_n dX11_begins_68 rfl rfl ?_
    obtain ⟨g5, hF⟩ := gb_gdE hF
    obtain ⟨a6, ea6, hF⟩ := gb_rdE hF
    refine gb_getR fX11_25 dX11_begins_69 (gb_kE g5) ea6 ?_
    refine gb_iload_n dX11_begins_72 rfl rfl ?_
    refine gb_iconst (v := (0 : Int32)) dX11_begins_73 (by decide) ?_
    obtain ⟨g7, hF⟩ := gb_gdE hF
    obtain ⟨g8, hF⟩ := gb_gdE hF
    obtain ⟨h9, eh9, hF⟩ := gb_ltE hF
    refine gb_zast dX11_begins_74 (gb_kE g7) (gb_inE g8) (gb_hp eh9 ?_)
    obtain ⟨x10, ex10, hF⟩ := gb_ltE hF
    refine gb_iinc (v := x10) (L' := [some (.ref v0), some (.int x10)]) dX11_begins_75 rfl (by rw [ex10]; rfl) (by decide) rfl rfl ?_
    refine gb_goto (tgt := 63) dX11_begins_78 (by decide) ?_
    exact gb_wk (hk63 v0 x10 h9 r hF) (And.intro rfl (And.intro rfl trivial))
def lpX11_begins_63 (n : Nat) (v0 : Nat) (v1 : Int32) (h : gb_H) : Option (Unit × gb_H) := gb_lp (σ := Nat × Int32 × gb_H) (fun k s => fbX11_begins_63 (fun v0 v1 h => k (v0, v1, h)) s.1 s.2.1 s.2.2) n (v0, v1, h)
theorem lpX11_begins_63_ok {X : gb_X}  (n : Nat) (v0 : Nat) (v1 : Int32) (h : gb_H) (r : Unit × gb_H) (hF : lpX11_begins_63 n v0 v1 h = some r) : gb_Ev X 3 mX11_begins 63 [some (.ref v0), some (.int v1)] [] h (gb_wV r) := by
  exact gb_lpE (σ := Nat × Int32 × gb_H) (P := fun s r => gb_Ev X 3 mX11_begins 63 [some (.ref s.1), some (.int s.2.1)] [] s.2.2 (gb_wV r)) (fun k hk s r hs => fbX11_begins_63_ok (fun v0 v1 h r e => hk (v0, v1, h) r e) _ _ _ r hs) n (v0, v1, h) r hF
def fbX11_begins_15 (k15 : Nat → Int32 → gb_H → Option (Unit × gb_H)) (v0 : Nat) (v1 : Int32) (h : gb_H) : Option (Unit × gb_H) :=
  gb_gd (gb_k h v0 11) <|
  if (gb_I h v0 15) ≤ v1 then
    gb_gd (gb_k h v0 11) <|
    gb_lt (gb_sI h v0 17 (0 : Int32)) fun h4 =>
    gb_gd (gb_k h4 v0 11) <|
    gb_lt (gb_sI h4 v0 19 (-1 : Int32)) fun h6 =>
    gb_gd (gb_k h6 v0 11) <|
    gb_lt (gb_sI h6 v0 9 (0 : Int32)) fun h8 =>
    gb_gd (gb_k h8 v0 11) <|
    gb_lt (gb_sI h8 v0 10 (0 : Int32)) fun h10 =>
    lpX11_begins_63 gb_FU v0 (0 : Int32) h10
  else
    gb_gd (gb_k h v0 11) <|
    gb_rd (gb_R h v0 12) fun a12 =>
    gb_gd (gb_k h v0 11) <|
    gb_rd (gb_R h v0 11) fun a14 =>
    gb_gd (gb_k h a14 22) <|
    gb_gd (gb_in h a14 v1) <|
    gb_gd (gb_k h a12 22) <|
    gb_gd (gb_in h a12 v1) <|
    gb_lt (gb_sI h a12 v1.toNatClampNeg (gb_I h a14 v1.toNatClampNeg).toInt8.toInt32) fun h19 =>
    gb_lt (v1 + (1 : Int32)) fun x20 =>
    k15 v0 x20 h19
theorem fbX11_begins_15_ok {X : gb_X} {k15 : Nat → Int32 → gb_H → Option (Unit × gb_H)} (hk15 : ∀ v0 v1 h r, k15 v0 v1 h = some r → gb_Ev X 3 mX11_begins 15 [some (.ref v0), some (.int v1)] [] h (gb_wV r)) (v0 : Nat) (v1 : Int32) (h : gb_H) (r : Unit × gb_H) (hF : fbX11_begins_15 k15 v0 v1 h = some r) : gb_Ev X 3 mX11_begins 15 [some (.ref v0), some (.int v1)] [] h (gb_wV r) := by
  unfold fbX11_begins_15 at hF
  refine gb_iload_n dX11_begins_15 rfl rfl ?_
  refine gb_aload_n dX11_begins_16 rfl rfl ?_
  obtain ⟨g1, hF⟩ := gb_gdE hF
  refine gb_getI fX11_118 dX11_begins_17 (gb_kE g1) ?_
  refine gb_icmp_ge (tgt := 41) dX11_begins_20 (by decide) (fun c2 => ?_) (fun c2 => ?_)
  · replace hF := gb_ifT c2 hF
    refine gb_aload_n dX11_begins_41 rfl rfl ?_
    refine gb_iconst (v := (0 : Int32)) dX11_begins_42 (by decide) ?_
    obtain ⟨g3, hF⟩ := gb_gdE hF
    obtain ⟨h4, eh4, hF⟩ := gb_ltE hF
    refine gb_putI fX11_121 (gb_nff nf11_17) dX11_begins_43 (gb_kE g3) (fun _ => ⟨rfl, rfl⟩) (gb_hp eh4 ?_)
    refine gb_aload_n dX11_begins_46 rfl rfl ?_
    refine gb_iconst (v := (-1 : Int32)) dX11_begins_47 (by decide) ?_
    obtain ⟨g5, hF⟩ := gb_gdE hF
    obtain ⟨h6, eh6, hF⟩ := gb_ltE hF
    refine gb_putI fX11_130 (gb_nff nf11_19) dX11_begins_48 (gb_kE g5) (fun _ => ⟨rfl, rfl⟩) (gb_hp eh6 ?_)
    refine gb_aload_n dX11_begins_51 rfl rfl ?_
    refine gb_iconst (v := (0 : Int32)) dX11_begins_52 (by decide) ?_
    obtain ⟨g7, hF⟩ := gb_gdE hF
    obtain ⟨h8, eh8, hF⟩ := gb_ltE hF
    refine gb_putI fX11_133 (gb_nff nf11_9) dX11_begins_53 (gb_kE g7) (fun _ => ⟨rfl, rfl⟩) (gb_hp eh8 ?_)
    refine gb_aload_n dX11_begins_56 rfl rfl ?_
    refine gb_iconst (v := (0 : Int32)) dX11_begins_57 (by decide) ?_
    obtain ⟨g9, hF⟩ := gb_gdE hF
    obtain ⟨h10, eh10, hF⟩ := gb_ltE hF
    refine gb_putI fX11_136 (gb_nff nf11_10) dX11_begins_58 (gb_kE g9) (fun _ => ⟨rfl, rfl⟩) (gb_hp eh10 ?_)
    refine gb_iconst (v := (0 : Int32)) dX11_begins_61 (by decide) ?_
    refine gb_istore_n (L' := [some (.ref v0), some (.int (0 : Int32))]) dX11_begins_62 rfl (by decide) rfl rfl ?_
    exact gb_wk (lpX11_begins_63_ok gb_FU v0 (0 : Int32) h10 r hF) (And.intro rfl (And.intro rfl trivial))
  · replace hF := gb_ifF c2 hF
    refine gb_aload_n dX11_begins_23 rfl rfl ?_
    obtain ⟨g11, hF⟩ := gb_gdE hF
    obtain ⟨a12, ea12, hF⟩ := gb_rdE hF
    refine gb_getR fX11_33 dX11_begins_24 (gb_kE g11) ea12 ?_
    refine gb_iload_n dX11_begins_27 rfl rfl ?_
    refine gb_aload_n dX11_begins_28 rfl rfl ?_
    obtain ⟨g13, hF⟩ := gb_gdE hF
    obtain ⟨a14, ea14, hF⟩ := gb_rdE hF
    refine gb_getR fX11_29 dX11_begins_29 (gb_kE g13) ea14 ?_
    refine gb_iload_n dX11_begins_32 rfl rfl ?_
    obtain ⟨g15, hF⟩ := gb_gdE hF
    obtain ⟨g16, hF⟩ := gb_gdE hF
    refine gb_bald dX11_begins_33 (gb_kE g15) (gb_inE g16) ?_
    obtain ⟨g17, hF⟩ := gb_gdE hF
    obtain ⟨g18, hF⟩ := gb_gdE hF
    obtain ⟨h19, eh19, hF⟩ := gb_ltE hF
    refine gb_bast dX11_begins_34 (gb_kE g17) (gb_inE g18) (gb_hp eh19 ?_)
    obtain ⟨x20, ex20, hF⟩ := gb_ltE hF
    refine gb_iinc (v := x20) (L' := [some (.ref v0), some (.int x20)]) dX11_begins_35 rfl (by rw [ex20]; rfl) (by decide) rfl rfl ?_
    refine gb_goto (tgt := 15) dX11_begins_38 (by decide) ?_
    exact gb_wk (hk15 v0 x20 h19 r hF) (And.intro rfl (And.intro rfl trivial))
def lpX11_begins_15 (n : Nat) (v0 : Nat) (v1 : Int32) (h : gb_H) : Option (Unit × gb_H) := gb_lp (σ := Nat × Int32 × gb_H) (fun k s => fbX11_begins_15 (fun v0 v1 h => k (v0, v1, h)) s.1 s.2.1 s.2.2) n (v0, v1, h)
theorem lpX11_begins_15_ok {X : gb_X}  (n : Nat) (v0 : Nat) (v1 : Int32) (h : gb_H) (r : Unit × gb_H) (hF : lpX11_begins_15 n v0 v1 h = some r) : gb_Ev X 3 mX11_begins 15 [some (.ref v0), some (.int v1)] [] h (gb_wV r) := by
  exact gb_lpE (σ := Nat × Int32 × gb_H) (P := fun s r => gb_Ev X 3 mX11_begins 15 [some (.ref s.1), some (.int s.2.1)] [] s.2.2 (gb_wV r)) (fun k hk s r hs => fbX11_begins_15_ok (fun v0 v1 h r e => hk (v0, v1, h) r e) _ _ _ r hs) n (v0, v1, h) r hF
def fnX11_begins (p0 : Nat) (h : gb_H) : Option (Unit × gb_H) :=
  gb_gd (gb_k h p0 11) <|
  gb_gd (gb_k h p0 11) <|
  gb_lt (gb_sI h p0 15 (gb_I h p0 14)) fun h3 =>
  gb_gd (gb_k h3 p0 11) <|
  gb_lt (gb_sI h3 p0 14 (0 : Int32)) fun h5 =>
  lpX11_begins_15 gb_FU p0 (0 : Int32) h5
theorem fnX11_begins_ok {X : gb_X}  {p0 : Nat} (h : gb_H) (r : Unit × gb_H) (hF : fnX11_begins p0 h = some r) : gb_Ev X 3 mX11_begins 0 (gb_L0 [.ref p0]) [] h (gb_wV r) := by
  unfold fnX11_begins at hF
  refine gb_weak (L' := [some (.ref p0), none]) (And.intro rfl trivial) ?_
  refine gb_aload_n dX11_begins_0 rfl rfl ?_
  refine gb_aload_n dX11_begins_1 rfl rfl ?_
  obtain ⟨g1, hF⟩ := gb_gdE hF
  refine gb_getI fX11_115 dX11_begins_2 (gb_kE g1) ?_
  obtain ⟨g2, hF⟩ := gb_gdE hF
  obtain ⟨h3, eh3, hF⟩ := gb_ltE hF
  refine gb_putI fX11_118 (gb_nff nf11_15) dX11_begins_5 (gb_kE g2) (fun _ => ⟨rfl, rfl⟩) (gb_hp eh3 ?_)
  refine gb_aload_n dX11_begins_8 rfl rfl ?_
  refine gb_iconst (v := (0 : Int32)) dX11_begins_9 (by decide) ?_
  obtain ⟨g4, hF⟩ := gb_gdE hF
  obtain ⟨h5, eh5, hF⟩ := gb_ltE hF
  refine gb_putI fX11_115 (gb_nff nf11_14) dX11_begins_10 (gb_kE g4) (fun _ => ⟨rfl, rfl⟩) (gb_hp eh5 ?_)
  refine gb_iconst (v := (0 : Int32)) dX11_begins_13 (by decide) ?_
  refine gb_istore_n (L' := [some (.ref p0), some (.int (0 : Int32))]) dX11_begins_14 rfl (by decide) rfl rfl ?_
  exact gb_wk (lpX11_begins_15_ok gb_FU p0 (0 : Int32) h5 r hF) (And.intro rfl (And.intro rfl trivial))
def fbX11_good_13 (s0 : Int32) (h : gb_H) : Option (Int32 × gb_H) :=
  gb_gd (gb_b s0) <|
  some (s0, h)
theorem fbX11_good_13_ok {X : gb_X} (s0 : Int32) (h : gb_H) (r : Int32 × gb_H) (hF : fbX11_good_13 s0 h = some r) : gb_Ev X 1 mX11_good 13 [none] [.int s0] h (gb_wI r) := by
  unfold fbX11_good_13 at hF
  obtain ⟨g1, hF⟩ := gb_gdE hF
  cases hF
  exact gb_zret dX11_good_13 rfl (gb_bE g1)
def fnX11_good (p0 : Nat) (h : gb_H) : Option (Int32 × gb_H) :=
  gb_gd (gb_k h p0 11) <|
  if (gb_I h p0 19) = (-1 : Int32) then
    fbX11_good_13 (1 : Int32) h
  else
    fbX11_good_13 (0 : Int32) h
theorem fnX11_good_ok {X : gb_X}  {p0 : Nat} (h : gb_H) (r : Int32 × gb_H) (hF : fnX11_good p0 h = some r) : gb_Ev X 1 mX11_good 0 (gb_L0 [.ref p0]) [] h (gb_wI r) := by
  unfold fnX11_good at hF
  refine gb_weak (L' := [some (.ref p0)]) (And.intro rfl trivial) ?_
  refine gb_aload_n dX11_good_0 rfl rfl ?_
  obtain ⟨g1, hF⟩ := gb_gdE hF
  refine gb_getI fX11_130 dX11_good_1 (gb_kE g1) ?_
  refine gb_iconst (v := (-1 : Int32)) dX11_good_4 (by decide) ?_
  refine gb_icmp_ne (tgt := 12) dX11_good_5 (by decide) (fun c2 => ?_) (fun c2 => ?_)
  · replace hF := gb_ifF c2 hF
    refine gb_iconst (v := (0 : Int32)) dX11_good_12 (by decide) ?_
    exact gb_wk (fbX11_good_13_ok (0 : Int32) h r hF) trivial
  · replace hF := gb_ifT c2 hF
    refine gb_iconst (v := (1 : Int32)) dX11_good_8 (by decide) ?_
    refine gb_goto (tgt := 13) dX11_good_9 (by decide) ?_
    exact gb_wk (fbX11_good_13_ok (1 : Int32) h r hF) trivial
def fbX11_faults_15 (h : gb_H) : Option (Unit × gb_H) :=
  some ((), h)
theorem fbX11_faults_15_ok {X : gb_X} (h : gb_H) (r : Unit × gb_H) (hF : fbX11_faults_15 h = some r) : gb_Ev X 2 mX11_faults 15 [none] [] h (gb_wV r) := by
  unfold fbX11_faults_15 at hF
  cases hF
  exact gb_vret dX11_faults_15 rfl
def fnX11_faults (p0 : Nat) (h : gb_H) : Option (Unit × gb_H) :=
  gb_gd (gb_k h p0 11) <|
  gb_bd (fnX11_good p0 h) fun x2 h3 =>
  if x2 = 0 then
    fbX11_faults_15 h3
  else
    gb_gd (gb_k h3 p0 11) <|
    gb_gd (gb_k h3 p0 11) <|
    gb_lt (gb_sI h3 p0 19 (gb_I h3 p0 16)) fun h7 =>
    fbX11_faults_15 h7
theorem fnX11_faults_ok {X : gb_X}  {p0 : Nat} (h : gb_H) (r : Unit × gb_H) (hF : fnX11_faults p0 h = some r) : gb_Ev X 2 mX11_faults 0 (gb_L0 [.ref p0]) [] h (gb_wV r) := by
  unfold fnX11_faults at hF
  refine gb_weak (L' := [some (.ref p0)]) (And.intro rfl trivial) ?_
  refine gb_aload_n dX11_faults_0 rfl rfl ?_
  obtain ⟨g1, hF⟩ := gb_gdE hF
  obtain ⟨x2, h3, cx2, hF⟩ := gb_bdE hF
  refine gb_cV (As := []) (S := []) (v := some (.int x2)) (h1 := h3) (S2 := [.int x2]) cf11 dX11_faults_1 mtX11_good lX11_146 inX11_good seX11_good (gb_kE g1) (fnX11_good_ok _ _ cx2) (by decide) rfl (Nat.le_of_ble_eq_true rfl) (Nat.le_of_ble_eq_true rfl) rfl rfl ?_
  refine gb_if_eq (tgt := 15) dX11_faults_4 (by decide) (fun c4 => ?_) (fun c4 => ?_)
  · replace hF := gb_ifT c4 hF
    exact gb_wk (fbX11_faults_15_ok h3 r hF) trivial
  · replace hF := gb_ifF c4 hF
    refine gb_aload_n dX11_faults_7 rfl rfl ?_
    refine gb_aload_n dX11_faults_8 rfl rfl ?_
    obtain ⟨g5, hF⟩ := gb_gdE hF
    refine gb_getI fX11_124 dX11_faults_9 (gb_kE g5) ?_
    obtain ⟨g6, hF⟩ := gb_gdE hF
    obtain ⟨h7, eh7, hF⟩ := gb_ltE hF
    refine gb_putI fX11_130 (gb_nff nf11_19) dX11_faults_12 (gb_kE g6) (fun _ => ⟨rfl, rfl⟩) (gb_hp eh7 ?_)
    exact gb_wk (fbX11_faults_15_ok h7 r hF) trivial
def fbX11_fresh_33 (k10 : Nat → Int32 → Int32 → gb_H → Option (Int32 × gb_H)) (v0 : Nat) (v1 : Int32) (v2 : Int32) (s0 : Nat) (s1 : Int32) (s2 : Int32) (h : gb_H) : Option (Int32 × gb_H) :=
  gb_gd (gb_k h s0 20) <|
  gb_gd (gb_in h s0 s1) <|
  gb_lt (gb_sI h s0 s1.toNatClampNeg s2) fun h3 =>
  gb_lt (v2 + (1 : Int32)) fun x4 =>
  k10 v0 v1 x4 h3
theorem fbX11_fresh_33_ok {X : gb_X} {k10 : Nat → Int32 → Int32 → gb_H → Option (Int32 × gb_H)} (hk10 : ∀ v0 v1 v2 h r, k10 v0 v1 v2 h = some r → gb_Ev X 1 mX11_fresh 10 [some (.ref v0), some (.int v1), some (.int v2)] [] h (gb_wI r)) (v0 : Nat) (v1 : Int32) (v2 : Int32) (s0 : Nat) (s1 : Int32) (s2 : Int32) (h : gb_H) (r : Int32 × gb_H) (hF : fbX11_fresh_33 k10 v0 v1 v2 s0 s1 s2 h = some r) : gb_Ev X 1 mX11_fresh 33 [some (.ref v0), some (.int v1), some (.int v2)] [.int s2, .int s1, .ref s0] h (gb_wI r) := by
  unfold fbX11_fresh_33 at hF
  obtain ⟨g1, hF⟩ := gb_gdE hF
  obtain ⟨g2, hF⟩ := gb_gdE hF
  obtain ⟨h3, eh3, hF⟩ := gb_ltE hF
  refine gb_iast dX11_fresh_33 (gb_kE g1) (gb_inE g2) (gb_hp eh3 ?_)
  obtain ⟨x4, ex4, hF⟩ := gb_ltE hF
  refine gb_iinc (v := x4) (L' := [some (.ref v0), some (.int v1), some (.int x4)]) dX11_fresh_34 rfl (by rw [ex4]; rfl) (by decide) rfl rfl ?_
  refine gb_goto (tgt := 10) dX11_fresh_37 (by decide) ?_
  exact gb_wk (hk10 v0 v1 x4 h3 r hF) (And.intro rfl (And.intro rfl (And.intro rfl trivial)))
def fbX11_fresh_10 (k10 : Nat → Int32 → Int32 → gb_H → Option (Int32 × gb_H)) (v0 : Nat) (v1 : Int32) (v2 : Int32) (h : gb_H) : Option (Int32 × gb_H) :=
  if (8 : Int32) ≤ v2 then
    some (v1, h)
  else
    gb_gd (gb_k h v0 11) <|
    gb_rd (gb_R h v0 7) fun a3 =>
    if (3 : Int32) ≤ v2 then
      fbX11_fresh_33 k10 v0 v1 v2 a3 (v1 + v2) (-1 : Int32) h
    else
      fbX11_fresh_33 k10 v0 v1 v2 a3 (v1 + v2) (0 : Int32) h
theorem fbX11_fresh_10_ok {X : gb_X} {k10 : Nat → Int32 → Int32 → gb_H → Option (Int32 × gb_H)} (hk10 : ∀ v0 v1 v2 h r, k10 v0 v1 v2 h = some r → gb_Ev X 1 mX11_fresh 10 [some (.ref v0), some (.int v1), some (.int v2)] [] h (gb_wI r)) (v0 : Nat) (v1 : Int32) (v2 : Int32) (h : gb_H) (r : Int32 × gb_H) (hF : fbX11_fresh_10 k10 v0 v1 v2 h = some r) : gb_Ev X 1 mX11_fresh 10 [some (.ref v0), some (.int v1), some (.int v2)] [] h (gb_wI r) := by
  unfold fbX11_fresh_10 at hF
  refine gb_iload_n dX11_fresh_10 rfl rfl ?_
  refine gb_bipush (v := (8 : Int32)) dX11_fresh_11 (by decide) ?_
  refine gb_icmp_ge (tgt := 40) dX11_fresh_13 (by decide) (fun c1 => ?_) (fun c1 => ?_)
  · replace hF := gb_ifT c1 hF
    refine gb_iload_n dX11_fresh_40 rfl rfl ?_
    cases hF
    exact gb_iret dX11_fresh_41 rfl
  · replace hF := gb_ifF c1 hF
    refine gb_aload_n dX11_fresh_16 rfl rfl ?_
    obtain ⟨g2, hF⟩ := gb_gdE hF
    obtain ⟨a3, ea3, hF⟩ := gb_rdE hF
    refine gb_getR fX11_22 dX11_fresh_17 (gb_kE g2) ea3 ?_
    refine gb_iload_n dX11_fresh_20 rfl rfl ?_
    refine gb_iload_n dX11_fresh_21 rfl rfl ?_
    refine gb_iadd dX11_fresh_22 ?_
    refine gb_iload_n dX11_fresh_23 rfl rfl ?_
    refine gb_iconst (v := (3 : Int32)) dX11_fresh_24 (by decide) ?_
    refine gb_icmp_ge (tgt := 32) dX11_fresh_25 (by decide) (fun c4 => ?_) (fun c4 => ?_)
    · replace hF := gb_ifT c4 hF
      refine gb_iconst (v := (-1 : Int32)) dX11_fresh_32 (by decide) ?_
      exact gb_wk (fbX11_fresh_33_ok hk10 v0 v1 v2 a3 (v1 + v2) (-1 : Int32) h r hF) (And.intro rfl (And.intro rfl (And.intro rfl trivial)))
    · replace hF := gb_ifF c4 hF
      refine gb_iconst (v := (0 : Int32)) dX11_fresh_28 (by decide) ?_
      refine gb_goto (tgt := 33) dX11_fresh_29 (by decide) ?_
      exact gb_wk (fbX11_fresh_33_ok hk10 v0 v1 v2 a3 (v1 + v2) (0 : Int32) h r hF) (And.intro rfl (And.intro rfl (And.intro rfl trivial)))
def lpX11_fresh_10 (n : Nat) (v0 : Nat) (v1 : Int32) (v2 : Int32) (h : gb_H) : Option (Int32 × gb_H) := gb_lp (σ := Nat × Int32 × Int32 × gb_H) (fun k s => fbX11_fresh_10 (fun v0 v1 v2 h => k (v0, v1, v2, h)) s.1 s.2.1 s.2.2.1 s.2.2.2) n (v0, v1, v2, h)
theorem lpX11_fresh_10_ok {X : gb_X}  (n : Nat) (v0 : Nat) (v1 : Int32) (v2 : Int32) (h : gb_H) (r : Int32 × gb_H) (hF : lpX11_fresh_10 n v0 v1 v2 h = some r) : gb_Ev X 1 mX11_fresh 10 [some (.ref v0), some (.int v1), some (.int v2)] [] h (gb_wI r) := by
  exact gb_lpE (σ := Nat × Int32 × Int32 × gb_H) (P := fun s r => gb_Ev X 1 mX11_fresh 10 [some (.ref s.1), some (.int s.2.1), some (.int s.2.2.1)] [] s.2.2.2 (gb_wI r)) (fun k hk s r hs => fbX11_fresh_10_ok (fun v0 v1 v2 h r e => hk (v0, v1, v2, h) r e) _ _ _ _ r hs) n (v0, v1, v2, h) r hF
def fnX11_fresh (p0 : Nat) (h : gb_H) : Option (Int32 × gb_H) :=
  gb_gd (gb_k h p0 11) <|
  gb_lt ((8 : Int32) * (gb_I h p0 9)) fun x2 =>
  lpX11_fresh_10 gb_FU p0 x2 (0 : Int32) h
theorem fnX11_fresh_ok {X : gb_X}  {p0 : Nat} (h : gb_H) (r : Int32 × gb_H) (hF : fnX11_fresh p0 h = some r) : gb_Ev X 1 mX11_fresh 0 (gb_L0 [.ref p0]) [] h (gb_wI r) := by
  unfold fnX11_fresh at hF
  refine gb_weak (L' := [some (.ref p0), none, none]) (And.intro rfl trivial) ?_
  refine gb_bipush (v := (8 : Int32)) dX11_fresh_0 (by decide) ?_
  refine gb_aload_n dX11_fresh_2 rfl rfl ?_
  obtain ⟨g1, hF⟩ := gb_gdE hF
  refine gb_getI fX11_133 dX11_fresh_3 (gb_kE g1) ?_
  refine gb_imul dX11_fresh_6 ?_
  obtain ⟨x2, ex2, hF⟩ := gb_ltE hF
  refine gb_topI ex2 ?_
  refine gb_istore_n (L' := [some (.ref p0), some (.int x2), none]) dX11_fresh_7 rfl (by decide) rfl rfl ?_
  refine gb_iconst (v := (0 : Int32)) dX11_fresh_8 (by decide) ?_
  refine gb_istore_n (L' := [some (.ref p0), some (.int x2), some (.int (0 : Int32))]) dX11_fresh_9 rfl (by decide) rfl rfl ?_
  exact gb_wk (lpX11_fresh_10_ok gb_FU p0 x2 (0 : Int32) h r hF) (And.intro rfl (And.intro rfl (And.intro rfl trivial)))
def fbX11_isWord_44 (h : gb_H) : Option (Int32 × gb_H) :=
  some ((0 : Int32), h)
theorem fbX11_isWord_44_ok {X : gb_X} (h : gb_H) (r : Int32 × gb_H) (hF : fbX11_isWord_44 h = some r) : gb_Ev X 1 mX11_isWord 44 [none, none, none, none, none, none] [] h (gb_wI r) := by
  unfold fbX11_isWord_44 at hF
  refine gb_iconst (v := (0 : Int32)) dX11_isWord_44 (by decide) ?_
  cases hF
  exact gb_zret dX11_isWord_45 rfl (by decide)
def fbX11_isWord_70 (s0 : Int32) (h : gb_H) : Option (Int32 × gb_H) :=
  gb_gd (gb_b s0) <|
  some (s0, h)
theorem fbX11_isWord_70_ok {X : gb_X} (s0 : Int32) (h : gb_H) (r : Int32 × gb_H) (hF : fbX11_isWord_70 s0 h = some r) : gb_Ev X 1 mX11_isWord 70 [none, none, none, none, none, none] [.int s0] h (gb_wI r) := by
  unfold fbX11_isWord_70 at hF
  obtain ⟨g1, hF⟩ := gb_gdE hF
  cases hF
  exact gb_zret dX11_isWord_70 rfl (gb_bE g1)
def fbX11_isWord_8 (k8 : Nat → Int64 → Int32 → gb_H → Option (Int32 × gb_H)) (v0 : Nat) (v3 : Int64) (v5 : Int32) (h : gb_H) : Option (Int32 × gb_H) :=
  if v3 ≤ (0 : Int64) then
    gb_gd (gb_k h v0 11) <|
    if v5 = (gb_I h v0 17) then
      fbX11_isWord_70 (1 : Int32) h
    else
      fbX11_isWord_70 (0 : Int32) h
  else
    gb_gd (gb_k h v0 11) <|
    if (gb_I h v0 17) ≤ v5 then
      fbX11_isWord_44 h
    else
      gb_gd (gb_k h v0 11) <|
      gb_rd (gb_R h v0 12) fun a7 =>
      gb_gd (gb_k h a7 22) <|
      gb_gd (gb_in h a7 v5) <|
      if ((gb_I h a7 v5.toNatClampNeg).toInt64) = ((96 : Int64) + (v3 &&& (31 : Int64))) then
        gb_lt (v3 >>> ((5 : Int32).toInt64 &&& 63)) fun x11 =>
        gb_lt (v5 + (1 : Int32)) fun x12 =>
        k8 v0 x11 x12 h
      else
        fbX11_isWord_44 h
theorem fbX11_isWord_8_ok {X : gb_X} {k8 : Nat → Int64 → Int32 → gb_H → Option (Int32 × gb_H)} (hk8 : ∀ v0 v3 v5 h r, k8 v0 v3 v5 h = some r → gb_Ev X 1 mX11_isWord 8 [some (.ref v0), none, none, some (.long v3), none, some (.int v5)] [] h (gb_wI r)) (v0 : Nat) (v3 : Int64) (v5 : Int32) (h : gb_H) (r : Int32 × gb_H) (hF : fbX11_isWord_8 k8 v0 v3 v5 h = some r) : gb_Ev X 1 mX11_isWord 8 [some (.ref v0), none, none, some (.long v3), none, some (.int v5)] [] h (gb_wI r) := by
  unfold fbX11_isWord_8 at hF
  refine gb_lload_n dX11_isWord_8 rfl rfl ?_
  refine gb_lconst (v := (0 : Int64)) dX11_isWord_9 (by decide) ?_
  refine gb_lc_le (tgt := 56) dX11_isWord_10 dX11_isWord_11 (by decide) (fun c1 => ?_) (fun c1 => ?_)
  · replace hF := gb_ifT c1 hF
    refine gb_iload dX11_isWord_56 rfl ?_
    refine gb_aload_n dX11_isWord_58 rfl rfl ?_
    obtain ⟨g2, hF⟩ := gb_gdE hF
    refine gb_getI fX11_121 dX11_isWord_59 (gb_kE g2) ?_
    refine gb_icmp_ne (tgt := 69) dX11_isWord_62 (by decide) (fun c3 => ?_) (fun c3 => ?_)
    · replace hF := gb_ifF c3 hF
      refine gb_iconst (v := (0 : Int32)) dX11_isWord_69 (by decide) ?_
      exact gb_wk (fbX11_isWord_70_ok (0 : Int32) h r hF) trivial
    · replace hF := gb_ifT c3 hF
      refine gb_iconst (v := (1 : Int32)) dX11_isWord_65 (by decide) ?_
      refine gb_goto (tgt := 70) dX11_isWord_66 (by decide) ?_
      exact gb_wk (fbX11_isWord_70_ok (1 : Int32) h r hF) trivial
  · replace hF := gb_ifF c1 hF
    refine gb_iload dX11_isWord_14 rfl ?_
    refine gb_aload_n dX11_isWord_16 rfl rfl ?_
    obtain ⟨g4, hF⟩ := gb_gdE hF
    refine gb_getI fX11_121 dX11_isWord_17 (gb_kE g4) ?_
    refine gb_icmp_ge (tgt := 44) dX11_isWord_20 (by decide) (fun c5 => ?_) (fun c5 => ?_)
    · replace hF := gb_ifT c5 hF
      exact gb_wk (fbX11_isWord_44_ok h r hF) trivial
    · replace hF := gb_ifF c5 hF
      refine gb_aload_n dX11_isWord_23 rfl rfl ?_
      obtain ⟨g6, hF⟩ := gb_gdE hF
      obtain ⟨a7, ea7, hF⟩ := gb_rdE hF
      refine gb_getR fX11_33 dX11_isWord_24 (gb_kE g6) ea7 ?_
      refine gb_iload dX11_isWord_27 rfl ?_
      obtain ⟨g8, hF⟩ := gb_gdE hF
      obtain ⟨g9, hF⟩ := gb_gdE hF
      refine gb_bald dX11_isWord_29 (gb_kE g8) (gb_inE g9) ?_
      refine gb_i2l dX11_isWord_30 ?_
      refine gb_ldc2 (v := (96 : Int64)) dX11_isWord_31 kX11_142 ?_
      refine gb_lload_n dX11_isWord_34 rfl rfl ?_
      refine gb_ldc2 (v := (31 : Int64)) dX11_isWord_35 kX11_144 ?_
      refine gb_land dX11_isWord_38 ?_
      refine gb_ladd dX11_isWord_39 ?_
      refine gb_lc_eq (tgt := 46) dX11_isWord_40 dX11_isWord_41 (by decide) (fun c10 => ?_) (fun c10 => ?_)
      · replace hF := gb_ifT c10 hF
        refine gb_lload_n dX11_isWord_46 rfl rfl ?_
        refine gb_iconst (v := (5 : Int32)) dX11_isWord_47 (by decide) ?_
        refine gb_lshr dX11_isWord_48 ?_
        obtain ⟨x11, ex11, hF⟩ := gb_ltE hF
        refine gb_topJ ex11 ?_
        refine gb_lstore_n (L' := [some (.ref v0), none, none, some (.long x11), none, some (.int v5)]) dX11_isWord_49 rfl (by decide) rfl rfl ?_
        obtain ⟨x12, ex12, hF⟩ := gb_ltE hF
        refine gb_iinc (v := x12) (L' := [some (.ref v0), none, none, some (.long x11), none, some (.int x12)]) dX11_isWord_50 rfl (by rw [ex12]; rfl) (by decide) rfl rfl ?_
        refine gb_goto (tgt := 8) dX11_isWord_53 (by decide) ?_
        exact gb_wk (hk8 v0 x11 x12 h r hF) (And.intro rfl (And.intro rfl (And.intro rfl trivial)))
      · replace hF := gb_ifF c10 hF
        exact gb_wk (fbX11_isWord_44_ok h r hF) trivial
def lpX11_isWord_8 (n : Nat) (v0 : Nat) (v3 : Int64) (v5 : Int32) (h : gb_H) : Option (Int32 × gb_H) := gb_lp (σ := Nat × Int64 × Int32 × gb_H) (fun k s => fbX11_isWord_8 (fun v0 v3 v5 h => k (v0, v3, v5, h)) s.1 s.2.1 s.2.2.1 s.2.2.2) n (v0, v3, v5, h)
theorem lpX11_isWord_8_ok {X : gb_X}  (n : Nat) (v0 : Nat) (v3 : Int64) (v5 : Int32) (h : gb_H) (r : Int32 × gb_H) (hF : lpX11_isWord_8 n v0 v3 v5 h = some r) : gb_Ev X 1 mX11_isWord 8 [some (.ref v0), none, none, some (.long v3), none, some (.int v5)] [] h (gb_wI r) := by
  exact gb_lpE (σ := Nat × Int64 × Int32 × gb_H) (P := fun s r => gb_Ev X 1 mX11_isWord 8 [some (.ref s.1), none, none, some (.long s.2.1), none, some (.int s.2.2.1)] [] s.2.2.2 (gb_wI r)) (fun k hk s r hs => fbX11_isWord_8_ok (fun v0 v3 v5 h r e => hk (v0, v3, v5, h) r e) _ _ _ _ r hs) n (v0, v3, v5, h) r hF
def fnX11_isWord (p0 : Nat) (p1 : Int64) (h : gb_H) : Option (Int32 × gb_H) :=
  gb_gd (gb_k h p0 11) <|
  gb_lt (gb_I h p0 16) fun x2 =>
  lpX11_isWord_8 gb_FU p0 p1 x2 h
theorem fnX11_isWord_ok {X : gb_X}  {p0 : Nat} {p1 : Int64} (h : gb_H) (r : Int32 × gb_H) (hF : fnX11_isWord p0 p1 h = some r) : gb_Ev X 1 mX11_isWord 0 (gb_L0 [.ref p0, .long p1]) [] h (gb_wI r) := by
  unfold fnX11_isWord at hF
  refine gb_weak (L' := [some (.ref p0), some (.long p1), none, none, none, none]) (And.intro rfl (And.intro rfl trivial)) ?_
  refine gb_lload_n dX11_isWord_0 rfl rfl ?_
  refine gb_lstore_n (L' := [some (.ref p0), some (.long p1), none, some (.long p1), none, none]) dX11_isWord_1 rfl (by decide) rfl rfl ?_
  refine gb_aload_n dX11_isWord_2 rfl rfl ?_
  obtain ⟨g1, hF⟩ := gb_gdE hF
  refine gb_getI fX11_124 dX11_isWord_3 (gb_kE g1) ?_
  obtain ⟨x2, ex2, hF⟩ := gb_ltE hF
  refine gb_topI ex2 ?_
  refine gb_istore (L' := [some (.ref p0), some (.long p1), none, some (.long p1), none, some (.int x2)]) dX11_isWord_6 (by decide) rfl rfl ?_
  exact gb_wk (lpX11_isWord_8_ok gb_FU p0 p1 x2 h r hF) (And.intro rfl (And.intro rfl (And.intro rfl trivial)))
def fbX11_takesWord_29 (v3 : Int32) (h : gb_H) : Option (Int32 × gb_H) :=
  gb_gd (gb_b v3) <|
  some (v3, h)
theorem fbX11_takesWord_29_ok {X : gb_X} (v3 : Int32) (h : gb_H) (r : Int32 × gb_H) (hF : fbX11_takesWord_29 v3 h = some r) : gb_Ev X 3 mX11_takesWord 29 [none, none, none, some (.int v3)] [] h (gb_wI r) := by
  unfold fbX11_takesWord_29 at hF
  refine gb_iload_n dX11_takesWord_29 rfl rfl ?_
  obtain ⟨g1, hF⟩ := gb_gdE hF
  cases hF
  exact gb_zret dX11_takesWord_30 rfl (gb_bE g1)
def fbX11_takesWord_20 (v0 : Nat) (s0 : Int32) (h : gb_H) : Option (Int32 × gb_H) :=
  if s0 = 0 then
    fbX11_takesWord_29 s0 h
  else
    gb_gd (gb_k h v0 11) <|
    gb_bd (fnX11_next v0 h) fun _ h4 =>
    fbX11_takesWord_29 s0 h4
theorem fbX11_takesWord_20_ok {X : gb_X} (v0 : Nat) (s0 : Int32) (h : gb_H) (r : Int32 × gb_H) (hF : fbX11_takesWord_20 v0 s0 h = some r) : gb_Ev X 3 mX11_takesWord 20 [some (.ref v0), none, none, none] [.int s0] h (gb_wI r) := by
  unfold fbX11_takesWord_20 at hF
  refine gb_istore_n (L' := [some (.ref v0), none, none, some (.int s0)]) dX11_takesWord_20 rfl (by decide) rfl rfl ?_
  refine gb_iload_n dX11_takesWord_21 rfl rfl ?_
  refine gb_if_eq (tgt := 29) dX11_takesWord_22 (by decide) (fun c1 => ?_) (fun c1 => ?_)
  · replace hF := gb_ifT c1 hF
    exact gb_wk (fbX11_takesWord_29_ok s0 h r hF) (And.intro rfl trivial)
  · replace hF := gb_ifF c1 hF
    refine gb_aload_n dX11_takesWord_25 rfl rfl ?_
    obtain ⟨g2, hF⟩ := gb_gdE hF
    obtain ⟨x3, h4, cx3, hF⟩ := gb_bdE hF
    refine gb_cV (As := []) (S := []) (v := none) (h1 := h4) (S2 := []) cf11 dX11_takesWord_26 mtX11_next lX11_139 inX11_next seX11_next (gb_kE g2) (fnX11_next_ok _ _ cx3) (by decide) rfl (Nat.le_of_ble_eq_true rfl) (Nat.le_of_ble_eq_true rfl) rfl rfl ?_
    exact gb_wk (fbX11_takesWord_29_ok s0 h4 r hF) (And.intro rfl trivial)
def fbX11_takesWord_19 (v0 : Nat) (h : gb_H) : Option (Int32 × gb_H) :=
  fbX11_takesWord_20 v0 (0 : Int32) h
theorem fbX11_takesWord_19_ok {X : gb_X} (v0 : Nat) (h : gb_H) (r : Int32 × gb_H) (hF : fbX11_takesWord_19 v0 h = some r) : gb_Ev X 3 mX11_takesWord 19 [some (.ref v0), none, none, none] [] h (gb_wI r) := by
  unfold fbX11_takesWord_19 at hF
  refine gb_iconst (v := (0 : Int32)) dX11_takesWord_19 (by decide) ?_
  exact gb_wk (fbX11_takesWord_20_ok v0 (0 : Int32) h r hF) (And.intro rfl trivial)
def fnX11_takesWord (p0 : Nat) (p1 : Int64) (h : gb_H) : Option (Int32 × gb_H) :=
  gb_gd (gb_k h p0 11) <|
  gb_bd (fnX11_good p0 h) fun x2 h3 =>
  if x2 = 0 then
    fbX11_takesWord_19 p0 h3
  else
    gb_gd (gb_k h3 p0 11) <|
    gb_bd (fnX11_isWord p0 p1 h3) fun x6 h7 =>
    if x6 = 0 then
      fbX11_takesWord_19 p0 h7
    else
      fbX11_takesWord_20 p0 (1 : Int32) h7
theorem fnX11_takesWord_ok {X : gb_X}  {p0 : Nat} {p1 : Int64} (h : gb_H) (r : Int32 × gb_H) (hF : fnX11_takesWord p0 p1 h = some r) : gb_Ev X 3 mX11_takesWord 0 (gb_L0 [.ref p0, .long p1]) [] h (gb_wI r) := by
  unfold fnX11_takesWord at hF
  refine gb_weak (L' := [some (.ref p0), some (.long p1), none, none]) (And.intro rfl (And.intro rfl trivial)) ?_
  refine gb_aload_n dX11_takesWord_0 rfl rfl ?_
  obtain ⟨g1, hF⟩ := gb_gdE hF
  obtain ⟨x2, h3, cx2, hF⟩ := gb_bdE hF
  refine gb_cV (As := []) (S := []) (v := some (.int x2)) (h1 := h3) (S2 := [.int x2]) cf11 dX11_takesWord_1 mtX11_good lX11_146 inX11_good seX11_good (gb_kE g1) (fnX11_good_ok _ _ cx2) (by decide) rfl (Nat.le_of_ble_eq_true rfl) (Nat.le_of_ble_eq_true rfl) rfl rfl ?_
  refine gb_if_eq (tgt := 19) dX11_takesWord_4 (by decide) (fun c4 => ?_) (fun c4 => ?_)
  · replace hF := gb_ifT c4 hF
    exact gb_wk (fbX11_takesWord_19_ok p0 h3 r hF) (And.intro rfl trivial)
  · replace hF := gb_ifF c4 hF
    refine gb_aload_n dX11_takesWord_7 rfl rfl ?_
    refine gb_lload_n dX11_takesWord_8 rfl rfl ?_
    obtain ⟨g5, hF⟩ := gb_gdE hF
    obtain ⟨x6, h7, cx6, hF⟩ := gb_bdE hF
    refine gb_cV (As := [.long p1]) (S := []) (v := some (.int x6)) (h1 := h7) (S2 := [.int x6]) cf11 dX11_takesWord_9 mtX11_isWord lX11_150 inX11_isWord seX11_isWord (gb_kE g5) (fnX11_isWord_ok _ _ cx6) (by decide) rfl (Nat.le_of_ble_eq_true rfl) (Nat.le_of_ble_eq_true rfl) rfl rfl ?_
    refine gb_if_eq (tgt := 19) dX11_takesWord_12 (by decide) (fun c8 => ?_) (fun c8 => ?_)
    · replace hF := gb_ifT c8 hF
      exact gb_wk (fbX11_takesWord_19_ok p0 h7 r hF) (And.intro rfl trivial)
    · replace hF := gb_ifF c8 hF
      refine gb_iconst (v := (1 : Int32)) dX11_takesWord_15 (by decide) ?_
      refine gb_goto (tgt := 20) dX11_takesWord_16 (by decide) ?_
      exact gb_wk (fbX11_takesWord_20_ok p0 (1 : Int32) h7 r hF) (And.intro rfl trivial)
def fbX11_number_68 (k37 : Nat → Int32 → Int32 → Int32 → gb_H → Option (Int32 × gb_H)) (v0 : Nat) (v1 : Int32) (v3 : Int32) (s0 : Int32) (h : gb_H) : Option (Int32 × gb_H) :=
  gb_lt (v3 + (1 : Int32)) fun x1 =>
  k37 v0 v1 s0 x1 h
theorem fbX11_number_68_ok {X : gb_X} {k37 : Nat → Int32 → Int32 → Int32 → gb_H → Option (Int32 × gb_H)} (hk37 : ∀ v0 v1 v2 v3 h r, k37 v0 v1 v2 v3 h = some r → gb_Ev X 3 mX11_number 37 [some (.ref v0), some (.int v1), some (.int v2), some (.int v3)] [] h (gb_wI r)) (v0 : Nat) (v1 : Int32) (v3 : Int32) (s0 : Int32) (h : gb_H) (r : Int32 × gb_H) (hF : fbX11_number_68 k37 v0 v1 v3 s0 h = some r) : gb_Ev X 3 mX11_number 68 [some (.ref v0), some (.int v1), none, some (.int v3)] [.int s0] h (gb_wI r) := by
  unfold fbX11_number_68 at hF
  refine gb_istore_n (L' := [some (.ref v0), some (.int v1), some (.int s0), some (.int v3)]) dX11_number_68 rfl (by decide) rfl rfl ?_
  obtain ⟨x1, ex1, hF⟩ := gb_ltE hF
  refine gb_iinc (v := x1) (L' := [some (.ref v0), some (.int v1), some (.int s0), some (.int x1)]) dX11_number_69 rfl (by rw [ex1]; rfl) (by decide) rfl rfl ?_
  refine gb_goto (tgt := 37) dX11_number_72 (by decide) ?_
  exact gb_wk (hk37 v0 v1 s0 x1 h r hF) (And.intro rfl (And.intro rfl (And.intro rfl (And.intro rfl trivial))))
def fbX11_number_37 (k37 : Nat → Int32 → Int32 → Int32 → gb_H → Option (Int32 × gb_H)) (v0 : Nat) (v1 : Int32) (v2 : Int32) (v3 : Int32) (h : gb_H) : Option (Int32 × gb_H) :=
  gb_gd (gb_k h v0 11) <|
  if (gb_I h v0 17) ≤ v3 then
    if v2 ≤ v1 then
      gb_gd (gb_k h v0 11) <|
      gb_bd (fnX11_next v0 h) fun _ h6 =>
      some (v2, h6)
    else
      gb_gd (gb_k h v0 11) <|
      gb_bd (fnX11_faults v0 h) fun _ h9 =>
      some ((0 : Int32), h9)
  else
    if v2 ≤ v1 then
      gb_gd (gb_k h v0 11) <|
      gb_rd (gb_R h v0 12) fun a12 =>
      gb_gd (gb_k h a12 22) <|
      gb_gd (gb_in h a12 v3) <|
      fbX11_number_68 k37 v0 v1 v3 ((((10 : Int32) * v2) + (gb_I h a12 v3.toNatClampNeg)) - (48 : Int32)) h
    else
      fbX11_number_68 k37 v0 v1 v3 v2 h
theorem fbX11_number_37_ok {X : gb_X} {k37 : Nat → Int32 → Int32 → Int32 → gb_H → Option (Int32 × gb_H)} (hk37 : ∀ v0 v1 v2 v3 h r, k37 v0 v1 v2 v3 h = some r → gb_Ev X 3 mX11_number 37 [some (.ref v0), some (.int v1), some (.int v2), some (.int v3)] [] h (gb_wI r)) (v0 : Nat) (v1 : Int32) (v2 : Int32) (v3 : Int32) (h : gb_H) (r : Int32 × gb_H) (hF : fbX11_number_37 k37 v0 v1 v2 v3 h = some r) : gb_Ev X 3 mX11_number 37 [some (.ref v0), some (.int v1), some (.int v2), some (.int v3)] [] h (gb_wI r) := by
  unfold fbX11_number_37 at hF
  refine gb_iload_n dX11_number_37 rfl rfl ?_
  refine gb_aload_n dX11_number_38 rfl rfl ?_
  obtain ⟨g1, hF⟩ := gb_gdE hF
  refine gb_getI fX11_121 dX11_number_39 (gb_kE g1) ?_
  refine gb_icmp_ge (tgt := 75) dX11_number_42 (by decide) (fun c2 => ?_) (fun c2 => ?_)
  · replace hF := gb_ifT c2 hF
    refine gb_iload_n dX11_number_75 rfl rfl ?_
    refine gb_iload_n dX11_number_76 rfl rfl ?_
    refine gb_icmp_le (tgt := 86) dX11_number_77 (by decide) (fun c3 => ?_) (fun c3 => ?_)
    · replace hF := gb_ifT c3 hF
      refine gb_aload_n dX11_number_86 rfl rfl ?_
      obtain ⟨g4, hF⟩ := gb_gdE hF
      obtain ⟨x5, h6, cx5, hF⟩ := gb_bdE hF
      refine gb_cV (As := []) (S := []) (v := none) (h1 := h6) (S2 := []) cf11 dX11_number_87 mtX11_next lX11_139 inX11_next seX11_next (gb_kE g4) (fnX11_next_ok _ _ cx5) (by decide) rfl (Nat.le_of_ble_eq_true rfl) (Nat.le_of_ble_eq_true rfl) rfl rfl ?_
      refine gb_iload_n dX11_number_90 rfl rfl ?_
      cases hF
      exact gb_iret dX11_number_91 rfl
    · replace hF := gb_ifF c3 hF
      refine gb_aload_n dX11_number_80 rfl rfl ?_
      obtain ⟨g7, hF⟩ := gb_gdE hF
      obtain ⟨x8, h9, cx8, hF⟩ := gb_bdE hF
      refine gb_cV (As := []) (S := []) (v := none) (h1 := h9) (S2 := []) cf11 dX11_number_81 mtX11_faults lX11_154 inX11_faults seX11_faults (gb_kE g7) (fnX11_faults_ok _ _ cx8) (by decide) rfl (Nat.le_of_ble_eq_true rfl) (Nat.le_of_ble_eq_true rfl) rfl rfl ?_
      refine gb_iconst (v := (0 : Int32)) dX11_number_84 (by decide) ?_
      cases hF
      exact gb_iret dX11_number_85 rfl
  · replace hF := gb_ifF c2 hF
    refine gb_iload_n dX11_number_45 rfl rfl ?_
    refine gb_iload_n dX11_number_46 rfl rfl ?_
    refine gb_icmp_le (tgt := 54) dX11_number_47 (by decide) (fun c10 => ?_) (fun c10 => ?_)
    · replace hF := gb_ifT c10 hF
      refine gb_bipush (v := (10 : Int32)) dX11_number_54 (by decide) ?_
      refine gb_iload_n dX11_number_56 rfl rfl ?_
      refine gb_imul dX11_number_57 ?_
      refine gb_aload_n dX11_number_58 rfl rfl ?_
      obtain ⟨g11, hF⟩ := gb_gdE hF
      obtain ⟨a12, ea12, hF⟩ := gb_rdE hF
      refine gb_getR fX11_33 dX11_number_59 (gb_kE g11) ea12 ?_
      refine gb_iload_n dX11_number_62 rfl rfl ?_
      obtain ⟨g13, hF⟩ := gb_gdE hF
      obtain ⟨g14, hF⟩ := gb_gdE hF
      refine gb_bald dX11_number_63 (gb_kE g13) (gb_inE g14) ?_
      refine gb_iadd dX11_number_64 ?_
      refine gb_bipush (v := (48 : Int32)) dX11_number_65 (by decide) ?_
      refine gb_isub dX11_number_67 ?_
      exact gb_wk (fbX11_number_68_ok hk37 v0 v1 v3 ((((10 : Int32) * v2) + (gb_I h a12 v3.toNatClampNeg)) - (48 : Int32)) h r hF) (And.intro rfl (And.intro rfl (And.intro rfl trivial)))
    · replace hF := gb_ifF c10 hF
      refine gb_iload_n dX11_number_50 rfl rfl ?_
      refine gb_goto (tgt := 68) dX11_number_51 (by decide) ?_
      exact gb_wk (fbX11_number_68_ok hk37 v0 v1 v3 v2 h r hF) (And.intro rfl (And.intro rfl (And.intro rfl trivial)))
def lpX11_number_37 (n : Nat) (v0 : Nat) (v1 : Int32) (v2 : Int32) (v3 : Int32) (h : gb_H) : Option (Int32 × gb_H) := gb_lp (σ := Nat × Int32 × Int32 × Int32 × gb_H) (fun k s => fbX11_number_37 (fun v0 v1 v2 v3 h => k (v0, v1, v2, v3, h)) s.1 s.2.1 s.2.2.1 s.2.2.2.1 s.2.2.2.2) n (v0, v1, v2, v3, h)
theorem lpX11_number_37_ok {X : gb_X}  (n : Nat) (v0 : Nat) (v1 : Int32) (v2 : Int32) (v3 : Int32) (h : gb_H) (r : Int32 × gb_H) (hF : lpX11_number_37 n v0 v1 v2 v3 h = some r) : gb_Ev X 3 mX11_number 37 [some (.ref v0), some (.int v1), some (.int v2), some (.int v3)] [] h (gb_wI r) := by
  exact gb_lpE (σ := Nat × Int32 × Int32 × Int32 × gb_H) (P := fun s r => gb_Ev X 3 mX11_number 37 [some (.ref s.1), some (.int s.2.1), some (.int s.2.2.1), some (.int s.2.2.2.1)] [] s.2.2.2.2 (gb_wI r)) (fun k hk s r hs => fbX11_number_37_ok (fun v0 v1 v2 v3 h r e => hk (v0, v1, v2, v3, h) r e) _ _ _ _ _ r hs) n (v0, v1, v2, v3, h) r hF
def fnX11_number (p0 : Nat) (p1 : Int32) (h : gb_H) : Option (Int32 × gb_H) :=
  gb_gd (gb_k h p0 11) <|
  gb_bd (fnX11_good p0 h) fun x2 h3 =>
  if x2 = 0 then
    some ((0 : Int32), h3)
  else
    gb_gd (gb_k h3 p0 11) <|
    gb_gd (gb_k h3 p0 11) <|
    gb_bd (fnX11_isIn p0 (gb_I h3 p0 16) (48 : Int32) (57 : Int32) h3) fun x7 h8 =>
    if x7 = 0 then
      gb_gd (gb_k h8 p0 11) <|
      gb_bd (fnX11_faults p0 h8) fun _ h12 =>
      some ((0 : Int32), h12)
    else
      gb_gd (gb_k h8 p0 11) <|
      gb_lt (gb_I h8 p0 16) fun x14 =>
      lpX11_number_37 gb_FU p0 p1 (0 : Int32) x14 h8
theorem fnX11_number_ok {X : gb_X}  {p0 : Nat} {p1 : Int32} (h : gb_H) (r : Int32 × gb_H) (hF : fnX11_number p0 p1 h = some r) : gb_Ev X 3 mX11_number 0 (gb_L0 [.ref p0, .int p1]) [] h (gb_wI r) := by
  unfold fnX11_number at hF
  refine gb_weak (L' := [some (.ref p0), some (.int p1), none, none]) (And.intro rfl (And.intro rfl trivial)) ?_
  refine gb_aload_n dX11_number_0 rfl rfl ?_
  obtain ⟨g1, hF⟩ := gb_gdE hF
  obtain ⟨x2, h3, cx2, hF⟩ := gb_bdE hF
  refine gb_cV (As := []) (S := []) (v := some (.int x2)) (h1 := h3) (S2 := [.int x2]) cf11 dX11_number_1 mtX11_good lX11_146 inX11_good seX11_good (gb_kE g1) (fnX11_good_ok _ _ cx2) (by decide) rfl (Nat.le_of_ble_eq_true rfl) (Nat.le_of_ble_eq_true rfl) rfl rfl ?_
  refine gb_if_ne (tgt := 9) dX11_number_4 (by decide) (fun c4 => ?_) (fun c4 => ?_)
  · replace hF := gb_ifF c4 hF
    refine gb_aload_n dX11_number_9 rfl rfl ?_
    refine gb_aload_n dX11_number_10 rfl rfl ?_
    obtain ⟨g5, hF⟩ := gb_gdE hF
    refine gb_getI fX11_124 dX11_number_11 (gb_kE g5) ?_
    refine gb_bipush (v := (48 : Int32)) dX11_number_14 (by decide) ?_
    refine gb_bipush (v := (57 : Int32)) dX11_number_16 (by decide) ?_
    obtain ⟨g6, hF⟩ := gb_gdE hF
    obtain ⟨x7, h8, cx7, hF⟩ := gb_bdE hF
    refine gb_cV (As := [.int (gb_I h3 p0 16), .int (48 : Int32), .int (57 : Int32)]) (S := []) (v := some (.int x7)) (h1 := h8) (S2 := [.int x7]) cf11 dX11_number_18 mtX11_isIn lX11_127 inX11_isIn seX11_isIn (gb_kE g6) (fnX11_isIn_ok _ _ cx7) (by decide) rfl (Nat.le_of_ble_eq_true rfl) (Nat.le_of_ble_eq_true rfl) rfl rfl ?_
    refine gb_if_ne (tgt := 30) dX11_number_21 (by decide) (fun c9 => ?_) (fun c9 => ?_)
    · replace hF := gb_ifF c9 hF
      refine gb_iconst (v := (0 : Int32)) dX11_number_30 (by decide) ?_
      refine gb_istore_n (L' := [some (.ref p0), some (.int p1), some (.int (0 : Int32)), none]) dX11_number_31 rfl (by decide) rfl rfl ?_
      refine gb_aload_n dX11_number_32 rfl rfl ?_
      obtain ⟨g13, hF⟩ := gb_gdE hF
      refine gb_getI fX11_124 dX11_number_33 (gb_kE g13) ?_
      obtain ⟨x14, ex14, hF⟩ := gb_ltE hF
      refine gb_topI ex14 ?_
      refine gb_istore_n (L' := [some (.ref p0), some (.int p1), some (.int (0 : Int32)), some (.int x14)]) dX11_number_36 rfl (by decide) rfl rfl ?_
      exact gb_wk (lpX11_number_37_ok gb_FU p0 p1 (0 : Int32) x14 h8 r hF) (And.intro rfl (And.intro rfl (And.intro rfl (And.intro rfl trivial))))
    · replace hF := gb_ifT c9 hF
      refine gb_aload_n dX11_number_24 rfl rfl ?_
      obtain ⟨g10, hF⟩ := gb_gdE hF
      obtain ⟨x11, h12, cx11, hF⟩ := gb_bdE hF
      refine gb_cV (As := []) (S := []) (v := none) (h1 := h12) (S2 := []) cf11 dX11_number_25 mtX11_faults lX11_154 inX11_faults seX11_faults (gb_kE g10) (fnX11_faults_ok _ _ cx11) (by decide) rfl (Nat.le_of_ble_eq_true rfl) (Nat.le_of_ble_eq_true rfl) rfl rfl ?_
      refine gb_iconst (v := (0 : Int32)) dX11_number_28 (by decide) ?_
      cases hF
      exact gb_iret dX11_number_29 rfl
  · replace hF := gb_ifT c4 hF
    refine gb_iconst (v := (0 : Int32)) dX11_number_7 (by decide) ?_
    cases hF
    exact gb_iret dX11_number_8 rfl
def fbX11_path_50 (v4 : Int32) (h : gb_H) : Option (Int32 × gb_H) :=
  some (v4, h)
theorem fbX11_path_50_ok {X : gb_X} (v4 : Int32) (h : gb_H) (r : Int32 × gb_H) (hF : fbX11_path_50 v4 h = some r) : gb_Ev X 4 mX11_path 50 [none, none, none, none, some (.int v4)] [] h (gb_wI r) := by
  unfold fbX11_path_50 at hF
  refine gb_iload dX11_path_50 rfl ?_
  cases hF
  exact gb_iret dX11_path_52 rfl
def fbX11_path_45 (v0 : Nat) (v3 : Int32) (v4 : Int32) (h : gb_H) : Option (Int32 × gb_H) :=
  gb_gd (gb_k h v0 11) <|
  gb_lt (gb_sI h v0 19 v3) fun h2 =>
  fbX11_path_50 v4 h2
theorem fbX11_path_45_ok {X : gb_X} (v0 : Nat) (v3 : Int32) (v4 : Int32) (h : gb_H) (r : Int32 × gb_H) (hF : fbX11_path_45 v0 v3 v4 h = some r) : gb_Ev X 4 mX11_path 45 [some (.ref v0), none, none, some (.int v3), some (.int v4)] [] h (gb_wI r) := by
  unfold fbX11_path_45 at hF
  refine gb_aload_n dX11_path_45 rfl rfl ?_
  refine gb_iload_n dX11_path_46 rfl rfl ?_
  obtain ⟨g1, hF⟩ := gb_gdE hF
  obtain ⟨h2, eh2, hF⟩ := gb_ltE hF
  refine gb_putI fX11_130 (gb_nff nf11_19) dX11_path_47 (gb_kE g1) (fun _ => ⟨rfl, rfl⟩) (gb_hp eh2 ?_)
  exact gb_wk (fbX11_path_50_ok v4 h2 r hF) (And.intro rfl trivial)
def fnX11_path (p0 : Nat) (p1 : Int32) (p2 : Int32) (h : gb_H) : Option (Int32 × gb_H) :=
  gb_gd (gb_k h p0 11) <|
  gb_bd (fnX11_good p0 h) fun x2 h3 =>
  if x2 = 0 then
    some ((0 : Int32), h3)
  else
    gb_gd (gb_k h3 p0 11) <|
    gb_lt (gb_I h3 p0 16) fun x6 =>
    gb_gd (gb_k h3 p0 11) <|
    gb_bd (fnX11_number p0 (4 : Int32) h3) fun x8 h9 =>
    gb_gd (gb_k h9 p0 11) <|
    gb_bd (fnX11_good p0 h9) fun x11 h12 =>
    if x11 = 0 then
      fbX11_path_50 x8 h12
    else
      gb_gd (gb_k h12 p0 11) <|
      gb_rd (gb_R h12 p0 8) fun a15 =>
      gb_gd (gb_k h12 a15 21) <|
      gb_gd (gb_in h12 a15 x8) <|
      if (gb_I h12 a15 x8.toNatClampNeg) = p1 then
        if x8 = p2 then
          fbX11_path_45 p0 x6 x8 h12
        else
          fbX11_path_50 x8 h12
      else
        fbX11_path_45 p0 x6 x8 h12
theorem fnX11_path_ok {X : gb_X}  {p0 : Nat} {p1 : Int32} {p2 : Int32} (h : gb_H) (r : Int32 × gb_H) (hF : fnX11_path p0 p1 p2 h = some r) : gb_Ev X 4 mX11_path 0 (gb_L0 [.ref p0, .int p1, .int p2]) [] h (gb_wI r) := by
  unfold fnX11_path at hF
  refine gb_weak (L' := [some (.ref p0), some (.int p1), some (.int p2), none, none]) (And.intro rfl (And.intro rfl (And.intro rfl trivial))) ?_
  refine gb_aload_n dX11_path_0 rfl rfl ?_
  obtain ⟨g1, hF⟩ := gb_gdE hF
  obtain ⟨x2, h3, cx2, hF⟩ := gb_bdE hF
  refine gb_cV (As := []) (S := []) (v := some (.int x2)) (h1 := h3) (S2 := [.int x2]) cf11 dX11_path_1 mtX11_good lX11_146 inX11_good seX11_good (gb_kE g1) (fnX11_good_ok _ _ cx2) (by decide) rfl (Nat.le_of_ble_eq_true rfl) (Nat.le_of_ble_eq_true rfl) rfl rfl ?_
  refine gb_if_ne (tgt := 9) dX11_path_4 (by decide) (fun c4 => ?_) (fun c4 => ?_)
  · replace hF := gb_ifF c4 hF
    refine gb_aload_n dX11_path_9 rfl rfl ?_
    obtain ⟨g5, hF⟩ := gb_gdE hF
    refine gb_getI fX11_124 dX11_path_10 (gb_kE g5) ?_
    obtain ⟨x6, ex6, hF⟩ := gb_ltE hF
    refine gb_topI ex6 ?_
    refine gb_istore_n (L' := [some (.ref p0), some (.int p1), some (.int p2), some (.int x6), none]) dX11_path_13 rfl (by decide) rfl rfl ?_
    refine gb_aload_n dX11_path_14 rfl rfl ?_
    refine gb_iconst (v := (4 : Int32)) dX11_path_15 (by decide) ?_
    obtain ⟨g7, hF⟩ := gb_gdE hF
    obtain ⟨x8, h9, cx8, hF⟩ := gb_bdE hF
    refine gb_cV (As := [.int (4 : Int32)]) (S := []) (v := some (.int x8)) (h1 := h9) (S2 := [.int x8]) cf11 dX11_path_16 mtX11_number lX11_157 inX11_number seX11_number (gb_kE g7) (fnX11_number_ok _ _ cx8) (by decide) rfl (Nat.le_of_ble_eq_true rfl) (Nat.le_of_ble_eq_true rfl) rfl rfl ?_
    refine gb_istore (L' := [some (.ref p0), some (.int p1), some (.int p2), some (.int x6), some (.int x8)]) dX11_path_19 (by decide) rfl rfl ?_
    refine gb_aload_n dX11_path_21 rfl rfl ?_
    obtain ⟨g10, hF⟩ := gb_gdE hF
    obtain ⟨x11, h12, cx11, hF⟩ := gb_bdE hF
    refine gb_cV (As := []) (S := []) (v := some (.int x11)) (h1 := h12) (S2 := [.int x11]) cf11 dX11_path_22 mtX11_good lX11_146 inX11_good seX11_good (gb_kE g10) (fnX11_good_ok _ _ cx11) (by decide) rfl (Nat.le_of_ble_eq_true rfl) (Nat.le_of_ble_eq_true rfl) rfl rfl ?_
    refine gb_if_eq (tgt := 50) dX11_path_25 (by decide) (fun c13 => ?_) (fun c13 => ?_)
    · replace hF := gb_ifT c13 hF
      exact gb_wk (fbX11_path_50_ok x8 h12 r hF) (And.intro rfl trivial)
    · replace hF := gb_ifF c13 hF
      refine gb_aload_n dX11_path_28 rfl rfl ?_
      obtain ⟨g14, hF⟩ := gb_gdE hF
      obtain ⟨a15, ea15, hF⟩ := gb_rdE hF
      refine gb_getR fX11_25 dX11_path_29 (gb_kE g14) ea15 ?_
      refine gb_iload dX11_path_32 rfl ?_
      obtain ⟨g16, hF⟩ := gb_gdE hF
      obtain ⟨g17, hF⟩ := gb_gdE hF
      refine gb_zald dX11_path_34 (gb_kE g16) (gb_inE g17) ?_
      refine gb_iload_n dX11_path_35 rfl rfl ?_
      refine gb_icmp_ne (tgt := 45) dX11_path_36 (by decide) (fun c18 => ?_) (fun c18 => ?_)
      · replace hF := gb_ifF c18 hF
        exact gb_wk (fbX11_path_45_ok p0 x6 x8 h12 r hF) (And.intro rfl (And.intro rfl (And.intro rfl trivial)))
      · replace hF := gb_ifT c18 hF
        refine gb_iload dX11_path_39 rfl ?_
        refine gb_iload_n dX11_path_41 rfl rfl ?_
        refine gb_icmp_ne (tgt := 50) dX11_path_42 (by decide) (fun c19 => ?_) (fun c19 => ?_)
        · replace hF := gb_ifF c19 hF
          exact gb_wk (fbX11_path_50_ok x8 h12 r hF) (And.intro rfl trivial)
        · replace hF := gb_ifT c19 hF
          exact gb_wk (fbX11_path_45_ok p0 x6 x8 h12 r hF) (And.intro rfl (And.intro rfl (And.intro rfl trivial)))
  · replace hF := gb_ifT c4 hF
    refine gb_iconst (v := (0 : Int32)) dX11_path_7 (by decide) ?_
    cases hF
    exact gb_iret dX11_path_8 rfl
def fbX11_takesSign_45 (v2 : Int32) (h : gb_H) : Option (Int32 × gb_H) :=
  gb_gd (gb_b v2) <|
  some (v2, h)
theorem fbX11_takesSign_45_ok {X : gb_X} (v2 : Int32) (h : gb_H) (r : Int32 × gb_H) (hF : fbX11_takesSign_45 v2 h = some r) : gb_Ev X 3 mX11_takesSign 45 [none, none, some (.int v2)] [] h (gb_wI r) := by
  unfold fbX11_takesSign_45 at hF
  refine gb_iload_n dX11_takesSign_45 rfl rfl ?_
  obtain ⟨g1, hF⟩ := gb_gdE hF
  cases hF
  exact gb_zret dX11_takesSign_46 rfl (gb_bE g1)
def fbX11_takesSign_36 (v0 : Nat) (s0 : Int32) (h : gb_H) : Option (Int32 × gb_H) :=
  if s0 = 0 then
    fbX11_takesSign_45 s0 h
  else
    gb_gd (gb_k h v0 11) <|
    gb_bd (fnX11_next v0 h) fun _ h4 =>
    fbX11_takesSign_45 s0 h4
theorem fbX11_takesSign_36_ok {X : gb_X} (v0 : Nat) (s0 : Int32) (h : gb_H) (r : Int32 × gb_H) (hF : fbX11_takesSign_36 v0 s0 h = some r) : gb_Ev X 3 mX11_takesSign 36 [some (.ref v0), none, none] [.int s0] h (gb_wI r) := by
  unfold fbX11_takesSign_36 at hF
  refine gb_istore_n (L' := [some (.ref v0), none, some (.int s0)]) dX11_takesSign_36 rfl (by decide) rfl rfl ?_
  refine gb_iload_n dX11_takesSign_37 rfl rfl ?_
  refine gb_if_eq (tgt := 45) dX11_takesSign_38 (by decide) (fun c1 => ?_) (fun c1 => ?_)
  · replace hF := gb_ifT c1 hF
    exact gb_wk (fbX11_takesSign_45_ok s0 h r hF) (And.intro rfl trivial)
  · replace hF := gb_ifF c1 hF
    refine gb_aload_n dX11_takesSign_41 rfl rfl ?_
    obtain ⟨g2, hF⟩ := gb_gdE hF
    obtain ⟨x3, h4, cx3, hF⟩ := gb_bdE hF
    refine gb_cV (As := []) (S := []) (v := none) (h1 := h4) (S2 := []) cf11 dX11_takesSign_42 mtX11_next lX11_139 inX11_next seX11_next (gb_kE g2) (fnX11_next_ok _ _ cx3) (by decide) rfl (Nat.le_of_ble_eq_true rfl) (Nat.le_of_ble_eq_true rfl) rfl rfl ?_
    exact gb_wk (fbX11_takesSign_45_ok s0 h4 r hF) (And.intro rfl trivial)
def fbX11_takesSign_35 (v0 : Nat) (h : gb_H) : Option (Int32 × gb_H) :=
  fbX11_takesSign_36 v0 (0 : Int32) h
theorem fbX11_takesSign_35_ok {X : gb_X} (v0 : Nat) (h : gb_H) (r : Int32 × gb_H) (hF : fbX11_takesSign_35 v0 h = some r) : gb_Ev X 3 mX11_takesSign 35 [some (.ref v0), none, none] [] h (gb_wI r) := by
  unfold fbX11_takesSign_35 at hF
  refine gb_iconst (v := (0 : Int32)) dX11_takesSign_35 (by decide) ?_
  exact gb_wk (fbX11_takesSign_36_ok v0 (0 : Int32) h r hF) (And.intro rfl trivial)
def fnX11_takesSign (p0 : Nat) (p1 : Int32) (h : gb_H) : Option (Int32 × gb_H) :=
  gb_gd (gb_k h p0 11) <|
  gb_bd (fnX11_good p0 h) fun x2 h3 =>
  if x2 = 0 then
    fbX11_takesSign_35 p0 h3
  else
    gb_gd (gb_k h3 p0 11) <|
    gb_gd (gb_k h3 p0 11) <|
    if (gb_I h3 p0 15) ≤ (gb_I h3 p0 16) then
      fbX11_takesSign_35 p0 h3
    else
      gb_gd (gb_k h3 p0 11) <|
      gb_rd (gb_R h3 p0 12) fun a9 =>
      gb_gd (gb_k h3 p0 11) <|
      gb_lt (gb_I h3 p0 16) fun x11 =>
      gb_gd (gb_k h3 a9 22) <|
      gb_gd (gb_in h3 a9 x11) <|
      if (gb_I h3 a9 x11.toNatClampNeg) = p1 then
        fbX11_takesSign_36 p0 (1 : Int32) h3
      else
        fbX11_takesSign_35 p0 h3
theorem fnX11_takesSign_ok {X : gb_X}  {p0 : Nat} {p1 : Int32} (h : gb_H) (r : Int32 × gb_H) (hF : fnX11_takesSign p0 p1 h = some r) : gb_Ev X 3 mX11_takesSign 0 (gb_L0 [.ref p0, .int p1]) [] h (gb_wI r) := by
  unfold fnX11_takesSign at hF
  refine gb_weak (L' := [some (.ref p0), some (.int p1), none]) (And.intro rfl (And.intro rfl trivial)) ?_
  refine gb_aload_n dX11_takesSign_0 rfl rfl ?_
  obtain ⟨g1, hF⟩ := gb_gdE hF
  obtain ⟨x2, h3, cx2, hF⟩ := gb_bdE hF
  refine gb_cV (As := []) (S := []) (v := some (.int x2)) (h1 := h3) (S2 := [.int x2]) cf11 dX11_takesSign_1 mtX11_good lX11_146 inX11_good seX11_good (gb_kE g1) (fnX11_good_ok _ _ cx2) (by decide) rfl (Nat.le_of_ble_eq_true rfl) (Nat.le_of_ble_eq_true rfl) rfl rfl ?_
  refine gb_if_eq (tgt := 35) dX11_takesSign_4 (by decide) (fun c4 => ?_) (fun c4 => ?_)
  · replace hF := gb_ifT c4 hF
    exact gb_wk (fbX11_takesSign_35_ok p0 h3 r hF) (And.intro rfl trivial)
  · replace hF := gb_ifF c4 hF
    refine gb_aload_n dX11_takesSign_7 rfl rfl ?_
    obtain ⟨g5, hF⟩ := gb_gdE hF
    refine gb_getI fX11_124 dX11_takesSign_8 (gb_kE g5) ?_
    refine gb_aload_n dX11_takesSign_11 rfl rfl ?_
    obtain ⟨g6, hF⟩ := gb_gdE hF
    refine gb_getI fX11_118 dX11_takesSign_12 (gb_kE g6) ?_
    refine gb_icmp_ge (tgt := 35) dX11_takesSign_15 (by decide) (fun c7 => ?_) (fun c7 => ?_)
    · replace hF := gb_ifT c7 hF
      exact gb_wk (fbX11_takesSign_35_ok p0 h3 r hF) (And.intro rfl trivial)
    · replace hF := gb_ifF c7 hF
      refine gb_aload_n dX11_takesSign_18 rfl rfl ?_
      obtain ⟨g8, hF⟩ := gb_gdE hF
      obtain ⟨a9, ea9, hF⟩ := gb_rdE hF
      refine gb_getR fX11_33 dX11_takesSign_19 (gb_kE g8) ea9 ?_
      refine gb_aload_n dX11_takesSign_22 rfl rfl ?_
      obtain ⟨g10, hF⟩ := gb_gdE hF
      refine gb_getI fX11_124 dX11_takesSign_23 (gb_kE g10) ?_
      obtain ⟨x11, ex11, hF⟩ := gb_ltE hF
      refine gb_topI ex11 ?_
      obtain ⟨g12, hF⟩ := gb_gdE hF
      obtain ⟨g13, hF⟩ := gb_gdE hF
      refine gb_bald dX11_takesSign_26 (gb_kE g12) (gb_inE g13) ?_
      refine gb_iload_n dX11_takesSign_27 rfl rfl ?_
      refine gb_icmp_ne (tgt := 35) dX11_takesSign_28 (by decide) (fun c14 => ?_) (fun c14 => ?_)
      · replace hF := gb_ifF c14 hF
        exact gb_wk (fbX11_takesSign_35_ok p0 h3 r hF) (And.intro rfl trivial)
      · replace hF := gb_ifT c14 hF
        refine gb_iconst (v := (1 : Int32)) dX11_takesSign_31 (by decide) ?_
        refine gb_goto (tgt := 36) dX11_takesSign_32 (by decide) ?_
        exact gb_wk (fbX11_takesSign_36_ok p0 (1 : Int32) h3 r hF) (And.intro rfl trivial)
def fnX11_kind (p0 : Nat) (h : gb_H) : Option (Int32 × gb_H) :=
  gb_gd (gb_k h p0 11) <|
  gb_bd (fnX11_takesWord p0 (5425428 : Int64) h) fun x2 h3 =>
  if x2 = 0 then
    gb_gd (gb_k h3 p0 11) <|
    gb_bd (fnX11_takesWord p0 (611814 : Int64) h3) fun x6 h7 =>
    if x6 = 0 then
      gb_gd (gb_k h7 p0 11) <|
      gb_bd (fnX11_takesWord p0 (208936 : Int64) h7) fun x10 h11 =>
      if x10 = 0 then
        gb_gd (gb_k h11 p0 11) <|
        gb_bd (fnX11_faults p0 h11) fun _ h15 =>
        some ((0 : Int32), h15)
      else
        some ((2 : Int32), h11)
    else
      some ((1 : Int32), h7)
  else
    some ((0 : Int32), h3)
theorem fnX11_kind_ok {X : gb_X}  {p0 : Nat} (h : gb_H) (r : Int32 × gb_H) (hF : fnX11_kind p0 h = some r) : gb_Ev X 4 mX11_kind 0 (gb_L0 [.ref p0]) [] h (gb_wI r) := by
  unfold fnX11_kind at hF
  refine gb_weak (L' := [some (.ref p0)]) (And.intro rfl trivial) ?_
  refine gb_aload_n dX11_kind_0 rfl rfl ?_
  refine gb_ldc2 (v := (5425428 : Int64)) dX11_kind_1 kX11_160 ?_
  obtain ⟨g1, hF⟩ := gb_gdE hF
  obtain ⟨x2, h3, cx2, hF⟩ := gb_bdE hF
  refine gb_cV (As := [.long (5425428 : Int64)]) (S := []) (v := some (.int x2)) (h1 := h3) (S2 := [.int x2]) cf11 dX11_kind_4 mtX11_takesWord lX11_162 inX11_takesWord seX11_takesWord (gb_kE g1) (fnX11_takesWord_ok _ _ cx2) (by decide) rfl (Nat.le_of_ble_eq_true rfl) (Nat.le_of_ble_eq_true rfl) rfl rfl ?_
  refine gb_if_eq (tgt := 12) dX11_kind_7 (by decide) (fun c4 => ?_) (fun c4 => ?_)
  · replace hF := gb_ifT c4 hF
    refine gb_aload_n dX11_kind_12 rfl rfl ?_
    refine gb_ldc2 (v := (611814 : Int64)) dX11_kind_13 kX11_165 ?_
    obtain ⟨g5, hF⟩ := gb_gdE hF
    obtain ⟨x6, h7, cx6, hF⟩ := gb_bdE hF
    refine gb_cV (As := [.long (611814 : Int64)]) (S := []) (v := some (.int x6)) (h1 := h7) (S2 := [.int x6]) cf11 dX11_kind_16 mtX11_takesWord lX11_162 inX11_takesWord seX11_takesWord (gb_kE g5) (fnX11_takesWord_ok _ _ cx6) (by decide) rfl (Nat.le_of_ble_eq_true rfl) (Nat.le_of_ble_eq_true rfl) rfl rfl ?_
    refine gb_if_eq (tgt := 24) dX11_kind_19 (by decide) (fun c8 => ?_) (fun c8 => ?_)
    · replace hF := gb_ifT c8 hF
      refine gb_aload_n dX11_kind_24 rfl rfl ?_
      refine gb_ldc2 (v := (208936 : Int64)) dX11_kind_25 kX11_167 ?_
      obtain ⟨g9, hF⟩ := gb_gdE hF
      obtain ⟨x10, h11, cx10, hF⟩ := gb_bdE hF
      refine gb_cV (As := [.long (208936 : Int64)]) (S := []) (v := some (.int x10)) (h1 := h11) (S2 := [.int x10]) cf11 dX11_kind_28 mtX11_takesWord lX11_162 inX11_takesWord seX11_takesWord (gb_kE g9) (fnX11_takesWord_ok _ _ cx10) (by decide) rfl (Nat.le_of_ble_eq_true rfl) (Nat.le_of_ble_eq_true rfl) rfl rfl ?_
      refine gb_if_eq (tgt := 36) dX11_kind_31 (by decide) (fun c12 => ?_) (fun c12 => ?_)
      · replace hF := gb_ifT c12 hF
        refine gb_aload_n dX11_kind_36 rfl rfl ?_
        obtain ⟨g13, hF⟩ := gb_gdE hF
        obtain ⟨x14, h15, cx14, hF⟩ := gb_bdE hF
        refine gb_cV (As := []) (S := []) (v := none) (h1 := h15) (S2 := []) cf11 dX11_kind_37 mtX11_faults lX11_154 inX11_faults seX11_faults (gb_kE g13) (fnX11_faults_ok _ _ cx14) (by decide) rfl (Nat.le_of_ble_eq_true rfl) (Nat.le_of_ble_eq_true rfl) rfl rfl ?_
        refine gb_iconst (v := (0 : Int32)) dX11_kind_40 (by decide) ?_
        cases hF
        exact gb_iret dX11_kind_41 rfl
      · replace hF := gb_ifF c12 hF
        refine gb_iconst (v := (2 : Int32)) dX11_kind_34 (by decide) ?_
        cases hF
        exact gb_iret dX11_kind_35 rfl
    · replace hF := gb_ifF c8 hF
      refine gb_iconst (v := (1 : Int32)) dX11_kind_22 (by decide) ?_
      cases hF
      exact gb_iret dX11_kind_23 rfl
  · replace hF := gb_ifF c4 hF
    refine gb_iconst (v := (0 : Int32)) dX11_kind_10 (by decide) ?_
    cases hF
    exact gb_iret dX11_kind_11 rfl
def fbX11_deed_242 (h : gb_H) : Option (Unit × gb_H) :=
  some ((), h)
theorem fbX11_deed_242_ok {X : gb_X} (h : gb_H) (r : Unit × gb_H) (hF : fbX11_deed_242 h = some r) : gb_Ev X 5 mX11_deed 242 [none, none] [] h (gb_wV r) := by
  unfold fbX11_deed_242 at hF
  cases hF
  exact gb_vret dX11_deed_242 rfl
def fbX11_deed_167 (v0 : Nat) (v1 : Int32) (h : gb_H) : Option (Unit × gb_H) :=
  gb_gd (gb_k h v0 11) <|
  gb_rd (gb_R h v0 7) fun a2 =>
  gb_gd (gb_k h v0 11) <|
  gb_bd (fnX11_number v0 (3 : Int32) h) fun x4 h5 =>
  gb_lt (v1 + (5 : Int32)) fun x6 =>
  gb_gd (gb_k h5 a2 20) <|
  gb_gd (gb_in h5 a2 x6) <|
  gb_lt (gb_sI h5 a2 x6.toNatClampNeg x4) fun h9 =>
  fbX11_deed_242 h9
theorem fbX11_deed_167_ok {X : gb_X} (v0 : Nat) (v1 : Int32) (h : gb_H) (r : Unit × gb_H) (hF : fbX11_deed_167 v0 v1 h = some r) : gb_Ev X 5 mX11_deed 167 [some (.ref v0), some (.int v1)] [] h (gb_wV r) := by
  unfold fbX11_deed_167 at hF
  refine gb_aload_n dX11_deed_167 rfl rfl ?_
  obtain ⟨g1, hF⟩ := gb_gdE hF
  obtain ⟨a2, ea2, hF⟩ := gb_rdE hF
  refine gb_getR fX11_22 dX11_deed_168 (gb_kE g1) ea2 ?_
  refine gb_iload_n dX11_deed_171 rfl rfl ?_
  refine gb_iconst (v := (5 : Int32)) dX11_deed_172 (by decide) ?_
  refine gb_iadd dX11_deed_173 ?_
  refine gb_aload_n dX11_deed_174 rfl rfl ?_
  refine gb_iconst (v := (3 : Int32)) dX11_deed_175 (by decide) ?_
  obtain ⟨g3, hF⟩ := gb_gdE hF
  obtain ⟨x4, h5, cx4, hF⟩ := gb_bdE hF
  refine gb_cV (As := [.int (3 : Int32)]) (S := [.int (v1 + (5 : Int32)), .ref a2]) (v := some (.int x4)) (h1 := h5) (S2 := [.int x4, .int (v1 + (5 : Int32)), .ref a2]) cf11 dX11_deed_176 mtX11_number lX11_157 inX11_number seX11_number (gb_kE g3) (fnX11_number_ok _ _ cx4) (by decide) rfl (Nat.le_of_ble_eq_true rfl) (Nat.le_of_ble_eq_true rfl) rfl rfl ?_
  obtain ⟨x6, ex6, hF⟩ := gb_ltE hF
  refine gb_topI2 ex6 ?_
  obtain ⟨g7, hF⟩ := gb_gdE hF
  obtain ⟨g8, hF⟩ := gb_gdE hF
  obtain ⟨h9, eh9, hF⟩ := gb_ltE hF
  refine gb_iast dX11_deed_179 (gb_kE g7) (gb_inE g8) (gb_hp eh9 ?_)
  refine gb_goto (tgt := 242) dX11_deed_180 (by decide) ?_
  exact gb_wk (fbX11_deed_242_ok h9 r hF) trivial
def fnX11_deed (p0 : Nat) (p1 : Int32) (h : gb_H) : Option (Unit × gb_H) :=
  gb_gd (gb_k h p0 11) <|
  gb_bd (fnX11_takesWord p0 (21279251 : Int64) h) fun x2 h3 =>
  if x2 = 0 then
    gb_gd (gb_k h3 p0 11) <|
    gb_bd (fnX11_takesWord p0 (477876 : Int64) h3) fun x6 h7 =>
    if x6 = 0 then
      gb_gd (gb_k h7 p0 11) <|
      gb_bd (fnX11_takesWord p0 (21177619 : Int64) h7) fun x10 h11 =>
      if x10 = 0 then
        gb_gd (gb_k h11 p0 11) <|
        gb_bd (fnX11_takesWord p0 (526067 : Int64) h11) fun x14 h15 =>
        if x14 = 0 then
          gb_gd (gb_k h15 p0 11) <|
          gb_bd (fnX11_faults p0 h15) fun _ h19 =>
          fbX11_deed_242 h19
        else
          gb_gd (gb_k h15 p0 11) <|
          gb_rd (gb_R h15 p0 7) fun a21 =>
          gb_gd (gb_k h15 a21 20) <|
          gb_gd (gb_in h15 a21 p1) <|
          gb_lt (gb_sI h15 a21 p1.toNatClampNeg (3 : Int32)) fun h24 =>
          gb_gd (gb_k h24 p0 11) <|
          gb_rd (gb_R h24 p0 7) fun a26 =>
          gb_gd (gb_k h24 p0 11) <|
          gb_bd (fnX11_path p0 (0 : Int32) (-1 : Int32) h24) fun x28 h29 =>
          gb_lt (p1 + (1 : Int32)) fun x30 =>
          gb_gd (gb_k h29 a26 20) <|
          gb_gd (gb_in h29 a26 x30) <|
          gb_lt (gb_sI h29 a26 x30.toNatClampNeg x28) fun h33 =>
          gb_gd (gb_k h33 p0 11) <|
          gb_rd (gb_R h33 p0 7) fun a35 =>
          gb_gd (gb_k h33 p0 11) <|
          gb_rd (gb_R h33 p0 7) fun a37 =>
          gb_lt (p1 + (1 : Int32)) fun x38 =>
          gb_gd (gb_k h33 a37 20) <|
          gb_gd (gb_in h33 a37 x38) <|
          gb_gd (gb_k h33 p0 11) <|
          gb_bd (fnX11_path p0 (0 : Int32) (gb_I h33 a37 x38.toNatClampNeg) h33) fun x42 h43 =>
          gb_lt (p1 + (2 : Int32)) fun x44 =>
          gb_gd (gb_k h43 a35 20) <|
          gb_gd (gb_in h43 a35 x44) <|
          gb_lt (gb_sI h43 a35 x44.toNatClampNeg x42) fun h47 =>
          fbX11_deed_242 h47
      else
        gb_gd (gb_k h11 p0 11) <|
        gb_rd (gb_R h11 p0 7) fun a49 =>
        gb_gd (gb_k h11 a49 20) <|
        gb_gd (gb_in h11 a49 p1) <|
        gb_lt (gb_sI h11 a49 p1.toNatClampNeg (2 : Int32)) fun h52 =>
        gb_gd (gb_k h52 p0 11) <|
        gb_rd (gb_R h52 p0 7) fun a54 =>
        gb_gd (gb_k h52 p0 11) <|
        gb_bd (fnX11_path p0 (0 : Int32) (-1 : Int32) h52) fun x56 h57 =>
        gb_lt (p1 + (1 : Int32)) fun x58 =>
        gb_gd (gb_k h57 a54 20) <|
        gb_gd (gb_in h57 a54 x58) <|
        gb_lt (gb_sI h57 a54 x58.toNatClampNeg x56) fun h61 =>
        gb_gd (gb_k h61 p0 11) <|
        gb_bd (fnX11_takesWord p0 (378925 : Int64) h61) fun x63 h64 =>
        if x63 = 0 then
          fbX11_deed_167 p0 p1 h64
        else
          gb_gd (gb_k h64 p0 11) <|
          gb_rd (gb_R h64 p0 7) fun a67 =>
          gb_gd (gb_k h64 p0 11) <|
          gb_bd (fnX11_number p0 (1 : Int32) h64) fun x69 h70 =>
          gb_lt (p1 + (4 : Int32)) fun x71 =>
          gb_gd (gb_k h70 a67 20) <|
          gb_gd (gb_in h70 a67 x71) <|
          gb_lt (gb_sI h70 a67 x71.toNatClampNeg x69) fun h74 =>
          fbX11_deed_167 p0 p1 h74
    else
      gb_gd (gb_k h7 p0 11) <|
      gb_rd (gb_R h7 p0 7) fun a76 =>
      gb_gd (gb_k h7 a76 20) <|
      gb_gd (gb_in h7 a76 p1) <|
      gb_lt (gb_sI h7 a76 p1.toNatClampNeg (1 : Int32)) fun h79 =>
      gb_gd (gb_k h79 p0 11) <|
      gb_rd (gb_R h79 p0 7) fun a81 =>
      gb_gd (gb_k h79 p0 11) <|
      gb_bd (fnX11_path p0 (0 : Int32) (-1 : Int32) h79) fun x83 h84 =>
      gb_lt (p1 + (1 : Int32)) fun x85 =>
      gb_gd (gb_k h84 a81 20) <|
      gb_gd (gb_in h84 a81 x85) <|
      gb_lt (gb_sI h84 a81 x85.toNatClampNeg x83) fun h88 =>
      gb_gd (gb_k h88 p0 11) <|
      gb_rd (gb_R h88 p0 7) fun a90 =>
      gb_gd (gb_k h88 p0 11) <|
      gb_bd (fnX11_kind p0 h88) fun x92 h93 =>
      gb_lt (p1 + (3 : Int32)) fun x94 =>
      gb_gd (gb_k h93 a90 20) <|
      gb_gd (gb_in h93 a90 x94) <|
      gb_lt (gb_sI h93 a90 x94.toNatClampNeg x92) fun h97 =>
      fbX11_deed_242 h97
  else
    gb_gd (gb_k h3 p0 11) <|
    gb_rd (gb_R h3 p0 7) fun a99 =>
    gb_gd (gb_k h3 a99 20) <|
    gb_gd (gb_in h3 a99 p1) <|
    gb_lt (gb_sI h3 a99 p1.toNatClampNeg (0 : Int32)) fun h102 =>
    gb_gd (gb_k h102 p0 11) <|
    gb_rd (gb_R h102 p0 7) fun a104 =>
    gb_gd (gb_k h102 p0 11) <|
    gb_bd (fnX11_path p0 (0 : Int32) (-1 : Int32) h102) fun x106 h107 =>
    gb_lt (p1 + (1 : Int32)) fun x108 =>
    gb_gd (gb_k h107 a104 20) <|
    gb_gd (gb_in h107 a104 x108) <|
    gb_lt (gb_sI h107 a104 x108.toNatClampNeg x106) fun h111 =>
    gb_gd (gb_k h111 p0 11) <|
    gb_rd (gb_R h111 p0 7) fun a113 =>
    gb_gd (gb_k h111 p0 11) <|
    gb_rd (gb_R h111 p0 7) fun a115 =>
    gb_lt (p1 + (1 : Int32)) fun x116 =>
    gb_gd (gb_k h111 a115 20) <|
    gb_gd (gb_in h111 a115 x116) <|
    gb_gd (gb_k h111 p0 11) <|
    gb_bd (fnX11_path p0 (0 : Int32) (gb_I h111 a115 x116.toNatClampNeg) h111) fun x120 h121 =>
    gb_lt (p1 + (2 : Int32)) fun x122 =>
    gb_gd (gb_k h121 a113 20) <|
    gb_gd (gb_in h121 a113 x122) <|
    gb_lt (gb_sI h121 a113 x122.toNatClampNeg x120) fun h125 =>
    gb_gd (gb_k h125 p0 11) <|
    gb_rd (gb_R h125 p0 7) fun a127 =>
    gb_gd (gb_k h125 p0 11) <|
    gb_bd (fnX11_kind p0 h125) fun x129 h130 =>
    gb_lt (p1 + (3 : Int32)) fun x131 =>
    gb_gd (gb_k h130 a127 20) <|
    gb_gd (gb_in h130 a127 x131) <|
    gb_lt (gb_sI h130 a127 x131.toNatClampNeg x129) fun h134 =>
    fbX11_deed_242 h134
theorem fnX11_deed_ok {X : gb_X}  {p0 : Nat} {p1 : Int32} (h : gb_H) (r : Unit × gb_H) (hF : fnX11_deed p0 p1 h = some r) : gb_Ev X 5 mX11_deed 0 (gb_L0 [.ref p0, .int p1]) [] h (gb_wV r) := by
  unfold fnX11_deed at hF
  refine gb_weak (L' := [some (.ref p0), some (.int p1)]) (And.intro rfl (And.intro rfl trivial)) ?_
  refine gb_aload_n dX11_deed_0 rfl rfl ?_
  refine gb_ldc2 (v := (21279251 : Int64)) dX11_deed_1 kX11_169 ?_
  obtain ⟨g1, hF⟩ := gb_gdE hF
  obtain ⟨x2, h3, cx2, hF⟩ := gb_bdE hF
  refine gb_cV (As := [.long (21279251 : Int64)]) (S := []) (v := some (.int x2)) (h1 := h3) (S2 := [.int x2]) cf11 dX11_deed_4 mtX11_takesWord lX11_162 inX11_takesWord seX11_takesWord (gb_kE g1) (fnX11_takesWord_ok _ _ cx2) (by decide) rfl (Nat.le_of_ble_eq_true rfl) (Nat.le_of_ble_eq_true rfl) rfl rfl ?_
  refine gb_if_eq (tgt := 67) dX11_deed_7 (by decide) (fun c4 => ?_) (fun c4 => ?_)
  · replace hF := gb_ifT c4 hF
    refine gb_aload_n dX11_deed_67 rfl rfl ?_
    refine gb_ldc2 (v := (477876 : Int64)) dX11_deed_68 kX11_179 ?_
    obtain ⟨g5, hF⟩ := gb_gdE hF
    obtain ⟨x6, h7, cx6, hF⟩ := gb_bdE hF
    refine gb_cV (As := [.long (477876 : Int64)]) (S := []) (v := some (.int x6)) (h1 := h7) (S2 := [.int x6]) cf11 dX11_deed_71 mtX11_takesWord lX11_162 inX11_takesWord seX11_takesWord (gb_kE g5) (fnX11_takesWord_ok _ _ cx6) (by decide) rfl (Nat.le_of_ble_eq_true rfl) (Nat.le_of_ble_eq_true rfl) rfl rfl ?_
    refine gb_if_eq (tgt := 113) dX11_deed_74 (by decide) (fun c8 => ?_) (fun c8 => ?_)
    · replace hF := gb_ifT c8 hF
      refine gb_aload_n dX11_deed_113 rfl rfl ?_
      refine gb_ldc2 (v := (21177619 : Int64)) dX11_deed_114 kX11_181 ?_
      obtain ⟨g9, hF⟩ := gb_gdE hF
      obtain ⟨x10, h11, cx10, hF⟩ := gb_bdE hF
      refine gb_cV (As := [.long (21177619 : Int64)]) (S := []) (v := some (.int x10)) (h1 := h11) (S2 := [.int x10]) cf11 dX11_deed_117 mtX11_takesWord lX11_162 inX11_takesWord seX11_takesWord (gb_kE g9) (fnX11_takesWord_ok _ _ cx10) (by decide) rfl (Nat.le_of_ble_eq_true rfl) (Nat.le_of_ble_eq_true rfl) rfl rfl ?_
      refine gb_if_eq (tgt := 183) dX11_deed_120 (by decide) (fun c12 => ?_) (fun c12 => ?_)
      · replace hF := gb_ifT c12 hF
        refine gb_aload_n dX11_deed_183 rfl rfl ?_
        refine gb_ldc2 (v := (526067 : Int64)) dX11_deed_184 kX11_185 ?_
        obtain ⟨g13, hF⟩ := gb_gdE hF
        obtain ⟨x14, h15, cx14, hF⟩ := gb_bdE hF
        refine gb_cV (As := [.long (526067 : Int64)]) (S := []) (v := some (.int x14)) (h1 := h15) (S2 := [.int x14]) cf11 dX11_deed_187 mtX11_takesWord lX11_162 inX11_takesWord seX11_takesWord (gb_kE g13) (fnX11_takesWord_ok _ _ cx14) (by decide) rfl (Nat.le_of_ble_eq_true rfl) (Nat.le_of_ble_eq_true rfl) rfl rfl ?_
        refine gb_if_eq (tgt := 238) dX11_deed_190 (by decide) (fun c16 => ?_) (fun c16 => ?_)
        · replace hF := gb_ifT c16 hF
          refine gb_aload_n dX11_deed_238 rfl rfl ?_
          obtain ⟨g17, hF⟩ := gb_gdE hF
          obtain ⟨x18, h19, cx18, hF⟩ := gb_bdE hF
          refine gb_cV (As := []) (S := []) (v := none) (h1 := h19) (S2 := []) cf11 dX11_deed_239 mtX11_faults lX11_154 inX11_faults seX11_faults (gb_kE g17) (fnX11_faults_ok _ _ cx18) (by decide) rfl (Nat.le_of_ble_eq_true rfl) (Nat.le_of_ble_eq_true rfl) rfl rfl ?_
          exact gb_wk (fbX11_deed_242_ok h19 r hF) trivial
        · replace hF := gb_ifF c16 hF
          refine gb_aload_n dX11_deed_193 rfl rfl ?_
          obtain ⟨g20, hF⟩ := gb_gdE hF
          obtain ⟨a21, ea21, hF⟩ := gb_rdE hF
          refine gb_getR fX11_22 dX11_deed_194 (gb_kE g20) ea21 ?_
          refine gb_iload_n dX11_deed_197 rfl rfl ?_
          refine gb_iconst (v := (3 : Int32)) dX11_deed_198 (by decide) ?_
          obtain ⟨g22, hF⟩ := gb_gdE hF
          obtain ⟨g23, hF⟩ := gb_gdE hF
          obtain ⟨h24, eh24, hF⟩ := gb_ltE hF
          refine gb_iast dX11_deed_199 (gb_kE g22) (gb_inE g23) (gb_hp eh24 ?_)
          refine gb_aload_n dX11_deed_200 rfl rfl ?_
          obtain ⟨g25, hF⟩ := gb_gdE hF
          obtain ⟨a26, ea26, hF⟩ := gb_rdE hF
          refine gb_getR fX11_22 dX11_deed_201 (gb_kE g25) ea26 ?_
          refine gb_iload_n dX11_deed_204 rfl rfl ?_
          refine gb_iconst (v := (1 : Int32)) dX11_deed_205 (by decide) ?_
          refine gb_iadd dX11_deed_206 ?_
          refine gb_aload_n dX11_deed_207 rfl rfl ?_
          refine gb_iconst (v := (0 : Int32)) dX11_deed_208 (by decide) ?_
          refine gb_iconst (v := (-1 : Int32)) dX11_deed_209 (by decide) ?_
          obtain ⟨g27, hF⟩ := gb_gdE hF
          obtain ⟨x28, h29, cx28, hF⟩ := gb_bdE hF
          refine gb_cV (As := [.int (0 : Int32), .int (-1 : Int32)]) (S := [.int (p1 + (1 : Int32)), .ref a26]) (v := some (.int x28)) (h1 := h29) (S2 := [.int x28, .int (p1 + (1 : Int32)), .ref a26]) cf11 dX11_deed_210 mtX11_path lX11_171 inX11_path seX11_path (gb_kE g27) (fnX11_path_ok _ _ cx28) (by decide) rfl (Nat.le_of_ble_eq_true rfl) (Nat.le_of_ble_eq_true rfl) rfl rfl ?_
          obtain ⟨x30, ex30, hF⟩ := gb_ltE hF
          refine gb_topI2 ex30 ?_
          obtain ⟨g31, hF⟩ := gb_gdE hF
          obtain ⟨g32, hF⟩ := gb_gdE hF
          obtain ⟨h33, eh33, hF⟩ := gb_ltE hF
          refine gb_iast dX11_deed_213 (gb_kE g31) (gb_inE g32) (gb_hp eh33 ?_)
          refine gb_aload_n dX11_deed_214 rfl rfl ?_
          obtain ⟨g34, hF⟩ := gb_gdE hF
          obtain ⟨a35, ea35, hF⟩ := gb_rdE hF
          refine gb_getR fX11_22 dX11_deed_215 (gb_kE g34) ea35 ?_
          refine gb_iload_n dX11_deed_218 rfl rfl ?_
          refine gb_iconst (v := (2 : Int32)) dX11_deed_219 (by decide) ?_
          refine gb_iadd dX11_deed_220 ?_
          refine gb_aload_n dX11_deed_221 rfl rfl ?_
          refine gb_iconst (v := (0 : Int32)) dX11_deed_222 (by decide) ?_
          refine gb_aload_n dX11_deed_223 rfl rfl ?_
          obtain ⟨g36, hF⟩ := gb_gdE hF
          obtain ⟨a37, ea37, hF⟩ := gb_rdE hF
          refine gb_getR fX11_22 dX11_deed_224 (gb_kE g36) ea37 ?_
          refine gb_iload_n dX11_deed_227 rfl rfl ?_
          refine gb_iconst (v := (1 : Int32)) dX11_deed_228 (by decide) ?_
          refine gb_iadd dX11_deed_229 ?_
          obtain ⟨x38, ex38, hF⟩ := gb_ltE hF
          refine gb_topI ex38 ?_
          obtain ⟨g39, hF⟩ := gb_gdE hF
          obtain ⟨g40, hF⟩ := gb_gdE hF
          refine gb_iald dX11_deed_230 (gb_kE g39) (gb_inE g40) ?_
          obtain ⟨g41, hF⟩ := gb_gdE hF
          obtain ⟨x42, h43, cx42, hF⟩ := gb_bdE hF
          refine gb_cV (As := [.int (0 : Int32), .int (gb_I h33 a37 x38.toNatClampNeg)]) (S := [.int (p1 + (2 : Int32)), .ref a35]) (v := some (.int x42)) (h1 := h43) (S2 := [.int x42, .int (p1 + (2 : Int32)), .ref a35]) cf11 dX11_deed_231 mtX11_path lX11_171 inX11_path seX11_path (gb_kE g41) (fnX11_path_ok _ _ cx42) (by decide) rfl (Nat.le_of_ble_eq_true rfl) (Nat.le_of_ble_eq_true rfl) rfl rfl ?_
          obtain ⟨x44, ex44, hF⟩ := gb_ltE hF
          refine gb_topI2 ex44 ?_
          obtain ⟨g45, hF⟩ := gb_gdE hF
          obtain ⟨g46, hF⟩ := gb_gdE hF
          obtain ⟨h47, eh47, hF⟩ := gb_ltE hF
          refine gb_iast dX11_deed_234 (gb_kE g45) (gb_inE g46) (gb_hp eh47 ?_)
          refine gb_goto (tgt := 242) dX11_deed_235 (by decide) ?_
          exact gb_wk (fbX11_deed_242_ok h47 r hF) trivial
      · replace hF := gb_ifF c12 hF
        refine gb_aload_n dX11_deed_123 rfl rfl ?_
        obtain ⟨g48, hF⟩ := gb_gdE hF
        obtain ⟨a49, ea49, hF⟩ := gb_rdE hF
        refine gb_getR fX11_22 dX11_deed_124 (gb_kE g48) ea49 ?_
        refine gb_iload_n dX11_deed_127 rfl rfl ?_
        refine gb_iconst (v := (2 : Int32)) dX11_deed_128 (by decide) ?_
        obtain ⟨g50, hF⟩ := gb_gdE hF
        obtain ⟨g51, hF⟩ := gb_gdE hF
        obtain ⟨h52, eh52, hF⟩ := gb_ltE hF
        refine gb_iast dX11_deed_129 (gb_kE g50) (gb_inE g51) (gb_hp eh52 ?_)
        refine gb_aload_n dX11_deed_130 rfl rfl ?_
        obtain ⟨g53, hF⟩ := gb_gdE hF
        obtain ⟨a54, ea54, hF⟩ := gb_rdE hF
        refine gb_getR fX11_22 dX11_deed_131 (gb_kE g53) ea54 ?_
        refine gb_iload_n dX11_deed_134 rfl rfl ?_
        refine gb_iconst (v := (1 : Int32)) dX11_deed_135 (by decide) ?_
        refine gb_iadd dX11_deed_136 ?_
        refine gb_aload_n dX11_deed_137 rfl rfl ?_
        refine gb_iconst (v := (0 : Int32)) dX11_deed_138 (by decide) ?_
        refine gb_iconst (v := (-1 : Int32)) dX11_deed_139 (by decide) ?_
        obtain ⟨g55, hF⟩ := gb_gdE hF
        obtain ⟨x56, h57, cx56, hF⟩ := gb_bdE hF
        refine gb_cV (As := [.int (0 : Int32), .int (-1 : Int32)]) (S := [.int (p1 + (1 : Int32)), .ref a54]) (v := some (.int x56)) (h1 := h57) (S2 := [.int x56, .int (p1 + (1 : Int32)), .ref a54]) cf11 dX11_deed_140 mtX11_path lX11_171 inX11_path seX11_path (gb_kE g55) (fnX11_path_ok _ _ cx56) (by decide) rfl (Nat.le_of_ble_eq_true rfl) (Nat.le_of_ble_eq_true rfl) rfl rfl ?_
        obtain ⟨x58, ex58, hF⟩ := gb_ltE hF
        refine gb_topI2 ex58 ?_
        obtain ⟨g59, hF⟩ := gb_gdE hF
        obtain ⟨g60, hF⟩ := gb_gdE hF
        obtain ⟨h61, eh61, hF⟩ := gb_ltE hF
        refine gb_iast dX11_deed_143 (gb_kE g59) (gb_inE g60) (gb_hp eh61 ?_)
        refine gb_aload_n dX11_deed_144 rfl rfl ?_
        refine gb_ldc2 (v := (378925 : Int64)) dX11_deed_145 kX11_183 ?_
        obtain ⟨g62, hF⟩ := gb_gdE hF
        obtain ⟨x63, h64, cx63, hF⟩ := gb_bdE hF
        refine gb_cV (As := [.long (378925 : Int64)]) (S := []) (v := some (.int x63)) (h1 := h64) (S2 := [.int x63]) cf11 dX11_deed_148 mtX11_takesWord lX11_162 inX11_takesWord seX11_takesWord (gb_kE g62) (fnX11_takesWord_ok _ _ cx63) (by decide) rfl (Nat.le_of_ble_eq_true rfl) (Nat.le_of_ble_eq_true rfl) rfl rfl ?_
        refine gb_if_eq (tgt := 167) dX11_deed_151 (by decide) (fun c65 => ?_) (fun c65 => ?_)
        · replace hF := gb_ifT c65 hF
          exact gb_wk (fbX11_deed_167_ok p0 p1 h64 r hF) (And.intro rfl (And.intro rfl trivial))
        · replace hF := gb_ifF c65 hF
          refine gb_aload_n dX11_deed_154 rfl rfl ?_
          obtain ⟨g66, hF⟩ := gb_gdE hF
          obtain ⟨a67, ea67, hF⟩ := gb_rdE hF
          refine gb_getR fX11_22 dX11_deed_155 (gb_kE g66) ea67 ?_
          refine gb_iload_n dX11_deed_158 rfl rfl ?_
          refine gb_iconst (v := (4 : Int32)) dX11_deed_159 (by decide) ?_
          refine gb_iadd dX11_deed_160 ?_
          refine gb_aload_n dX11_deed_161 rfl rfl ?_
          refine gb_iconst (v := (1 : Int32)) dX11_deed_162 (by decide) ?_
          obtain ⟨g68, hF⟩ := gb_gdE hF
          obtain ⟨x69, h70, cx69, hF⟩ := gb_bdE hF
          refine gb_cV (As := [.int (1 : Int32)]) (S := [.int (p1 + (4 : Int32)), .ref a67]) (v := some (.int x69)) (h1 := h70) (S2 := [.int x69, .int (p1 + (4 : Int32)), .ref a67]) cf11 dX11_deed_163 mtX11_number lX11_157 inX11_number seX11_number (gb_kE g68) (fnX11_number_ok _ _ cx69) (by decide) rfl (Nat.le_of_ble_eq_true rfl) (Nat.le_of_ble_eq_true rfl) rfl rfl ?_
          obtain ⟨x71, ex71, hF⟩ := gb_ltE hF
          refine gb_topI2 ex71 ?_
          obtain ⟨g72, hF⟩ := gb_gdE hF
          obtain ⟨g73, hF⟩ := gb_gdE hF
          obtain ⟨h74, eh74, hF⟩ := gb_ltE hF
          refine gb_iast dX11_deed_166 (gb_kE g72) (gb_inE g73) (gb_hp eh74 ?_)
          exact gb_wk (fbX11_deed_167_ok p0 p1 h74 r hF) (And.intro rfl (And.intro rfl trivial))
    · replace hF := gb_ifF c8 hF
      refine gb_aload_n dX11_deed_77 rfl rfl ?_
      obtain ⟨g75, hF⟩ := gb_gdE hF
      obtain ⟨a76, ea76, hF⟩ := gb_rdE hF
      refine gb_getR fX11_22 dX11_deed_78 (gb_kE g75) ea76 ?_
      refine gb_iload_n dX11_deed_81 rfl rfl ?_
      refine gb_iconst (v := (1 : Int32)) dX11_deed_82 (by decide) ?_
      obtain ⟨g77, hF⟩ := gb_gdE hF
      obtain ⟨g78, hF⟩ := gb_gdE hF
      obtain ⟨h79, eh79, hF⟩ := gb_ltE hF
      refine gb_iast dX11_deed_83 (gb_kE g77) (gb_inE g78) (gb_hp eh79 ?_)
      refine gb_aload_n dX11_deed_84 rfl rfl ?_
      obtain ⟨g80, hF⟩ := gb_gdE hF
      obtain ⟨a81, ea81, hF⟩ := gb_rdE hF
      refine gb_getR fX11_22 dX11_deed_85 (gb_kE g80) ea81 ?_
      refine gb_iload_n dX11_deed_88 rfl rfl ?_
      refine gb_iconst (v := (1 : Int32)) dX11_deed_89 (by decide) ?_
      refine gb_iadd dX11_deed_90 ?_
      refine gb_aload_n dX11_deed_91 rfl rfl ?_
      refine gb_iconst (v := (0 : Int32)) dX11_deed_92 (by decide) ?_
      refine gb_iconst (v := (-1 : Int32)) dX11_deed_93 (by decide) ?_
      obtain ⟨g82, hF⟩ := gb_gdE hF
      obtain ⟨x83, h84, cx83, hF⟩ := gb_bdE hF
      refine gb_cV (As := [.int (0 : Int32), .int (-1 : Int32)]) (S := [.int (p1 + (1 : Int32)), .ref a81]) (v := some (.int x83)) (h1 := h84) (S2 := [.int x83, .int (p1 + (1 : Int32)), .ref a81]) cf11 dX11_deed_94 mtX11_path lX11_171 inX11_path seX11_path (gb_kE g82) (fnX11_path_ok _ _ cx83) (by decide) rfl (Nat.le_of_ble_eq_true rfl) (Nat.le_of_ble_eq_true rfl) rfl rfl ?_
      obtain ⟨x85, ex85, hF⟩ := gb_ltE hF
      refine gb_topI2 ex85 ?_
      obtain ⟨g86, hF⟩ := gb_gdE hF
      obtain ⟨g87, hF⟩ := gb_gdE hF
      obtain ⟨h88, eh88, hF⟩ := gb_ltE hF
      refine gb_iast dX11_deed_97 (gb_kE g86) (gb_inE g87) (gb_hp eh88 ?_)
      refine gb_aload_n dX11_deed_98 rfl rfl ?_
      obtain ⟨g89, hF⟩ := gb_gdE hF
      obtain ⟨a90, ea90, hF⟩ := gb_rdE hF
      refine gb_getR fX11_22 dX11_deed_99 (gb_kE g89) ea90 ?_
      refine gb_iload_n dX11_deed_102 rfl rfl ?_
      refine gb_iconst (v := (3 : Int32)) dX11_deed_103 (by decide) ?_
      refine gb_iadd dX11_deed_104 ?_
      refine gb_aload_n dX11_deed_105 rfl rfl ?_
      obtain ⟨g91, hF⟩ := gb_gdE hF
      obtain ⟨x92, h93, cx92, hF⟩ := gb_bdE hF
      refine gb_cV (As := []) (S := [.int (p1 + (3 : Int32)), .ref a90]) (v := some (.int x92)) (h1 := h93) (S2 := [.int x92, .int (p1 + (3 : Int32)), .ref a90]) cf11 dX11_deed_106 mtX11_kind lX11_175 inX11_kind seX11_kind (gb_kE g91) (fnX11_kind_ok _ _ cx92) (by decide) rfl (Nat.le_of_ble_eq_true rfl) (Nat.le_of_ble_eq_true rfl) rfl rfl ?_
      obtain ⟨x94, ex94, hF⟩ := gb_ltE hF
      refine gb_topI2 ex94 ?_
      obtain ⟨g95, hF⟩ := gb_gdE hF
      obtain ⟨g96, hF⟩ := gb_gdE hF
      obtain ⟨h97, eh97, hF⟩ := gb_ltE hF
      refine gb_iast dX11_deed_109 (gb_kE g95) (gb_inE g96) (gb_hp eh97 ?_)
      refine gb_goto (tgt := 242) dX11_deed_110 (by decide) ?_
      exact gb_wk (fbX11_deed_242_ok h97 r hF) trivial
  · replace hF := gb_ifF c4 hF
    refine gb_aload_n dX11_deed_10 rfl rfl ?_
    obtain ⟨g98, hF⟩ := gb_gdE hF
    obtain ⟨a99, ea99, hF⟩ := gb_rdE hF
    refine gb_getR fX11_22 dX11_deed_11 (gb_kE g98) ea99 ?_
    refine gb_iload_n dX11_deed_14 rfl rfl ?_
    refine gb_iconst (v := (0 : Int32)) dX11_deed_15 (by decide) ?_
    obtain ⟨g100, hF⟩ := gb_gdE hF
    obtain ⟨g101, hF⟩ := gb_gdE hF
    obtain ⟨h102, eh102, hF⟩ := gb_ltE hF
    refine gb_iast dX11_deed_16 (gb_kE g100) (gb_inE g101) (gb_hp eh102 ?_)
    refine gb_aload_n dX11_deed_17 rfl rfl ?_
    obtain ⟨g103, hF⟩ := gb_gdE hF
    obtain ⟨a104, ea104, hF⟩ := gb_rdE hF
    refine gb_getR fX11_22 dX11_deed_18 (gb_kE g103) ea104 ?_
    refine gb_iload_n dX11_deed_21 rfl rfl ?_
    refine gb_iconst (v := (1 : Int32)) dX11_deed_22 (by decide) ?_
    refine gb_iadd dX11_deed_23 ?_
    refine gb_aload_n dX11_deed_24 rfl rfl ?_
    refine gb_iconst (v := (0 : Int32)) dX11_deed_25 (by decide) ?_
    refine gb_iconst (v := (-1 : Int32)) dX11_deed_26 (by decide) ?_
    obtain ⟨g105, hF⟩ := gb_gdE hF
    obtain ⟨x106, h107, cx106, hF⟩ := gb_bdE hF
    refine gb_cV (As := [.int (0 : Int32), .int (-1 : Int32)]) (S := [.int (p1 + (1 : Int32)), .ref a104]) (v := some (.int x106)) (h1 := h107) (S2 := [.int x106, .int (p1 + (1 : Int32)), .ref a104]) cf11 dX11_deed_27 mtX11_path lX11_171 inX11_path seX11_path (gb_kE g105) (fnX11_path_ok _ _ cx106) (by decide) rfl (Nat.le_of_ble_eq_true rfl) (Nat.le_of_ble_eq_true rfl) rfl rfl ?_
    obtain ⟨x108, ex108, hF⟩ := gb_ltE hF
    refine gb_topI2 ex108 ?_
    obtain ⟨g109, hF⟩ := gb_gdE hF
    obtain ⟨g110, hF⟩ := gb_gdE hF
    obtain ⟨h111, eh111, hF⟩ := gb_ltE hF
    refine gb_iast dX11_deed_30 (gb_kE g109) (gb_inE g110) (gb_hp eh111 ?_)
    refine gb_aload_n dX11_deed_31 rfl rfl ?_
    obtain ⟨g112, hF⟩ := gb_gdE hF
    obtain ⟨a113, ea113, hF⟩ := gb_rdE hF
    refine gb_getR fX11_22 dX11_deed_32 (gb_kE g112) ea113 ?_
    refine gb_iload_n dX11_deed_35 rfl rfl ?_
    refine gb_iconst (v := (2 : Int32)) dX11_deed_36 (by decide) ?_
    refine gb_iadd dX11_deed_37 ?_
    refine gb_aload_n dX11_deed_38 rfl rfl ?_
    refine gb_iconst (v := (0 : Int32)) dX11_deed_39 (by decide) ?_
    refine gb_aload_n dX11_deed_40 rfl rfl ?_
    obtain ⟨g114, hF⟩ := gb_gdE hF
    obtain ⟨a115, ea115, hF⟩ := gb_rdE hF
    refine gb_getR fX11_22 dX11_deed_41 (gb_kE g114) ea115 ?_
    refine gb_iload_n dX11_deed_44 rfl rfl ?_
    refine gb_iconst (v := (1 : Int32)) dX11_deed_45 (by decide) ?_
    refine gb_iadd dX11_deed_46 ?_
    obtain ⟨x116, ex116, hF⟩ := gb_ltE hF
    refine gb_topI ex116 ?_
    obtain ⟨g117, hF⟩ := gb_gdE hF
    obtain ⟨g118, hF⟩ := gb_gdE hF
    refine gb_iald dX11_deed_47 (gb_kE g117) (gb_inE g118) ?_
    obtain ⟨g119, hF⟩ := gb_gdE hF
    obtain ⟨x120, h121, cx120, hF⟩ := gb_bdE hF
    refine gb_cV (As := [.int (0 : Int32), .int (gb_I h111 a115 x116.toNatClampNeg)]) (S := [.int (p1 + (2 : Int32)), .ref a113]) (v := some (.int x120)) (h1 := h121) (S2 := [.int x120, .int (p1 + (2 : Int32)), .ref a113]) cf11 dX11_deed_48 mtX11_path lX11_171 inX11_path seX11_path (gb_kE g119) (fnX11_path_ok _ _ cx120) (by decide) rfl (Nat.le_of_ble_eq_true rfl) (Nat.le_of_ble_eq_true rfl) rfl rfl ?_
    obtain ⟨x122, ex122, hF⟩ := gb_ltE hF
    refine gb_topI2 ex122 ?_
    obtain ⟨g123, hF⟩ := gb_gdE hF
    obtain ⟨g124, hF⟩ := gb_gdE hF
    obtain ⟨h125, eh125, hF⟩ := gb_ltE hF
    refine gb_iast dX11_deed_51 (gb_kE g123) (gb_inE g124) (gb_hp eh125 ?_)
    refine gb_aload_n dX11_deed_52 rfl rfl ?_
    obtain ⟨g126, hF⟩ := gb_gdE hF
    obtain ⟨a127, ea127, hF⟩ := gb_rdE hF
    refine gb_getR fX11_22 dX11_deed_53 (gb_kE g126) ea127 ?_
    refine gb_iload_n dX11_deed_56 rfl rfl ?_
    refine gb_iconst (v := (3 : Int32)) dX11_deed_57 (by decide) ?_
    refine gb_iadd dX11_deed_58 ?_
    refine gb_aload_n dX11_deed_59 rfl rfl ?_
    obtain ⟨g128, hF⟩ := gb_gdE hF
    obtain ⟨x129, h130, cx129, hF⟩ := gb_bdE hF
    refine gb_cV (As := []) (S := [.int (p1 + (3 : Int32)), .ref a127]) (v := some (.int x129)) (h1 := h130) (S2 := [.int x129, .int (p1 + (3 : Int32)), .ref a127]) cf11 dX11_deed_60 mtX11_kind lX11_175 inX11_kind seX11_kind (gb_kE g128) (fnX11_kind_ok _ _ cx129) (by decide) rfl (Nat.le_of_ble_eq_true rfl) (Nat.le_of_ble_eq_true rfl) rfl rfl ?_
    obtain ⟨x131, ex131, hF⟩ := gb_ltE hF
    refine gb_topI2 ex131 ?_
    obtain ⟨g132, hF⟩ := gb_gdE hF
    obtain ⟨g133, hF⟩ := gb_gdE hF
    obtain ⟨h134, eh134, hF⟩ := gb_ltE hF
    refine gb_iast dX11_deed_63 (gb_kE g132) (gb_inE g133) (gb_hp eh134 ?_)
    refine gb_goto (tgt := 242) dX11_deed_64 (by decide) ?_
    exact gb_wk (fbX11_deed_242_ok h134 r hF) trivial
def fbX11_part_284 (h : gb_H) : Option (Unit × gb_H) :=
  some ((), h)
theorem fbX11_part_284_ok {X : gb_X} (h : gb_H) (r : Unit × gb_H) (hF : fbX11_part_284 h = some r) : gb_Ev X 6 mX11_part 284 [none, none] [] h (gb_wV r) := by
  unfold fbX11_part_284 at hF
  cases hF
  exact gb_vret dX11_part_284 rfl
def fbX11_part_267 (v0 : Nat) (h : gb_H) : Option (Unit × gb_H) :=
  gb_gd (gb_k h v0 11) <|
  gb_bd (fnX11_good v0 h) fun x2 h3 =>
  if x2 = 0 then
    fbX11_part_284 h3
  else
    gb_gd (gb_k h3 v0 11) <|
    gb_gd (gb_k h3 v0 11) <|
    gb_lt (gb_sI h3 v0 9 ((gb_I h3 v0 9) + (1 : Int32))) fun h7 =>
    fbX11_part_284 h7
theorem fbX11_part_267_ok {X : gb_X} (v0 : Nat) (h : gb_H) (r : Unit × gb_H) (hF : fbX11_part_267 v0 h = some r) : gb_Ev X 6 mX11_part 267 [some (.ref v0), none] [] h (gb_wV r) := by
  unfold fbX11_part_267 at hF
  refine gb_aload_n dX11_part_267 rfl rfl ?_
  obtain ⟨g1, hF⟩ := gb_gdE hF
  obtain ⟨x2, h3, cx2, hF⟩ := gb_bdE hF
  refine gb_cV (As := []) (S := []) (v := some (.int x2)) (h1 := h3) (S2 := [.int x2]) cf11 dX11_part_268 mtX11_good lX11_146 inX11_good seX11_good (gb_kE g1) (fnX11_good_ok _ _ cx2) (by decide) rfl (Nat.le_of_ble_eq_true rfl) (Nat.le_of_ble_eq_true rfl) rfl rfl ?_
  refine gb_if_eq (tgt := 284) dX11_part_271 (by decide) (fun c4 => ?_) (fun c4 => ?_)
  · replace hF := gb_ifT c4 hF
    exact gb_wk (fbX11_part_284_ok h3 r hF) trivial
  · replace hF := gb_ifF c4 hF
    refine gb_aload_n dX11_part_274 rfl rfl ?_
    refine gb_dup dX11_part_275 rfl ?_
    obtain ⟨g5, hF⟩ := gb_gdE hF
    refine gb_getI fX11_133 dX11_part_276 (gb_kE g5) ?_
    refine gb_iconst (v := (1 : Int32)) dX11_part_279 (by decide) ?_
    refine gb_iadd dX11_part_280 ?_
    obtain ⟨g6, hF⟩ := gb_gdE hF
    obtain ⟨h7, eh7, hF⟩ := gb_ltE hF
    refine gb_putI fX11_133 (gb_nff nf11_9) dX11_part_281 (gb_kE g6) (fun _ => ⟨rfl, rfl⟩) (gb_hp eh7 ?_)
    exact gb_wk (fbX11_part_284_ok h7 r hF) trivial
def fbX11_part_117 (v0 : Nat) (v1 : Int32) (h : gb_H) : Option (Unit × gb_H) :=
  gb_gd (gb_k h v0 11) <|
  gb_bd (fnX11_good v0 h) fun x2 h3 =>
  if x2 = 0 then
    fbX11_part_267 v0 h3
  else
    gb_gd (gb_k h3 v0 11) <|
    gb_bd (fnX11_deed v0 v1 h3) fun _ h7 =>
    fbX11_part_267 v0 h7
theorem fbX11_part_117_ok {X : gb_X} (v0 : Nat) (v1 : Int32) (h : gb_H) (r : Unit × gb_H) (hF : fbX11_part_117 v0 v1 h = some r) : gb_Ev X 6 mX11_part 117 [some (.ref v0), some (.int v1)] [] h (gb_wV r) := by
  unfold fbX11_part_117 at hF
  refine gb_aload_n dX11_part_117 rfl rfl ?_
  obtain ⟨g1, hF⟩ := gb_gdE hF
  obtain ⟨x2, h3, cx2, hF⟩ := gb_bdE hF
  refine gb_cV (As := []) (S := []) (v := some (.int x2)) (h1 := h3) (S2 := [.int x2]) cf11 dX11_part_118 mtX11_good lX11_146 inX11_good seX11_good (gb_kE g1) (fnX11_good_ok _ _ cx2) (by decide) rfl (Nat.le_of_ble_eq_true rfl) (Nat.le_of_ble_eq_true rfl) rfl rfl ?_
  refine gb_if_eq (tgt := 267) dX11_part_121 (by decide) (fun c4 => ?_) (fun c4 => ?_)
  · replace hF := gb_ifT c4 hF
    exact gb_wk (fbX11_part_267_ok v0 h3 r hF) (And.intro rfl trivial)
  · replace hF := gb_ifF c4 hF
    refine gb_aload_n dX11_part_124 rfl rfl ?_
    refine gb_iload_n dX11_part_125 rfl rfl ?_
    obtain ⟨g5, hF⟩ := gb_gdE hF
    obtain ⟨x6, h7, cx6, hF⟩ := gb_bdE hF
    refine gb_cV (As := [.int v1]) (S := []) (v := none) (h1 := h7) (S2 := []) cf11 dX11_part_126 mtX11_deed lX11_200 inX11_deed seX11_deed (gb_kE g5) (fnX11_deed_ok _ _ cx6) (by decide) rfl (Nat.le_of_ble_eq_true rfl) (Nat.le_of_ble_eq_true rfl) rfl rfl ?_
    refine gb_goto (tgt := 267) dX11_part_129 (by decide) ?_
    exact gb_wk (fbX11_part_267_ok v0 h7 r hF) (And.intro rfl trivial)
def fbX11_part_89 (v0 : Nat) (v1 : Int32) (h : gb_H) : Option (Unit × gb_H) :=
  gb_gd (gb_k h v0 11) <|
  gb_rd (gb_R h v0 7) fun a2 =>
  gb_gd (gb_k h v0 11) <|
  gb_bd (fnX11_number v0 (3 : Int32) h) fun x4 h5 =>
  gb_lt (v1 + (7 : Int32)) fun x6 =>
  gb_gd (gb_k h5 a2 20) <|
  gb_gd (gb_in h5 a2 x6) <|
  gb_lt (gb_sI h5 a2 x6.toNatClampNeg x4) fun h9 =>
  gb_gd (gb_k h9 v0 11) <|
  gb_bd (fnX11_takesWord v0 (484 : Int64) h9) fun x11 h12 =>
  if x11 = 0 then
    gb_gd (gb_k h12 v0 11) <|
    gb_bd (fnX11_faults v0 h12) fun _ h16 =>
    fbX11_part_117 v0 v1 h16
  else
    fbX11_part_117 v0 v1 h12
theorem fbX11_part_89_ok {X : gb_X} (v0 : Nat) (v1 : Int32) (h : gb_H) (r : Unit × gb_H) (hF : fbX11_part_89 v0 v1 h = some r) : gb_Ev X 6 mX11_part 89 [some (.ref v0), some (.int v1)] [] h (gb_wV r) := by
  unfold fbX11_part_89 at hF
  refine gb_aload_n dX11_part_89 rfl rfl ?_
  obtain ⟨g1, hF⟩ := gb_gdE hF
  obtain ⟨a2, ea2, hF⟩ := gb_rdE hF
  refine gb_getR fX11_22 dX11_part_90 (gb_kE g1) ea2 ?_
  refine gb_iload_n dX11_part_93 rfl rfl ?_
  refine gb_bipush (v := (7 : Int32)) dX11_part_94 (by decide) ?_
  refine gb_iadd dX11_part_96 ?_
  refine gb_aload_n dX11_part_97 rfl rfl ?_
  refine gb_iconst (v := (3 : Int32)) dX11_part_98 (by decide) ?_
  obtain ⟨g3, hF⟩ := gb_gdE hF
  obtain ⟨x4, h5, cx4, hF⟩ := gb_bdE hF
  refine gb_cV (As := [.int (3 : Int32)]) (S := [.int (v1 + (7 : Int32)), .ref a2]) (v := some (.int x4)) (h1 := h5) (S2 := [.int x4, .int (v1 + (7 : Int32)), .ref a2]) cf11 dX11_part_99 mtX11_number lX11_157 inX11_number seX11_number (gb_kE g3) (fnX11_number_ok _ _ cx4) (by decide) rfl (Nat.le_of_ble_eq_true rfl) (Nat.le_of_ble_eq_true rfl) rfl rfl ?_
  obtain ⟨x6, ex6, hF⟩ := gb_ltE hF
  refine gb_topI2 ex6 ?_
  obtain ⟨g7, hF⟩ := gb_gdE hF
  obtain ⟨g8, hF⟩ := gb_gdE hF
  obtain ⟨h9, eh9, hF⟩ := gb_ltE hF
  refine gb_iast dX11_part_102 (gb_kE g7) (gb_inE g8) (gb_hp eh9 ?_)
  refine gb_aload_n dX11_part_103 rfl rfl ?_
  refine gb_ldc2 (v := (484 : Int64)) dX11_part_104 kX11_198 ?_
  obtain ⟨g10, hF⟩ := gb_gdE hF
  obtain ⟨x11, h12, cx11, hF⟩ := gb_bdE hF
  refine gb_cV (As := [.long (484 : Int64)]) (S := []) (v := some (.int x11)) (h1 := h12) (S2 := [.int x11]) cf11 dX11_part_107 mtX11_takesWord lX11_162 inX11_takesWord seX11_takesWord (gb_kE g10) (fnX11_takesWord_ok _ _ cx11) (by decide) rfl (Nat.le_of_ble_eq_true rfl) (Nat.le_of_ble_eq_true rfl) rfl rfl ?_
  refine gb_if_ne (tgt := 117) dX11_part_110 (by decide) (fun c13 => ?_) (fun c13 => ?_)
  · replace hF := gb_ifF c13 hF
    exact gb_wk (fbX11_part_117_ok v0 v1 h12 r hF) (And.intro rfl (And.intro rfl trivial))
  · replace hF := gb_ifT c13 hF
    refine gb_aload_n dX11_part_113 rfl rfl ?_
    obtain ⟨g14, hF⟩ := gb_gdE hF
    obtain ⟨x15, h16, cx15, hF⟩ := gb_bdE hF
    refine gb_cV (As := []) (S := []) (v := none) (h1 := h16) (S2 := []) cf11 dX11_part_114 mtX11_faults lX11_154 inX11_faults seX11_faults (gb_kE g14) (fnX11_faults_ok _ _ cx15) (by decide) rfl (Nat.le_of_ble_eq_true rfl) (Nat.le_of_ble_eq_true rfl) rfl rfl ?_
    exact gb_wk (fbX11_part_117_ok v0 v1 h16 r hF) (And.intro rfl (And.intro rfl trivial))
def fbX11_part_51 (v0 : Nat) (v1 : Int32) (h : gb_H) : Option (Unit × gb_H) :=
  gb_gd (gb_k h v0 11) <|
  gb_bd (fnX11_takesWord v0 (201 : Int64) h) fun x2 h3 =>
  if x2 = 0 then
    gb_gd (gb_k h3 v0 11) <|
    gb_bd (fnX11_takesWord v0 (183788 : Int64) h3) fun x6 h7 =>
    if x6 = 0 then
      gb_gd (gb_k h7 v0 11) <|
      gb_bd (fnX11_takesWord v0 (21452259 : Int64) h7) fun x10 h11 =>
      if x10 = 0 then
        gb_gd (gb_k h11 v0 11) <|
        gb_bd (fnX11_good v0 h11) fun x14 h15 =>
        if x14 = 0 then
          fbX11_part_267 v0 h15
        else
          gb_gd (gb_k h15 v0 11) <|
          gb_bd (fnX11_deed v0 v1 h15) fun _ h19 =>
          fbX11_part_267 v0 h19
      else
        gb_gd (gb_k h11 v0 11) <|
        gb_rd (gb_R h11 v0 7) fun a21 =>
        gb_gd (gb_k h11 a21 20) <|
        gb_gd (gb_in h11 a21 v1) <|
        gb_lt (gb_sI h11 a21 v1.toNatClampNeg (5 : Int32)) fun h24 =>
        gb_gd (gb_k h24 v0 11) <|
        gb_rd (gb_R h24 v0 7) fun a26 =>
        gb_gd (gb_k h24 v0 11) <|
        gb_bd (fnX11_path v0 (0 : Int32) (-1 : Int32) h24) fun x28 h29 =>
        gb_lt (v1 + (1 : Int32)) fun x30 =>
        gb_gd (gb_k h29 a26 20) <|
        gb_gd (gb_in h29 a26 x30) <|
        gb_lt (gb_sI h29 a26 x30.toNatClampNeg x28) fun h33 =>
        gb_gd (gb_k h33 v0 11) <|
        gb_bd (fnX11_good v0 h33) fun x35 h36 =>
        if x35 = 0 then
          fbX11_part_267 v0 h36
        else
          gb_gd (gb_k h36 v0 11) <|
          gb_rd (gb_R h36 v0 8) fun a39 =>
          gb_gd (gb_k h36 v0 11) <|
          gb_rd (gb_R h36 v0 7) fun a41 =>
          gb_lt (v1 + (1 : Int32)) fun x42 =>
          gb_gd (gb_k h36 a41 20) <|
          gb_gd (gb_in h36 a41 x42) <|
          gb_lt (gb_I h36 a41 x42.toNatClampNeg) fun x45 =>
          gb_gd (gb_k h36 a39 21) <|
          gb_gd (gb_in h36 a39 x45) <|
          gb_lt (gb_sI h36 a39 x45.toNatClampNeg ((1 : Int32) &&& 1)) fun h48 =>
          fbX11_part_267 v0 h48
    else
      gb_gd (gb_k h7 v0 11) <|
      gb_rd (gb_R h7 v0 7) fun a50 =>
      gb_gd (gb_k h7 a50 20) <|
      gb_gd (gb_in h7 a50 v1) <|
      gb_lt (gb_sI h7 a50 v1.toNatClampNeg (4 : Int32)) fun h53 =>
      gb_gd (gb_k h53 v0 11) <|
      gb_rd (gb_R h53 v0 7) fun a55 =>
      gb_gd (gb_k h53 v0 11) <|
      gb_bd (fnX11_path v0 (0 : Int32) (-1 : Int32) h53) fun x57 h58 =>
      gb_lt (v1 + (1 : Int32)) fun x59 =>
      gb_gd (gb_k h58 a55 20) <|
      gb_gd (gb_in h58 a55 x59) <|
      gb_lt (gb_sI h58 a55 x59.toNatClampNeg x57) fun h62 =>
      gb_gd (gb_k h62 v0 11) <|
      gb_rd (gb_R h62 v0 7) fun a64 =>
      gb_gd (gb_k h62 v0 11) <|
      gb_lt (v1 + (2 : Int32)) fun x66 =>
      gb_gd (gb_k h62 a64 20) <|
      gb_gd (gb_in h62 a64 x66) <|
      gb_lt (gb_sI h62 a64 x66.toNatClampNeg (gb_I h62 v0 10)) fun h69 =>
      gb_gd (gb_k h69 v0 11) <|
      gb_rd (gb_R h69 v0 7) fun a71 =>
      gb_gd (gb_k h69 v0 11) <|
      gb_bd (fnX11_kind v0 h69) fun x73 h74 =>
      gb_lt (v1 + (3 : Int32)) fun x75 =>
      gb_gd (gb_k h74 a71 20) <|
      gb_gd (gb_in h74 a71 x75) <|
      gb_lt (gb_sI h74 a71 x75.toNatClampNeg x73) fun h78 =>
      gb_gd (gb_k h78 v0 11) <|
      gb_gd (gb_k h78 v0 11) <|
      gb_lt (gb_sI h78 v0 10 ((gb_I h78 v0 10) + (1 : Int32))) fun h81 =>
      fbX11_part_267 v0 h81
  else
    gb_gd (gb_k h3 v0 11) <|
    gb_rd (gb_R h3 v0 7) fun a83 =>
    gb_gd (gb_k h3 v0 11) <|
    gb_bd (fnX11_path v0 (1 : Int32) (-1 : Int32) h3) fun x85 h86 =>
    gb_lt (v1 + (6 : Int32)) fun x87 =>
    gb_gd (gb_k h86 a83 20) <|
    gb_gd (gb_in h86 a83 x87) <|
    gb_lt (gb_sI h86 a83 x87.toNatClampNeg x85) fun h90 =>
    gb_gd (gb_k h90 v0 11) <|
    gb_bd (fnX11_takesSign v0 (61 : Int32) h90) fun x92 h93 =>
    if x92 = 0 then
      gb_gd (gb_k h93 v0 11) <|
      gb_bd (fnX11_faults v0 h93) fun _ h97 =>
      fbX11_part_89 v0 v1 h97
    else
      fbX11_part_89 v0 v1 h93
theorem fbX11_part_51_ok {X : gb_X} (v0 : Nat) (v1 : Int32) (h : gb_H) (r : Unit × gb_H) (hF : fbX11_part_51 v0 v1 h = some r) : gb_Ev X 6 mX11_part 51 [some (.ref v0), some (.int v1)] [] h (gb_wV r) := by
  unfold fbX11_part_51 at hF
  refine gb_aload_n dX11_part_51 rfl rfl ?_
  refine gb_ldc2 (v := (201 : Int64)) dX11_part_52 kX11_192 ?_
  obtain ⟨g1, hF⟩ := gb_gdE hF
  obtain ⟨x2, h3, cx2, hF⟩ := gb_bdE hF
  refine gb_cV (As := [.long (201 : Int64)]) (S := []) (v := some (.int x2)) (h1 := h3) (S2 := [.int x2]) cf11 dX11_part_55 mtX11_takesWord lX11_162 inX11_takesWord seX11_takesWord (gb_kE g1) (fnX11_takesWord_ok _ _ cx2) (by decide) rfl (Nat.le_of_ble_eq_true rfl) (Nat.le_of_ble_eq_true rfl) rfl rfl ?_
  refine gb_if_eq (tgt := 132) dX11_part_58 (by decide) (fun c4 => ?_) (fun c4 => ?_)
  · replace hF := gb_ifT c4 hF
    refine gb_aload_n dX11_part_132 rfl rfl ?_
    refine gb_ldc2 (v := (183788 : Int64)) dX11_part_133 kX11_190 ?_
    obtain ⟨g5, hF⟩ := gb_gdE hF
    obtain ⟨x6, h7, cx6, hF⟩ := gb_bdE hF
    refine gb_cV (As := [.long (183788 : Int64)]) (S := []) (v := some (.int x6)) (h1 := h7) (S2 := [.int x6]) cf11 dX11_part_136 mtX11_takesWord lX11_162 inX11_takesWord seX11_takesWord (gb_kE g5) (fnX11_takesWord_ok _ _ cx6) (by decide) rfl (Nat.le_of_ble_eq_true rfl) (Nat.le_of_ble_eq_true rfl) rfl rfl ?_
    refine gb_if_eq (tgt := 200) dX11_part_139 (by decide) (fun c8 => ?_) (fun c8 => ?_)
    · replace hF := gb_ifT c8 hF
      refine gb_aload_n dX11_part_200 rfl rfl ?_
      refine gb_ldc2 (v := (21452259 : Int64)) dX11_part_201 kX11_204 ?_
      obtain ⟨g9, hF⟩ := gb_gdE hF
      obtain ⟨x10, h11, cx10, hF⟩ := gb_bdE hF
      refine gb_cV (As := [.long (21452259 : Int64)]) (S := []) (v := some (.int x10)) (h1 := h11) (S2 := [.int x10]) cf11 dX11_part_204 mtX11_takesWord lX11_162 inX11_takesWord seX11_takesWord (gb_kE g9) (fnX11_takesWord_ok _ _ cx10) (by decide) rfl (Nat.le_of_ble_eq_true rfl) (Nat.le_of_ble_eq_true rfl) rfl rfl ?_
      refine gb_if_eq (tgt := 255) dX11_part_207 (by decide) (fun c12 => ?_) (fun c12 => ?_)
      · replace hF := gb_ifT c12 hF
        refine gb_aload_n dX11_part_255 rfl rfl ?_
        obtain ⟨g13, hF⟩ := gb_gdE hF
        obtain ⟨x14, h15, cx14, hF⟩ := gb_bdE hF
        refine gb_cV (As := []) (S := []) (v := some (.int x14)) (h1 := h15) (S2 := [.int x14]) cf11 dX11_part_256 mtX11_good lX11_146 inX11_good seX11_good (gb_kE g13) (fnX11_good_ok _ _ cx14) (by decide) rfl (Nat.le_of_ble_eq_true rfl) (Nat.le_of_ble_eq_true rfl) rfl rfl ?_
        refine gb_if_eq (tgt := 267) dX11_part_259 (by decide) (fun c16 => ?_) (fun c16 => ?_)
        · replace hF := gb_ifT c16 hF
          exact gb_wk (fbX11_part_267_ok v0 h15 r hF) (And.intro rfl trivial)
        · replace hF := gb_ifF c16 hF
          refine gb_aload_n dX11_part_262 rfl rfl ?_
          refine gb_iload_n dX11_part_263 rfl rfl ?_
          obtain ⟨g17, hF⟩ := gb_gdE hF
          obtain ⟨x18, h19, cx18, hF⟩ := gb_bdE hF
          refine gb_cV (As := [.int v1]) (S := []) (v := none) (h1 := h19) (S2 := []) cf11 dX11_part_264 mtX11_deed lX11_200 inX11_deed seX11_deed (gb_kE g17) (fnX11_deed_ok _ _ cx18) (by decide) rfl (Nat.le_of_ble_eq_true rfl) (Nat.le_of_ble_eq_true rfl) rfl rfl ?_
          exact gb_wk (fbX11_part_267_ok v0 h19 r hF) (And.intro rfl trivial)
      · replace hF := gb_ifF c12 hF
        refine gb_aload_n dX11_part_210 rfl rfl ?_
        obtain ⟨g20, hF⟩ := gb_gdE hF
        obtain ⟨a21, ea21, hF⟩ := gb_rdE hF
        refine gb_getR fX11_22 dX11_part_211 (gb_kE g20) ea21 ?_
        refine gb_iload_n dX11_part_214 rfl rfl ?_
        refine gb_iconst (v := (5 : Int32)) dX11_part_215 (by decide) ?_
        obtain ⟨g22, hF⟩ := gb_gdE hF
        obtain ⟨g23, hF⟩ := gb_gdE hF
        obtain ⟨h24, eh24, hF⟩ := gb_ltE hF
        refine gb_iast dX11_part_216 (gb_kE g22) (gb_inE g23) (gb_hp eh24 ?_)
        refine gb_aload_n dX11_part_217 rfl rfl ?_
        obtain ⟨g25, hF⟩ := gb_gdE hF
        obtain ⟨a26, ea26, hF⟩ := gb_rdE hF
        refine gb_getR fX11_22 dX11_part_218 (gb_kE g25) ea26 ?_
        refine gb_iload_n dX11_part_221 rfl rfl ?_
        refine gb_iconst (v := (1 : Int32)) dX11_part_222 (by decide) ?_
        refine gb_iadd dX11_part_223 ?_
        refine gb_aload_n dX11_part_224 rfl rfl ?_
        refine gb_iconst (v := (0 : Int32)) dX11_part_225 (by decide) ?_
        refine gb_iconst (v := (-1 : Int32)) dX11_part_226 (by decide) ?_
        obtain ⟨g27, hF⟩ := gb_gdE hF
        obtain ⟨x28, h29, cx28, hF⟩ := gb_bdE hF
        refine gb_cV (As := [.int (0 : Int32), .int (-1 : Int32)]) (S := [.int (v1 + (1 : Int32)), .ref a26]) (v := some (.int x28)) (h1 := h29) (S2 := [.int x28, .int (v1 + (1 : Int32)), .ref a26]) cf11 dX11_part_227 mtX11_path lX11_171 inX11_path seX11_path (gb_kE g27) (fnX11_path_ok _ _ cx28) (by decide) rfl (Nat.le_of_ble_eq_true rfl) (Nat.le_of_ble_eq_true rfl) rfl rfl ?_
        obtain ⟨x30, ex30, hF⟩ := gb_ltE hF
        refine gb_topI2 ex30 ?_
        obtain ⟨g31, hF⟩ := gb_gdE hF
        obtain ⟨g32, hF⟩ := gb_gdE hF
        obtain ⟨h33, eh33, hF⟩ := gb_ltE hF
        refine gb_iast dX11_part_230 (gb_kE g31) (gb_inE g32) (gb_hp eh33 ?_)
        refine gb_aload_n dX11_part_231 rfl rfl ?_
        obtain ⟨g34, hF⟩ := gb_gdE hF
        obtain ⟨x35, h36, cx35, hF⟩ := gb_bdE hF
        refine gb_cV (As := []) (S := []) (v := some (.int x35)) (h1 := h36) (S2 := [.int x35]) cf11 dX11_part_232 mtX11_good lX11_146 inX11_good seX11_good (gb_kE g34) (fnX11_good_ok _ _ cx35) (by decide) rfl (Nat.le_of_ble_eq_true rfl) (Nat.le_of_ble_eq_true rfl) rfl rfl ?_
        refine gb_if_eq (tgt := 267) dX11_part_235 (by decide) (fun c37 => ?_) (fun c37 => ?_)
        · replace hF := gb_ifT c37 hF
          exact gb_wk (fbX11_part_267_ok v0 h36 r hF) (And.intro rfl trivial)
        · replace hF := gb_ifF c37 hF
          refine gb_aload_n dX11_part_238 rfl rfl ?_
          obtain ⟨g38, hF⟩ := gb_gdE hF
          obtain ⟨a39, ea39, hF⟩ := gb_rdE hF
          refine gb_getR fX11_25 dX11_part_239 (gb_kE g38) ea39 ?_
          refine gb_aload_n dX11_part_242 rfl rfl ?_
          obtain ⟨g40, hF⟩ := gb_gdE hF
          obtain ⟨a41, ea41, hF⟩ := gb_rdE hF
          refine gb_getR fX11_22 dX11_part_243 (gb_kE g40) ea41 ?_
          refine gb_iload_n dX11_part_246 rfl rfl ?_
          refine gb_iconst (v := (1 : Int32)) dX11_part_247 (by decide) ?_
          refine gb_iadd dX11_part_248 ?_
          obtain ⟨x42, ex42, hF⟩ := gb_ltE hF
          refine gb_topI ex42 ?_
          obtain ⟨g43, hF⟩ := gb_gdE hF
          obtain ⟨g44, hF⟩ := gb_gdE hF
          refine gb_iald dX11_part_249 (gb_kE g43) (gb_inE g44) ?_
          refine gb_iconst (v := (1 : Int32)) dX11_part_250 (by decide) ?_
          obtain ⟨x45, ex45, hF⟩ := gb_ltE hF
          refine gb_topI2 ex45 ?_
          obtain ⟨g46, hF⟩ := gb_gdE hF
          obtain ⟨g47, hF⟩ := gb_gdE hF
          obtain ⟨h48, eh48, hF⟩ := gb_ltE hF
          refine gb_zast dX11_part_251 (gb_kE g46) (gb_inE g47) (gb_hp eh48 ?_)
          refine gb_goto (tgt := 267) dX11_part_252 (by decide) ?_
          exact gb_wk (fbX11_part_267_ok v0 h48 r hF) (And.intro rfl trivial)
    · replace hF := gb_ifF c8 hF
      refine gb_aload_n dX11_part_142 rfl rfl ?_
      obtain ⟨g49, hF⟩ := gb_gdE hF
      obtain ⟨a50, ea50, hF⟩ := gb_rdE hF
      refine gb_getR fX11_22 dX11_part_143 (gb_kE g49) ea50 ?_
      refine gb_iload_n dX11_part_146 rfl rfl ?_
      refine gb_iconst (v := (4 : Int32)) dX11_part_147 (by decide) ?_
      obtain ⟨g51, hF⟩ := gb_gdE hF
      obtain ⟨g52, hF⟩ := gb_gdE hF
      obtain ⟨h53, eh53, hF⟩ := gb_ltE hF
      refine gb_iast dX11_part_148 (gb_kE g51) (gb_inE g52) (gb_hp eh53 ?_)
      refine gb_aload_n dX11_part_149 rfl rfl ?_
      obtain ⟨g54, hF⟩ := gb_gdE hF
      obtain ⟨a55, ea55, hF⟩ := gb_rdE hF
      refine gb_getR fX11_22 dX11_part_150 (gb_kE g54) ea55 ?_
      refine gb_iload_n dX11_part_153 rfl rfl ?_
      refine gb_iconst (v := (1 : Int32)) dX11_part_154 (by decide) ?_
      refine gb_iadd dX11_part_155 ?_
      refine gb_aload_n dX11_part_156 rfl rfl ?_
      refine gb_iconst (v := (0 : Int32)) dX11_part_157 (by decide) ?_
      refine gb_iconst (v := (-1 : Int32)) dX11_part_158 (by decide) ?_
      obtain ⟨g56, hF⟩ := gb_gdE hF
      obtain ⟨x57, h58, cx57, hF⟩ := gb_bdE hF
      refine gb_cV (As := [.int (0 : Int32), .int (-1 : Int32)]) (S := [.int (v1 + (1 : Int32)), .ref a55]) (v := some (.int x57)) (h1 := h58) (S2 := [.int x57, .int (v1 + (1 : Int32)), .ref a55]) cf11 dX11_part_159 mtX11_path lX11_171 inX11_path seX11_path (gb_kE g56) (fnX11_path_ok _ _ cx57) (by decide) rfl (Nat.le_of_ble_eq_true rfl) (Nat.le_of_ble_eq_true rfl) rfl rfl ?_
      obtain ⟨x59, ex59, hF⟩ := gb_ltE hF
      refine gb_topI2 ex59 ?_
      obtain ⟨g60, hF⟩ := gb_gdE hF
      obtain ⟨g61, hF⟩ := gb_gdE hF
      obtain ⟨h62, eh62, hF⟩ := gb_ltE hF
      refine gb_iast dX11_part_162 (gb_kE g60) (gb_inE g61) (gb_hp eh62 ?_)
      refine gb_aload_n dX11_part_163 rfl rfl ?_
      obtain ⟨g63, hF⟩ := gb_gdE hF
      obtain ⟨a64, ea64, hF⟩ := gb_rdE hF
      refine gb_getR fX11_22 dX11_part_164 (gb_kE g63) ea64 ?_
      refine gb_iload_n dX11_part_167 rfl rfl ?_
      refine gb_iconst (v := (2 : Int32)) dX11_part_168 (by decide) ?_
      refine gb_iadd dX11_part_169 ?_
      refine gb_aload_n dX11_part_170 rfl rfl ?_
      obtain ⟨g65, hF⟩ := gb_gdE hF
      refine gb_getI fX11_136 dX11_part_171 (gb_kE g65) ?_
      obtain ⟨x66, ex66, hF⟩ := gb_ltE hF
      refine gb_topI2 ex66 ?_
      obtain ⟨g67, hF⟩ := gb_gdE hF
      obtain ⟨g68, hF⟩ := gb_gdE hF
      obtain ⟨h69, eh69, hF⟩ := gb_ltE hF
      refine gb_iast dX11_part_174 (gb_kE g67) (gb_inE g68) (gb_hp eh69 ?_)
      refine gb_aload_n dX11_part_175 rfl rfl ?_
      obtain ⟨g70, hF⟩ := gb_gdE hF
      obtain ⟨a71, ea71, hF⟩ := gb_rdE hF
      refine gb_getR fX11_22 dX11_part_176 (gb_kE g70) ea71 ?_
      refine gb_iload_n dX11_part_179 rfl rfl ?_
      refine gb_iconst (v := (3 : Int32)) dX11_part_180 (by decide) ?_
      refine gb_iadd dX11_part_181 ?_
      refine gb_aload_n dX11_part_182 rfl rfl ?_
      obtain ⟨g72, hF⟩ := gb_gdE hF
      obtain ⟨x73, h74, cx73, hF⟩ := gb_bdE hF
      refine gb_cV (As := []) (S := [.int (v1 + (3 : Int32)), .ref a71]) (v := some (.int x73)) (h1 := h74) (S2 := [.int x73, .int (v1 + (3 : Int32)), .ref a71]) cf11 dX11_part_183 mtX11_kind lX11_175 inX11_kind seX11_kind (gb_kE g72) (fnX11_kind_ok _ _ cx73) (by decide) rfl (Nat.le_of_ble_eq_true rfl) (Nat.le_of_ble_eq_true rfl) rfl rfl ?_
      obtain ⟨x75, ex75, hF⟩ := gb_ltE hF
      refine gb_topI2 ex75 ?_
      obtain ⟨g76, hF⟩ := gb_gdE hF
      obtain ⟨g77, hF⟩ := gb_gdE hF
      obtain ⟨h78, eh78, hF⟩ := gb_ltE hF
      refine gb_iast dX11_part_186 (gb_kE g76) (gb_inE g77) (gb_hp eh78 ?_)
      refine gb_aload_n dX11_part_187 rfl rfl ?_
      refine gb_dup dX11_part_188 rfl ?_
      obtain ⟨g79, hF⟩ := gb_gdE hF
      refine gb_getI fX11_136 dX11_part_189 (gb_kE g79) ?_
      refine gb_iconst (v := (1 : Int32)) dX11_part_192 (by decide) ?_
      refine gb_iadd dX11_part_193 ?_
      obtain ⟨g80, hF⟩ := gb_gdE hF
      obtain ⟨h81, eh81, hF⟩ := gb_ltE hF
      refine gb_putI fX11_136 (gb_nff nf11_10) dX11_part_194 (gb_kE g80) (fun _ => ⟨rfl, rfl⟩) (gb_hp eh81 ?_)
      refine gb_goto (tgt := 267) dX11_part_197 (by decide) ?_
      exact gb_wk (fbX11_part_267_ok v0 h81 r hF) (And.intro rfl trivial)
  · replace hF := gb_ifF c4 hF
    refine gb_aload_n dX11_part_61 rfl rfl ?_
    obtain ⟨g82, hF⟩ := gb_gdE hF
    obtain ⟨a83, ea83, hF⟩ := gb_rdE hF
    refine gb_getR fX11_22 dX11_part_62 (gb_kE g82) ea83 ?_
    refine gb_iload_n dX11_part_65 rfl rfl ?_
    refine gb_bipush (v := (6 : Int32)) dX11_part_66 (by decide) ?_
    refine gb_iadd dX11_part_68 ?_
    refine gb_aload_n dX11_part_69 rfl rfl ?_
    refine gb_iconst (v := (1 : Int32)) dX11_part_70 (by decide) ?_
    refine gb_iconst (v := (-1 : Int32)) dX11_part_71 (by decide) ?_
    obtain ⟨g84, hF⟩ := gb_gdE hF
    obtain ⟨x85, h86, cx85, hF⟩ := gb_bdE hF
    refine gb_cV (As := [.int (1 : Int32), .int (-1 : Int32)]) (S := [.int (v1 + (6 : Int32)), .ref a83]) (v := some (.int x85)) (h1 := h86) (S2 := [.int x85, .int (v1 + (6 : Int32)), .ref a83]) cf11 dX11_part_72 mtX11_path lX11_171 inX11_path seX11_path (gb_kE g84) (fnX11_path_ok _ _ cx85) (by decide) rfl (Nat.le_of_ble_eq_true rfl) (Nat.le_of_ble_eq_true rfl) rfl rfl ?_
    obtain ⟨x87, ex87, hF⟩ := gb_ltE hF
    refine gb_topI2 ex87 ?_
    obtain ⟨g88, hF⟩ := gb_gdE hF
    obtain ⟨g89, hF⟩ := gb_gdE hF
    obtain ⟨h90, eh90, hF⟩ := gb_ltE hF
    refine gb_iast dX11_part_75 (gb_kE g88) (gb_inE g89) (gb_hp eh90 ?_)
    refine gb_aload_n dX11_part_76 rfl rfl ?_
    refine gb_bipush (v := (61 : Int32)) dX11_part_77 (by decide) ?_
    obtain ⟨g91, hF⟩ := gb_gdE hF
    obtain ⟨x92, h93, cx92, hF⟩ := gb_bdE hF
    refine gb_cV (As := [.int (61 : Int32)]) (S := []) (v := some (.int x92)) (h1 := h93) (S2 := [.int x92]) cf11 dX11_part_79 mtX11_takesSign lX11_194 inX11_takesSign seX11_takesSign (gb_kE g91) (fnX11_takesSign_ok _ _ cx92) (by decide) rfl (Nat.le_of_ble_eq_true rfl) (Nat.le_of_ble_eq_true rfl) rfl rfl ?_
    refine gb_if_ne (tgt := 89) dX11_part_82 (by decide) (fun c94 => ?_) (fun c94 => ?_)
    · replace hF := gb_ifF c94 hF
      exact gb_wk (fbX11_part_89_ok v0 v1 h93 r hF) (And.intro rfl (And.intro rfl trivial))
    · replace hF := gb_ifT c94 hF
      refine gb_aload_n dX11_part_85 rfl rfl ?_
      obtain ⟨g95, hF⟩ := gb_gdE hF
      obtain ⟨x96, h97, cx96, hF⟩ := gb_bdE hF
      refine gb_cV (As := []) (S := []) (v := none) (h1 := h97) (S2 := []) cf11 dX11_part_86 mtX11_faults lX11_154 inX11_faults seX11_faults (gb_kE g95) (fnX11_faults_ok _ _ cx96) (by decide) rfl (Nat.le_of_ble_eq_true rfl) (Nat.le_of_ble_eq_true rfl) rfl rfl ?_
      exact gb_wk (fbX11_part_89_ok v0 v1 h97 r hF) (And.intro rfl (And.intro rfl trivial))
def fnX11_part (p0 : Nat) (h : gb_H) : Option (Unit × gb_H) :=
  gb_gd (gb_k h p0 11) <|
  if (gb_I h p0 9) = (16 : Int32) then
    gb_gd (gb_k h p0 11) <|
    gb_bd (fnX11_faults p0 h) fun _ h5 =>
    some ((), h5)
  else
    gb_gd (gb_k h p0 11) <|
    gb_bd (fnX11_fresh p0 h) fun x7 h8 =>
    gb_gd (gb_k h8 p0 11) <|
    gb_bd (fnX11_good p0 h8) fun x10 h11 =>
    if x10 = 0 then
      fbX11_part_51 p0 x7 h11
    else
      gb_gd (gb_k h11 p0 11) <|
      gb_bd (fnX11_isWord p0 (183788 : Int64) h11) fun x14 h15 =>
      if x14 = 0 then
        fbX11_part_51 p0 x7 h15
      else
        gb_gd (gb_k h15 p0 11) <|
        if (gb_I h15 p0 10) = (3 : Int32) then
          gb_gd (gb_k h15 p0 11) <|
          gb_bd (fnX11_faults p0 h15) fun _ h21 =>
          fbX11_part_267 p0 h21
        else
          fbX11_part_51 p0 x7 h15
theorem fnX11_part_ok {X : gb_X}  {p0 : Nat} (h : gb_H) (r : Unit × gb_H) (hF : fnX11_part p0 h = some r) : gb_Ev X 6 mX11_part 0 (gb_L0 [.ref p0]) [] h (gb_wV r) := by
  unfold fnX11_part at hF
  refine gb_weak (L' := [some (.ref p0), none]) (And.intro rfl trivial) ?_
  refine gb_aload_n dX11_part_0 rfl rfl ?_
  obtain ⟨g1, hF⟩ := gb_gdE hF
  refine gb_getI fX11_133 dX11_part_1 (gb_kE g1) ?_
  refine gb_bipush (v := (16 : Int32)) dX11_part_4 (by decide) ?_
  refine gb_icmp_ne (tgt := 14) dX11_part_6 (by decide) (fun c2 => ?_) (fun c2 => ?_)
  · replace hF := gb_ifF c2 hF
    refine gb_aload_n dX11_part_14 rfl rfl ?_
    obtain ⟨g6, hF⟩ := gb_gdE hF
    obtain ⟨x7, h8, cx7, hF⟩ := gb_bdE hF
    refine gb_cV (As := []) (S := []) (v := some (.int x7)) (h1 := h8) (S2 := [.int x7]) cf11 dX11_part_15 mtX11_fresh lX11_187 inX11_fresh seX11_fresh (gb_kE g6) (fnX11_fresh_ok _ _ cx7) (by decide) rfl (Nat.le_of_ble_eq_true rfl) (Nat.le_of_ble_eq_true rfl) rfl rfl ?_
    refine gb_istore_n (L' := [some (.ref p0), some (.int x7)]) dX11_part_18 rfl (by decide) rfl rfl ?_
    refine gb_aload_n dX11_part_19 rfl rfl ?_
    obtain ⟨g9, hF⟩ := gb_gdE hF
    obtain ⟨x10, h11, cx10, hF⟩ := gb_bdE hF
    refine gb_cV (As := []) (S := []) (v := some (.int x10)) (h1 := h11) (S2 := [.int x10]) cf11 dX11_part_20 mtX11_good lX11_146 inX11_good seX11_good (gb_kE g9) (fnX11_good_ok _ _ cx10) (by decide) rfl (Nat.le_of_ble_eq_true rfl) (Nat.le_of_ble_eq_true rfl) rfl rfl ?_
    refine gb_if_eq (tgt := 51) dX11_part_23 (by decide) (fun c12 => ?_) (fun c12 => ?_)
    · replace hF := gb_ifT c12 hF
      exact gb_wk (fbX11_part_51_ok p0 x7 h11 r hF) (And.intro rfl (And.intro rfl trivial))
    · replace hF := gb_ifF c12 hF
      refine gb_aload_n dX11_part_26 rfl rfl ?_
      refine gb_ldc2 (v := (183788 : Int64)) dX11_part_27 kX11_190 ?_
      obtain ⟨g13, hF⟩ := gb_gdE hF
      obtain ⟨x14, h15, cx14, hF⟩ := gb_bdE hF
      refine gb_cV (As := [.long (183788 : Int64)]) (S := []) (v := some (.int x14)) (h1 := h15) (S2 := [.int x14]) cf11 dX11_part_30 mtX11_isWord lX11_150 inX11_isWord seX11_isWord (gb_kE g13) (fnX11_isWord_ok _ _ cx14) (by decide) rfl (Nat.le_of_ble_eq_true rfl) (Nat.le_of_ble_eq_true rfl) rfl rfl ?_
      refine gb_if_eq (tgt := 51) dX11_part_33 (by decide) (fun c16 => ?_) (fun c16 => ?_)
      · replace hF := gb_ifT c16 hF
        exact gb_wk (fbX11_part_51_ok p0 x7 h15 r hF) (And.intro rfl (And.intro rfl trivial))
      · replace hF := gb_ifF c16 hF
        refine gb_aload_n dX11_part_36 rfl rfl ?_
        obtain ⟨g17, hF⟩ := gb_gdE hF
        refine gb_getI fX11_136 dX11_part_37 (gb_kE g17) ?_
        refine gb_iconst (v := (3 : Int32)) dX11_part_40 (by decide) ?_
        refine gb_icmp_ne (tgt := 51) dX11_part_41 (by decide) (fun c18 => ?_) (fun c18 => ?_)
        · replace hF := gb_ifF c18 hF
          exact gb_wk (fbX11_part_51_ok p0 x7 h15 r hF) (And.intro rfl (And.intro rfl trivial))
        · replace hF := gb_ifT c18 hF
          refine gb_aload_n dX11_part_44 rfl rfl ?_
          obtain ⟨g19, hF⟩ := gb_gdE hF
          obtain ⟨x20, h21, cx20, hF⟩ := gb_bdE hF
          refine gb_cV (As := []) (S := []) (v := none) (h1 := h21) (S2 := []) cf11 dX11_part_45 mtX11_faults lX11_154 inX11_faults seX11_faults (gb_kE g19) (fnX11_faults_ok _ _ cx20) (by decide) rfl (Nat.le_of_ble_eq_true rfl) (Nat.le_of_ble_eq_true rfl) rfl rfl ?_
          refine gb_goto (tgt := 267) dX11_part_48 (by decide) ?_
          exact gb_wk (fbX11_part_267_ok p0 h21 r hF) (And.intro rfl trivial)
  · replace hF := gb_ifT c2 hF
    refine gb_aload_n dX11_part_9 rfl rfl ?_
    obtain ⟨g3, hF⟩ := gb_gdE hF
    obtain ⟨x4, h5, cx4, hF⟩ := gb_bdE hF
    refine gb_cV (As := []) (S := []) (v := none) (h1 := h5) (S2 := []) cf11 dX11_part_10 mtX11_faults lX11_154 inX11_faults seX11_faults (gb_kE g3) (fnX11_faults_ok _ _ cx4) (by decide) rfl (Nat.le_of_ble_eq_true rfl) (Nat.le_of_ble_eq_true rfl) rfl rfl ?_
    cases hF
    exact gb_vret dX11_part_13 rfl
def fbX11_bench_112 (k112 : Nat → Int32 → Int32 → gb_H → Option (Int32 × gb_H)) (v0 : Nat) (v1 : Int32) (v2 : Int32) (h : gb_H) : Option (Int32 × gb_H) :=
  gb_gd (gb_k h v0 11) <|
  if ((8 : Int32) * (gb_I h v0 9)) ≤ v2 then
    gb_gd (gb_k h v0 11) <|
    gb_gd (gb_k h v0 11) <|
    gb_bd (fnX11_ends v0 (gb_I h v0 9) h) fun x5 h6 =>
    some (x5, h6)
  else
    gb_gd (gb_k h v0 11) <|
    gb_rd (gb_R h v0 3) fun a8 =>
    gb_gd (gb_k h v0 11) <|
    gb_rd (gb_R h v0 7) fun a10 =>
    gb_gd (gb_k h a10 20) <|
    gb_gd (gb_in h a10 v2) <|
    gb_lt (((128 : Int32) * v1) + v2) fun x13 =>
    gb_gd (gb_k h a8 20) <|
    gb_gd (gb_in h a8 x13) <|
    gb_lt (gb_sI h a8 x13.toNatClampNeg (gb_I h a10 v2.toNatClampNeg)) fun h16 =>
    gb_lt (v2 + (1 : Int32)) fun x17 =>
    k112 v0 v1 x17 h16
theorem fbX11_bench_112_ok {X : gb_X} {k112 : Nat → Int32 → Int32 → gb_H → Option (Int32 × gb_H)} (hk112 : ∀ v0 v1 v2 h r, k112 v0 v1 v2 h = some r → gb_Ev X 7 mX11_bench 112 [some (.ref v0), some (.int v1), some (.int v2)] [] h (gb_wI r)) (v0 : Nat) (v1 : Int32) (v2 : Int32) (h : gb_H) (r : Int32 × gb_H) (hF : fbX11_bench_112 k112 v0 v1 v2 h = some r) : gb_Ev X 7 mX11_bench 112 [some (.ref v0), some (.int v1), some (.int v2)] [] h (gb_wI r) := by
  unfold fbX11_bench_112 at hF
  refine gb_iload_n dX11_bench_112 rfl rfl ?_
  refine gb_bipush (v := (8 : Int32)) dX11_bench_113 (by decide) ?_
  refine gb_aload_n dX11_bench_115 rfl rfl ?_
  obtain ⟨g1, hF⟩ := gb_gdE hF
  refine gb_getI fX11_133 dX11_bench_116 (gb_kE g1) ?_
  refine gb_imul dX11_bench_119 ?_
  refine gb_icmp_ge (tgt := 147) dX11_bench_120 (by decide) (fun c2 => ?_) (fun c2 => ?_)
  · replace hF := gb_ifT c2 hF
    refine gb_aload_n dX11_bench_147 rfl rfl ?_
    refine gb_aload_n dX11_bench_148 rfl rfl ?_
    obtain ⟨g3, hF⟩ := gb_gdE hF
    refine gb_getI fX11_133 dX11_bench_149 (gb_kE g3) ?_
    obtain ⟨g4, hF⟩ := gb_gdE hF
    obtain ⟨x5, h6, cx5, hF⟩ := gb_bdE hF
    refine gb_cV (As := [.int (gb_I h v0 9)]) (S := []) (v := some (.int x5)) (h1 := h6) (S2 := [.int x5]) cf11 dX11_bench_152 mtX11_ends lX11_108 inX11_ends seX11_ends (gb_kE g4) (fnX11_ends_ok _ _ cx5) (by decide) rfl (Nat.le_of_ble_eq_true rfl) (Nat.le_of_ble_eq_true rfl) rfl rfl ?_
    cases hF
    exact gb_iret dX11_bench_155 rfl
  · replace hF := gb_ifF c2 hF
    refine gb_aload_n dX11_bench_123 rfl rfl ?_
    obtain ⟨g7, hF⟩ := gb_gdE hF
    obtain ⟨a8, ea8, hF⟩ := gb_rdE hF
    refine gb_getR fX11_13 dX11_bench_124 (gb_kE g7) ea8 ?_
    refine gb_sipush (v := (128 : Int32)) dX11_bench_127 (by decide) ?_
    refine gb_iload_n dX11_bench_130 rfl rfl ?_
    refine gb_imul dX11_bench_131 ?_
    refine gb_iload_n dX11_bench_132 rfl rfl ?_
    refine gb_iadd dX11_bench_133 ?_
    refine gb_aload_n dX11_bench_134 rfl rfl ?_
    obtain ⟨g9, hF⟩ := gb_gdE hF
    obtain ⟨a10, ea10, hF⟩ := gb_rdE hF
    refine gb_getR fX11_22 dX11_bench_135 (gb_kE g9) ea10 ?_
    refine gb_iload_n dX11_bench_138 rfl rfl ?_
    obtain ⟨g11, hF⟩ := gb_gdE hF
    obtain ⟨g12, hF⟩ := gb_gdE hF
    refine gb_iald dX11_bench_139 (gb_kE g11) (gb_inE g12) ?_
    obtain ⟨x13, ex13, hF⟩ := gb_ltE hF
    refine gb_topI2 ex13 ?_
    obtain ⟨g14, hF⟩ := gb_gdE hF
    obtain ⟨g15, hF⟩ := gb_gdE hF
    obtain ⟨h16, eh16, hF⟩ := gb_ltE hF
    refine gb_iast dX11_bench_140 (gb_kE g14) (gb_inE g15) (gb_hp eh16 ?_)
    obtain ⟨x17, ex17, hF⟩ := gb_ltE hF
    refine gb_iinc (v := x17) (L' := [some (.ref v0), some (.int v1), some (.int x17)]) dX11_bench_141 rfl (by rw [ex17]; rfl) (by decide) rfl rfl ?_
    refine gb_goto (tgt := 112) dX11_bench_144 (by decide) ?_
    exact gb_wk (hk112 v0 v1 x17 h16 r hF) (And.intro rfl (And.intro rfl (And.intro rfl trivial)))
def lpX11_bench_112 (n : Nat) (v0 : Nat) (v1 : Int32) (v2 : Int32) (h : gb_H) : Option (Int32 × gb_H) := gb_lp (σ := Nat × Int32 × Int32 × gb_H) (fun k s => fbX11_bench_112 (fun v0 v1 v2 h => k (v0, v1, v2, h)) s.1 s.2.1 s.2.2.1 s.2.2.2) n (v0, v1, v2, h)
theorem lpX11_bench_112_ok {X : gb_X}  (n : Nat) (v0 : Nat) (v1 : Int32) (v2 : Int32) (h : gb_H) (r : Int32 × gb_H) (hF : lpX11_bench_112 n v0 v1 v2 h = some r) : gb_Ev X 7 mX11_bench 112 [some (.ref v0), some (.int v1), some (.int v2)] [] h (gb_wI r) := by
  exact gb_lpE (σ := Nat × Int32 × Int32 × gb_H) (P := fun s r => gb_Ev X 7 mX11_bench 112 [some (.ref s.1), some (.int s.2.1), some (.int s.2.2.1)] [] s.2.2.2 (gb_wI r)) (fun k hk s r hs => fbX11_bench_112_ok (fun v0 v1 v2 h r e => hk (v0, v1, v2, h) r e) _ _ _ _ r hs) n (v0, v1, v2, h) r hF
def fbX11_bench_78 (v0 : Nat) (v1 : Int32) (h : gb_H) : Option (Int32 × gb_H) :=
  gb_gd (gb_k h v0 11) <|
  gb_gd (gb_k h v0 11) <|
  gb_lt (gb_sI h v0 18 (gb_I h v0 19)) fun h3 =>
  gb_gd (gb_k h3 v0 11) <|
  gb_bd (fnX11_good v0 h3) fun x5 h6 =>
  if x5 = 0 then
    gb_gd (gb_k h6 v0 11) <|
    gb_bd (fnX11_ends v0 (-6 : Int32) h6) fun x9 h10 =>
    some (x9, h10)
  else
    gb_gd (gb_k h6 v0 11) <|
    gb_rd (gb_R h6 v0 4) fun a12 =>
    gb_gd (gb_k h6 v0 11) <|
    gb_gd (gb_k h6 a12 20) <|
    gb_gd (gb_in h6 a12 v1) <|
    gb_lt (gb_sI h6 a12 v1.toNatClampNeg (gb_I h6 v0 9)) fun h16 =>
    lpX11_bench_112 gb_FU v0 v1 (0 : Int32) h16
theorem fbX11_bench_78_ok {X : gb_X} (v0 : Nat) (v1 : Int32) (h : gb_H) (r : Int32 × gb_H) (hF : fbX11_bench_78 v0 v1 h = some r) : gb_Ev X 7 mX11_bench 78 [some (.ref v0), some (.int v1), none] [] h (gb_wI r) := by
  unfold fbX11_bench_78 at hF
  refine gb_aload_n dX11_bench_78 rfl rfl ?_
  refine gb_aload_n dX11_bench_79 rfl rfl ?_
  obtain ⟨g1, hF⟩ := gb_gdE hF
  refine gb_getI fX11_130 dX11_bench_80 (gb_kE g1) ?_
  obtain ⟨g2, hF⟩ := gb_gdE hF
  obtain ⟨h3, eh3, hF⟩ := gb_ltE hF
  refine gb_putI fX11_39 (gb_nff nf11_18) dX11_bench_83 (gb_kE g2) (fun _ => ⟨rfl, rfl⟩) (gb_hp eh3 ?_)
  refine gb_aload_n dX11_bench_86 rfl rfl ?_
  obtain ⟨g4, hF⟩ := gb_gdE hF
  obtain ⟨x5, h6, cx5, hF⟩ := gb_bdE hF
  refine gb_cV (As := []) (S := []) (v := some (.int x5)) (h1 := h6) (S2 := [.int x5]) cf11 dX11_bench_87 mtX11_good lX11_146 inX11_good seX11_good (gb_kE g4) (fnX11_good_ok _ _ cx5) (by decide) rfl (Nat.le_of_ble_eq_true rfl) (Nat.le_of_ble_eq_true rfl) rfl rfl ?_
  refine gb_if_ne (tgt := 100) dX11_bench_90 (by decide) (fun c7 => ?_) (fun c7 => ?_)
  · replace hF := gb_ifF c7 hF
    refine gb_aload_n dX11_bench_100 rfl rfl ?_
    obtain ⟨g11, hF⟩ := gb_gdE hF
    obtain ⟨a12, ea12, hF⟩ := gb_rdE hF
    refine gb_getR fX11_16 dX11_bench_101 (gb_kE g11) ea12 ?_
    refine gb_iload_n dX11_bench_104 rfl rfl ?_
    refine gb_aload_n dX11_bench_105 rfl rfl ?_
    obtain ⟨g13, hF⟩ := gb_gdE hF
    refine gb_getI fX11_133 dX11_bench_106 (gb_kE g13) ?_
    obtain ⟨g14, hF⟩ := gb_gdE hF
    obtain ⟨g15, hF⟩ := gb_gdE hF
    obtain ⟨h16, eh16, hF⟩ := gb_ltE hF
    refine gb_iast dX11_bench_109 (gb_kE g14) (gb_inE g15) (gb_hp eh16 ?_)
    refine gb_iconst (v := (0 : Int32)) dX11_bench_110 (by decide) ?_
    refine gb_istore_n (L' := [some (.ref v0), some (.int v1), some (.int (0 : Int32))]) dX11_bench_111 rfl (by decide) rfl rfl ?_
    exact gb_wk (lpX11_bench_112_ok gb_FU v0 v1 (0 : Int32) h16 r hF) (And.intro rfl (And.intro rfl (And.intro rfl trivial)))
  · replace hF := gb_ifT c7 hF
    refine gb_aload_n dX11_bench_93 rfl rfl ?_
    refine gb_bipush (v := (-6 : Int32)) dX11_bench_94 (by decide) ?_
    obtain ⟨g8, hF⟩ := gb_gdE hF
    obtain ⟨x9, h10, cx9, hF⟩ := gb_bdE hF
    refine gb_cV (As := [.int (-6 : Int32)]) (S := []) (v := some (.int x9)) (h1 := h10) (S2 := [.int x9]) cf11 dX11_bench_96 mtX11_ends lX11_108 inX11_ends seX11_ends (gb_kE g8) (fnX11_ends_ok _ _ cx9) (by decide) rfl (Nat.le_of_ble_eq_true rfl) (Nat.le_of_ble_eq_true rfl) rfl rfl ?_
    cases hF
    exact gb_iret dX11_bench_99 rfl
def fbX11_bench_40 (k40 : Nat → Int32 → gb_H → Option (Int32 × gb_H)) (v0 : Nat) (v1 : Int32) (h : gb_H) : Option (Int32 × gb_H) :=
  gb_gd (gb_k h v0 11) <|
  gb_bd (fnX11_takesSign v0 (59 : Int32) h) fun x2 h3 =>
  if x2 = 0 then
    gb_gd (gb_k h3 v0 11) <|
    gb_bd (fnX11_good v0 h3) fun x6 h7 =>
    if x6 = 0 then
      fbX11_bench_78 v0 v1 h7
    else
      gb_gd (gb_k h7 v0 11) <|
      gb_gd (gb_k h7 v0 11) <|
      if (gb_I h7 v0 15) ≤ (gb_I h7 v0 16) then
        fbX11_bench_78 v0 v1 h7
      else
        gb_gd (gb_k h7 v0 11) <|
        gb_bd (fnX11_faults v0 h7) fun _ h14 =>
        fbX11_bench_78 v0 v1 h14
  else
    gb_gd (gb_k h3 v0 11) <|
    gb_bd (fnX11_part v0 h3) fun _ h17 =>
    k40 v0 v1 h17
theorem fbX11_bench_40_ok {X : gb_X} {k40 : Nat → Int32 → gb_H → Option (Int32 × gb_H)} (hk40 : ∀ v0 v1 h r, k40 v0 v1 h = some r → gb_Ev X 7 mX11_bench 40 [some (.ref v0), some (.int v1), none] [] h (gb_wI r)) (v0 : Nat) (v1 : Int32) (h : gb_H) (r : Int32 × gb_H) (hF : fbX11_bench_40 k40 v0 v1 h = some r) : gb_Ev X 7 mX11_bench 40 [some (.ref v0), some (.int v1), none] [] h (gb_wI r) := by
  unfold fbX11_bench_40 at hF
  refine gb_aload_n dX11_bench_40 rfl rfl ?_
  refine gb_bipush (v := (59 : Int32)) dX11_bench_41 (by decide) ?_
  obtain ⟨g1, hF⟩ := gb_gdE hF
  obtain ⟨x2, h3, cx2, hF⟩ := gb_bdE hF
  refine gb_cV (As := [.int (59 : Int32)]) (S := []) (v := some (.int x2)) (h1 := h3) (S2 := [.int x2]) cf11 dX11_bench_43 mtX11_takesSign lX11_194 inX11_takesSign seX11_takesSign (gb_kE g1) (fnX11_takesSign_ok _ _ cx2) (by decide) rfl (Nat.le_of_ble_eq_true rfl) (Nat.le_of_ble_eq_true rfl) rfl rfl ?_
  refine gb_if_eq (tgt := 56) dX11_bench_46 (by decide) (fun c4 => ?_) (fun c4 => ?_)
  · replace hF := gb_ifT c4 hF
    refine gb_aload_n dX11_bench_56 rfl rfl ?_
    obtain ⟨g5, hF⟩ := gb_gdE hF
    obtain ⟨x6, h7, cx6, hF⟩ := gb_bdE hF
    refine gb_cV (As := []) (S := []) (v := some (.int x6)) (h1 := h7) (S2 := [.int x6]) cf11 dX11_bench_57 mtX11_good lX11_146 inX11_good seX11_good (gb_kE g5) (fnX11_good_ok _ _ cx6) (by decide) rfl (Nat.le_of_ble_eq_true rfl) (Nat.le_of_ble_eq_true rfl) rfl rfl ?_
    refine gb_if_eq (tgt := 78) dX11_bench_60 (by decide) (fun c8 => ?_) (fun c8 => ?_)
    · replace hF := gb_ifT c8 hF
      exact gb_wk (fbX11_bench_78_ok v0 v1 h7 r hF) (And.intro rfl (And.intro rfl trivial))
    · replace hF := gb_ifF c8 hF
      refine gb_aload_n dX11_bench_63 rfl rfl ?_
      obtain ⟨g9, hF⟩ := gb_gdE hF
      refine gb_getI fX11_124 dX11_bench_64 (gb_kE g9) ?_
      refine gb_aload_n dX11_bench_67 rfl rfl ?_
      obtain ⟨g10, hF⟩ := gb_gdE hF
      refine gb_getI fX11_118 dX11_bench_68 (gb_kE g10) ?_
      refine gb_icmp_ge (tgt := 78) dX11_bench_71 (by decide) (fun c11 => ?_) (fun c11 => ?_)
      · replace hF := gb_ifT c11 hF
        exact gb_wk (fbX11_bench_78_ok v0 v1 h7 r hF) (And.intro rfl (And.intro rfl trivial))
      · replace hF := gb_ifF c11 hF
        refine gb_aload_n dX11_bench_74 rfl rfl ?_
        obtain ⟨g12, hF⟩ := gb_gdE hF
        obtain ⟨x13, h14, cx13, hF⟩ := gb_bdE hF
        refine gb_cV (As := []) (S := []) (v := none) (h1 := h14) (S2 := []) cf11 dX11_bench_75 mtX11_faults lX11_154 inX11_faults seX11_faults (gb_kE g12) (fnX11_faults_ok _ _ cx13) (by decide) rfl (Nat.le_of_ble_eq_true rfl) (Nat.le_of_ble_eq_true rfl) rfl rfl ?_
        exact gb_wk (fbX11_bench_78_ok v0 v1 h14 r hF) (And.intro rfl (And.intro rfl trivial))
  · replace hF := gb_ifF c4 hF
    refine gb_aload_n dX11_bench_49 rfl rfl ?_
    obtain ⟨g15, hF⟩ := gb_gdE hF
    obtain ⟨x16, h17, cx16, hF⟩ := gb_bdE hF
    refine gb_cV (As := []) (S := []) (v := none) (h1 := h17) (S2 := []) cf11 dX11_bench_50 mtX11_part lX11_209 inX11_part seX11_part (gb_kE g15) (fnX11_part_ok _ _ cx16) (by decide) rfl (Nat.le_of_ble_eq_true rfl) (Nat.le_of_ble_eq_true rfl) rfl rfl ?_
    refine gb_goto (tgt := 40) dX11_bench_53 (by decide) ?_
    exact gb_wk (hk40 v0 v1 h17 r hF) (And.intro rfl (And.intro rfl trivial))
def lpX11_bench_40 (n : Nat) (v0 : Nat) (v1 : Int32) (h : gb_H) : Option (Int32 × gb_H) := gb_lp (σ := Nat × Int32 × gb_H) (fun k s => fbX11_bench_40 (fun v0 v1 h => k (v0, v1, h)) s.1 s.2.1 s.2.2) n (v0, v1, h)
theorem lpX11_bench_40_ok {X : gb_X}  (n : Nat) (v0 : Nat) (v1 : Int32) (h : gb_H) (r : Int32 × gb_H) (hF : lpX11_bench_40 n v0 v1 h = some r) : gb_Ev X 7 mX11_bench 40 [some (.ref v0), some (.int v1), none] [] h (gb_wI r) := by
  exact gb_lpE (σ := Nat × Int32 × gb_H) (P := fun s r => gb_Ev X 7 mX11_bench 40 [some (.ref s.1), some (.int s.2.1), none] [] s.2.2 (gb_wI r)) (fun k hk s r hs => fbX11_bench_40_ok (fun v0 v1 h r e => hk (v0, v1, h) r e) _ _ _ r hs) n (v0, v1, h) r hF
def fnX11_bench (p0 : Nat) (p1 : Int32) (h : gb_H) : Option (Int32 × gb_H) :=
  gb_bd (fnX11_in p1 (0 : Int32) (3 : Int32) h) fun x1 h2 =>
  if x1 = 0 then
    gb_gd (gb_k h2 p0 11) <|
    gb_lt (gb_sI h2 p0 14 (0 : Int32)) fun h5 =>
    gb_gd (gb_k h5 p0 11) <|
    gb_bd (fnX11_ends p0 (-2 : Int32) h5) fun x7 h8 =>
    some (x7, h8)
  else
    gb_gd (gb_k h2 p0 11) <|
    gb_bd (fnX11_begins p0 h2) fun _ h11 =>
    gb_gd (gb_k h11 p0 11) <|
    gb_gd (gb_k h11 p0 11) <|
    if (gb_I h11 p0 15) ≤ (gb_I h11 p0 16) then
      lpX11_bench_40 gb_FU p0 p1 h11
    else
      gb_gd (gb_k h11 p0 11) <|
      gb_bd (fnX11_part p0 h11) fun _ h17 =>
      lpX11_bench_40 gb_FU p0 p1 h17
theorem fnX11_bench_ok {X : gb_X}  {p0 : Nat} {p1 : Int32} (h : gb_H) (r : Int32 × gb_H) (hF : fnX11_bench p0 p1 h = some r) : gb_Ev X 7 mX11_bench 0 (gb_L0 [.ref p0, .int p1]) [] h (gb_wI r) := by
  unfold fnX11_bench at hF
  refine gb_weak (L' := [some (.ref p0), some (.int p1), none]) (And.intro rfl (And.intro rfl trivial)) ?_
  refine gb_iload_n dX11_bench_0 rfl rfl ?_
  refine gb_iconst (v := (0 : Int32)) dX11_bench_1 (by decide) ?_
  refine gb_iconst (v := (3 : Int32)) dX11_bench_2 (by decide) ?_
  obtain ⟨x1, h2, cx1, hF⟩ := gb_bdE hF
  refine gb_cS (As := [.int p1, .int (0 : Int32), .int (3 : Int32)]) (S := []) (v := some (.int x1)) (h1 := h2) (S2 := [.int x1]) dX11_bench_3 mtX11_in lX11_104 stX11_in (fnX11_in_ok _ _ cx1) (by decide) rfl (Nat.le_of_ble_eq_true rfl) (Nat.le_of_ble_eq_true rfl) rfl rfl ?_
  refine gb_if_ne (tgt := 21) dX11_bench_6 (by decide) (fun c3 => ?_) (fun c3 => ?_)
  · replace hF := gb_ifF c3 hF
    refine gb_aload_n dX11_bench_21 rfl rfl ?_
    obtain ⟨g9, hF⟩ := gb_gdE hF
    obtain ⟨x10, h11, cx10, hF⟩ := gb_bdE hF
    refine gb_cV (As := []) (S := []) (v := none) (h1 := h11) (S2 := []) cf11 dX11_bench_22 mtX11_begins lX11_206 inX11_begins seX11_begins (gb_kE g9) (fnX11_begins_ok _ _ cx10) (by decide) rfl (Nat.le_of_ble_eq_true rfl) (Nat.le_of_ble_eq_true rfl) rfl rfl ?_
    refine gb_aload_n dX11_bench_25 rfl rfl ?_
    obtain ⟨g12, hF⟩ := gb_gdE hF
    refine gb_getI fX11_124 dX11_bench_26 (gb_kE g12) ?_
    refine gb_aload_n dX11_bench_29 rfl rfl ?_
    obtain ⟨g13, hF⟩ := gb_gdE hF
    refine gb_getI fX11_118 dX11_bench_30 (gb_kE g13) ?_
    refine gb_icmp_ge (tgt := 40) dX11_bench_33 (by decide) (fun c14 => ?_) (fun c14 => ?_)
    · replace hF := gb_ifT c14 hF
      exact gb_wk (lpX11_bench_40_ok gb_FU p0 p1 h11 r hF) (And.intro rfl (And.intro rfl trivial))
    · replace hF := gb_ifF c14 hF
      refine gb_aload_n dX11_bench_36 rfl rfl ?_
      obtain ⟨g15, hF⟩ := gb_gdE hF
      obtain ⟨x16, h17, cx16, hF⟩ := gb_bdE hF
      refine gb_cV (As := []) (S := []) (v := none) (h1 := h17) (S2 := []) cf11 dX11_bench_37 mtX11_part lX11_209 inX11_part seX11_part (gb_kE g15) (fnX11_part_ok _ _ cx16) (by decide) rfl (Nat.le_of_ble_eq_true rfl) (Nat.le_of_ble_eq_true rfl) rfl rfl ?_
      exact gb_wk (lpX11_bench_40_ok gb_FU p0 p1 h17 r hF) (And.intro rfl (And.intro rfl trivial))
  · replace hF := gb_ifT c3 hF
    refine gb_aload_n dX11_bench_9 rfl rfl ?_
    refine gb_iconst (v := (0 : Int32)) dX11_bench_10 (by decide) ?_
    obtain ⟨g4, hF⟩ := gb_gdE hF
    obtain ⟨h5, eh5, hF⟩ := gb_ltE hF
    refine gb_putI fX11_115 (gb_nff nf11_14) dX11_bench_11 (gb_kE g4) (fun _ => ⟨rfl, rfl⟩) (gb_hp eh5 ?_)
    refine gb_aload_n dX11_bench_14 rfl rfl ?_
    refine gb_bipush (v := (-2 : Int32)) dX11_bench_15 (by decide) ?_
    obtain ⟨g6, hF⟩ := gb_gdE hF
    obtain ⟨x7, h8, cx7, hF⟩ := gb_bdE hF
    refine gb_cV (As := [.int (-2 : Int32)]) (S := []) (v := some (.int x7)) (h1 := h8) (S2 := [.int x7]) cf11 dX11_bench_17 mtX11_ends lX11_108 inX11_ends seX11_ends (gb_kE g6) (fnX11_ends_ok _ _ cx7) (by decide) rfl (Nat.le_of_ble_eq_true rfl) (Nat.le_of_ble_eq_true rfl) rfl rfl ?_
    cases hF
    exact gb_iret dX11_bench_20 rfl
def fbX11_shelf_79 (k79 : Nat → Int32 → gb_H → Option (Int32 × gb_H)) (v0 : Nat) (v1 : Int32) (h : gb_H) : Option (Int32 × gb_H) :=
  if (8 : Int32) ≤ v1 then
    gb_gd (gb_k h v0 11) <|
    gb_gd (gb_k h v0 11) <|
    gb_lt (gb_sI h v0 6 ((gb_I h v0 6) + (1 : Int32))) fun h4 =>
    gb_gd (gb_k h4 v0 11) <|
    gb_gd (gb_k h4 v0 11) <|
    gb_bd (fnX11_ends v0 ((gb_I h4 v0 6) - (1 : Int32)) h4) fun x7 h8 =>
    some (x7, h8)
  else
    gb_gd (gb_k h v0 11) <|
    gb_rd (gb_R h v0 5) fun a10 =>
    gb_gd (gb_k h v0 11) <|
    gb_gd (gb_k h v0 11) <|
    gb_rd (gb_R h v0 7) fun a13 =>
    gb_gd (gb_k h a13 20) <|
    gb_gd (gb_in h a13 v1) <|
    gb_lt (((8 : Int32) * (gb_I h v0 6)) + v1) fun x16 =>
    gb_gd (gb_k h a10 20) <|
    gb_gd (gb_in h a10 x16) <|
    gb_lt (gb_sI h a10 x16.toNatClampNeg (gb_I h a13 v1.toNatClampNeg)) fun h19 =>
    gb_lt (v1 + (1 : Int32)) fun x20 =>
    k79 v0 x20 h19
theorem fbX11_shelf_79_ok {X : gb_X} {k79 : Nat → Int32 → gb_H → Option (Int32 × gb_H)} (hk79 : ∀ v0 v1 h r, k79 v0 v1 h = some r → gb_Ev X 6 mX11_shelf 79 [some (.ref v0), some (.int v1)] [] h (gb_wI r)) (v0 : Nat) (v1 : Int32) (h : gb_H) (r : Int32 × gb_H) (hF : fbX11_shelf_79 k79 v0 v1 h = some r) : gb_Ev X 6 mX11_shelf 79 [some (.ref v0), some (.int v1)] [] h (gb_wI r) := by
  unfold fbX11_shelf_79 at hF
  refine gb_iload_n dX11_shelf_79 rfl rfl ?_
  refine gb_bipush (v := (8 : Int32)) dX11_shelf_80 (by decide) ?_
  refine gb_icmp_ge (tgt := 111) dX11_shelf_82 (by decide) (fun c1 => ?_) (fun c1 => ?_)
  · replace hF := gb_ifT c1 hF
    refine gb_aload_n dX11_shelf_111 rfl rfl ?_
    refine gb_dup dX11_shelf_112 rfl ?_
    obtain ⟨g2, hF⟩ := gb_gdE hF
    refine gb_getI fX11_212 dX11_shelf_113 (gb_kE g2) ?_
    refine gb_iconst (v := (1 : Int32)) dX11_shelf_116 (by decide) ?_
    refine gb_iadd dX11_shelf_117 ?_
    obtain ⟨g3, hF⟩ := gb_gdE hF
    obtain ⟨h4, eh4, hF⟩ := gb_ltE hF
    refine gb_putI fX11_212 (gb_nff nf11_6) dX11_shelf_118 (gb_kE g3) (fun _ => ⟨rfl, rfl⟩) (gb_hp eh4 ?_)
    refine gb_aload_n dX11_shelf_121 rfl rfl ?_
    refine gb_aload_n dX11_shelf_122 rfl rfl ?_
    obtain ⟨g5, hF⟩ := gb_gdE hF
    refine gb_getI fX11_212 dX11_shelf_123 (gb_kE g5) ?_
    refine gb_iconst (v := (1 : Int32)) dX11_shelf_126 (by decide) ?_
    refine gb_isub dX11_shelf_127 ?_
    obtain ⟨g6, hF⟩ := gb_gdE hF
    obtain ⟨x7, h8, cx7, hF⟩ := gb_bdE hF
    refine gb_cV (As := [.int ((gb_I h4 v0 6) - (1 : Int32))]) (S := []) (v := some (.int x7)) (h1 := h8) (S2 := [.int x7]) cf11 dX11_shelf_128 mtX11_ends lX11_108 inX11_ends seX11_ends (gb_kE g6) (fnX11_ends_ok _ _ cx7) (by decide) rfl (Nat.le_of_ble_eq_true rfl) (Nat.le_of_ble_eq_true rfl) rfl rfl ?_
    cases hF
    exact gb_iret dX11_shelf_131 rfl
  · replace hF := gb_ifF c1 hF
    refine gb_aload_n dX11_shelf_85 rfl rfl ?_
    obtain ⟨g9, hF⟩ := gb_gdE hF
    obtain ⟨a10, ea10, hF⟩ := gb_rdE hF
    refine gb_getR fX11_19 dX11_shelf_86 (gb_kE g9) ea10 ?_
    refine gb_bipush (v := (8 : Int32)) dX11_shelf_89 (by decide) ?_
    refine gb_aload_n dX11_shelf_91 rfl rfl ?_
    obtain ⟨g11, hF⟩ := gb_gdE hF
    refine gb_getI fX11_212 dX11_shelf_92 (gb_kE g11) ?_
    refine gb_imul dX11_shelf_95 ?_
    refine gb_iload_n dX11_shelf_96 rfl rfl ?_
    refine gb_iadd dX11_shelf_97 ?_
    refine gb_aload_n dX11_shelf_98 rfl rfl ?_
    obtain ⟨g12, hF⟩ := gb_gdE hF
    obtain ⟨a13, ea13, hF⟩ := gb_rdE hF
    refine gb_getR fX11_22 dX11_shelf_99 (gb_kE g12) ea13 ?_
    refine gb_iload_n dX11_shelf_102 rfl rfl ?_
    obtain ⟨g14, hF⟩ := gb_gdE hF
    obtain ⟨g15, hF⟩ := gb_gdE hF
    refine gb_iald dX11_shelf_103 (gb_kE g14) (gb_inE g15) ?_
    obtain ⟨x16, ex16, hF⟩ := gb_ltE hF
    refine gb_topI2 ex16 ?_
    obtain ⟨g17, hF⟩ := gb_gdE hF
    obtain ⟨g18, hF⟩ := gb_gdE hF
    obtain ⟨h19, eh19, hF⟩ := gb_ltE hF
    refine gb_iast dX11_shelf_104 (gb_kE g17) (gb_inE g18) (gb_hp eh19 ?_)
    obtain ⟨x20, ex20, hF⟩ := gb_ltE hF
    refine gb_iinc (v := x20) (L' := [some (.ref v0), some (.int x20)]) dX11_shelf_105 rfl (by rw [ex20]; rfl) (by decide) rfl rfl ?_
    refine gb_goto (tgt := 79) dX11_shelf_108 (by decide) ?_
    exact gb_wk (hk79 v0 x20 h19 r hF) (And.intro rfl (And.intro rfl trivial))
def lpX11_shelf_79 (n : Nat) (v0 : Nat) (v1 : Int32) (h : gb_H) : Option (Int32 × gb_H) := gb_lp (σ := Nat × Int32 × gb_H) (fun k s => fbX11_shelf_79 (fun v0 v1 h => k (v0, v1, h)) s.1 s.2.1 s.2.2) n (v0, v1, h)
theorem lpX11_shelf_79_ok {X : gb_X}  (n : Nat) (v0 : Nat) (v1 : Int32) (h : gb_H) (r : Int32 × gb_H) (hF : lpX11_shelf_79 n v0 v1 h = some r) : gb_Ev X 6 mX11_shelf 79 [some (.ref v0), some (.int v1)] [] h (gb_wI r) := by
  exact gb_lpE (σ := Nat × Int32 × gb_H) (P := fun s r => gb_Ev X 6 mX11_shelf 79 [some (.ref s.1), some (.int s.2.1)] [] s.2.2 (gb_wI r)) (fun k hk s r hs => fbX11_shelf_79_ok (fun v0 v1 h r e => hk (v0, v1, h) r e) _ _ _ r hs) n (v0, v1, h) r hF
def fbX11_shelf_55 (v0 : Nat) (h : gb_H) : Option (Int32 × gb_H) :=
  gb_gd (gb_k h v0 11) <|
  gb_gd (gb_k h v0 11) <|
  gb_lt (gb_sI h v0 18 (gb_I h v0 19)) fun h3 =>
  gb_gd (gb_k h3 v0 11) <|
  gb_bd (fnX11_good v0 h3) fun x5 h6 =>
  if x5 = 0 then
    gb_gd (gb_k h6 v0 11) <|
    gb_bd (fnX11_ends v0 (-6 : Int32) h6) fun x9 h10 =>
    some (x9, h10)
  else
    lpX11_shelf_79 gb_FU v0 (0 : Int32) h6
theorem fbX11_shelf_55_ok {X : gb_X} (v0 : Nat) (h : gb_H) (r : Int32 × gb_H) (hF : fbX11_shelf_55 v0 h = some r) : gb_Ev X 6 mX11_shelf 55 [some (.ref v0), none] [] h (gb_wI r) := by
  unfold fbX11_shelf_55 at hF
  refine gb_aload_n dX11_shelf_55 rfl rfl ?_
  refine gb_aload_n dX11_shelf_56 rfl rfl ?_
  obtain ⟨g1, hF⟩ := gb_gdE hF
  refine gb_getI fX11_130 dX11_shelf_57 (gb_kE g1) ?_
  obtain ⟨g2, hF⟩ := gb_gdE hF
  obtain ⟨h3, eh3, hF⟩ := gb_ltE hF
  refine gb_putI fX11_39 (gb_nff nf11_18) dX11_shelf_60 (gb_kE g2) (fun _ => ⟨rfl, rfl⟩) (gb_hp eh3 ?_)
  refine gb_aload_n dX11_shelf_63 rfl rfl ?_
  obtain ⟨g4, hF⟩ := gb_gdE hF
  obtain ⟨x5, h6, cx5, hF⟩ := gb_bdE hF
  refine gb_cV (As := []) (S := []) (v := some (.int x5)) (h1 := h6) (S2 := [.int x5]) cf11 dX11_shelf_64 mtX11_good lX11_146 inX11_good seX11_good (gb_kE g4) (fnX11_good_ok _ _ cx5) (by decide) rfl (Nat.le_of_ble_eq_true rfl) (Nat.le_of_ble_eq_true rfl) rfl rfl ?_
  refine gb_if_ne (tgt := 77) dX11_shelf_67 (by decide) (fun c7 => ?_) (fun c7 => ?_)
  · replace hF := gb_ifF c7 hF
    refine gb_iconst (v := (0 : Int32)) dX11_shelf_77 (by decide) ?_
    refine gb_istore_n (L' := [some (.ref v0), some (.int (0 : Int32))]) dX11_shelf_78 rfl (by decide) rfl rfl ?_
    exact gb_wk (lpX11_shelf_79_ok gb_FU v0 (0 : Int32) h6 r hF) (And.intro rfl (And.intro rfl trivial))
  · replace hF := gb_ifT c7 hF
    refine gb_aload_n dX11_shelf_70 rfl rfl ?_
    refine gb_bipush (v := (-6 : Int32)) dX11_shelf_71 (by decide) ?_
    obtain ⟨g8, hF⟩ := gb_gdE hF
    obtain ⟨x9, h10, cx9, hF⟩ := gb_bdE hF
    refine gb_cV (As := [.int (-6 : Int32)]) (S := []) (v := some (.int x9)) (h1 := h10) (S2 := [.int x9]) cf11 dX11_shelf_73 mtX11_ends lX11_108 inX11_ends seX11_ends (gb_kE g8) (fnX11_ends_ok _ _ cx9) (by decide) rfl (Nat.le_of_ble_eq_true rfl) (Nat.le_of_ble_eq_true rfl) rfl rfl ?_
    cases hF
    exact gb_iret dX11_shelf_76 rfl
def fnX11_shelf (p0 : Nat) (h : gb_H) : Option (Int32 × gb_H) :=
  gb_gd (gb_k h p0 11) <|
  if (gb_I h p0 6) = (8 : Int32) then
    gb_gd (gb_k h p0 11) <|
    gb_lt (gb_sI h p0 14 (0 : Int32)) fun h4 =>
    gb_gd (gb_k h4 p0 11) <|
    gb_bd (fnX11_ends p0 (-5 : Int32) h4) fun x6 h7 =>
    some (x6, h7)
  else
    gb_gd (gb_k h p0 11) <|
    gb_bd (fnX11_begins p0 h) fun _ h10 =>
    gb_gd (gb_k h10 p0 11) <|
    gb_bd (fnX11_fresh p0 h10) fun x12 h13 =>
    gb_gd (gb_k h13 p0 11) <|
    gb_bd (fnX11_deed p0 x12 h13) fun _ h16 =>
    gb_gd (gb_k h16 p0 11) <|
    gb_bd (fnX11_good p0 h16) fun x18 h19 =>
    if x18 = 0 then
      fbX11_shelf_55 p0 h19
    else
      gb_gd (gb_k h19 p0 11) <|
      gb_gd (gb_k h19 p0 11) <|
      if (gb_I h19 p0 15) ≤ (gb_I h19 p0 16) then
        fbX11_shelf_55 p0 h19
      else
        gb_gd (gb_k h19 p0 11) <|
        gb_bd (fnX11_faults p0 h19) fun _ h26 =>
        fbX11_shelf_55 p0 h26
theorem fnX11_shelf_ok {X : gb_X}  {p0 : Nat} (h : gb_H) (r : Int32 × gb_H) (hF : fnX11_shelf p0 h = some r) : gb_Ev X 6 mX11_shelf 0 (gb_L0 [.ref p0]) [] h (gb_wI r) := by
  unfold fnX11_shelf at hF
  refine gb_weak (L' := [some (.ref p0), none]) (And.intro rfl trivial) ?_
  refine gb_aload_n dX11_shelf_0 rfl rfl ?_
  obtain ⟨g1, hF⟩ := gb_gdE hF
  refine gb_getI fX11_212 dX11_shelf_1 (gb_kE g1) ?_
  refine gb_bipush (v := (8 : Int32)) dX11_shelf_4 (by decide) ?_
  refine gb_icmp_ne (tgt := 21) dX11_shelf_6 (by decide) (fun c2 => ?_) (fun c2 => ?_)
  · replace hF := gb_ifF c2 hF
    refine gb_aload_n dX11_shelf_21 rfl rfl ?_
    obtain ⟨g8, hF⟩ := gb_gdE hF
    obtain ⟨x9, h10, cx9, hF⟩ := gb_bdE hF
    refine gb_cV (As := []) (S := []) (v := none) (h1 := h10) (S2 := []) cf11 dX11_shelf_22 mtX11_begins lX11_206 inX11_begins seX11_begins (gb_kE g8) (fnX11_begins_ok _ _ cx9) (by decide) rfl (Nat.le_of_ble_eq_true rfl) (Nat.le_of_ble_eq_true rfl) rfl rfl ?_
    refine gb_aload_n dX11_shelf_25 rfl rfl ?_
    refine gb_aload_n dX11_shelf_26 rfl rfl ?_
    obtain ⟨g11, hF⟩ := gb_gdE hF
    obtain ⟨x12, h13, cx12, hF⟩ := gb_bdE hF
    refine gb_cV (As := []) (S := [.ref p0]) (v := some (.int x12)) (h1 := h13) (S2 := [.int x12, .ref p0]) cf11 dX11_shelf_27 mtX11_fresh lX11_187 inX11_fresh seX11_fresh (gb_kE g11) (fnX11_fresh_ok _ _ cx12) (by decide) rfl (Nat.le_of_ble_eq_true rfl) (Nat.le_of_ble_eq_true rfl) rfl rfl ?_
    obtain ⟨g14, hF⟩ := gb_gdE hF
    obtain ⟨x15, h16, cx15, hF⟩ := gb_bdE hF
    refine gb_cV (As := [.int x12]) (S := []) (v := none) (h1 := h16) (S2 := []) cf11 dX11_shelf_30 mtX11_deed lX11_200 inX11_deed seX11_deed (gb_kE g14) (fnX11_deed_ok _ _ cx15) (by decide) rfl (Nat.le_of_ble_eq_true rfl) (Nat.le_of_ble_eq_true rfl) rfl rfl ?_
    refine gb_aload_n dX11_shelf_33 rfl rfl ?_
    obtain ⟨g17, hF⟩ := gb_gdE hF
    obtain ⟨x18, h19, cx18, hF⟩ := gb_bdE hF
    refine gb_cV (As := []) (S := []) (v := some (.int x18)) (h1 := h19) (S2 := [.int x18]) cf11 dX11_shelf_34 mtX11_good lX11_146 inX11_good seX11_good (gb_kE g17) (fnX11_good_ok _ _ cx18) (by decide) rfl (Nat.le_of_ble_eq_true rfl) (Nat.le_of_ble_eq_true rfl) rfl rfl ?_
    refine gb_if_eq (tgt := 55) dX11_shelf_37 (by decide) (fun c20 => ?_) (fun c20 => ?_)
    · replace hF := gb_ifT c20 hF
      exact gb_wk (fbX11_shelf_55_ok p0 h19 r hF) (And.intro rfl trivial)
    · replace hF := gb_ifF c20 hF
      refine gb_aload_n dX11_shelf_40 rfl rfl ?_
      obtain ⟨g21, hF⟩ := gb_gdE hF
      refine gb_getI fX11_124 dX11_shelf_41 (gb_kE g21) ?_
      refine gb_aload_n dX11_shelf_44 rfl rfl ?_
      obtain ⟨g22, hF⟩ := gb_gdE hF
      refine gb_getI fX11_118 dX11_shelf_45 (gb_kE g22) ?_
      refine gb_icmp_ge (tgt := 55) dX11_shelf_48 (by decide) (fun c23 => ?_) (fun c23 => ?_)
      · replace hF := gb_ifT c23 hF
        exact gb_wk (fbX11_shelf_55_ok p0 h19 r hF) (And.intro rfl trivial)
      · replace hF := gb_ifF c23 hF
        refine gb_aload_n dX11_shelf_51 rfl rfl ?_
        obtain ⟨g24, hF⟩ := gb_gdE hF
        obtain ⟨x25, h26, cx25, hF⟩ := gb_bdE hF
        refine gb_cV (As := []) (S := []) (v := none) (h1 := h26) (S2 := []) cf11 dX11_shelf_52 mtX11_faults lX11_154 inX11_faults seX11_faults (gb_kE g24) (fnX11_faults_ok _ _ cx25) (by decide) rfl (Nat.le_of_ble_eq_true rfl) (Nat.le_of_ble_eq_true rfl) rfl rfl ?_
        exact gb_wk (fbX11_shelf_55_ok p0 h26 r hF) (And.intro rfl trivial)
  · replace hF := gb_ifT c2 hF
    refine gb_aload_n dX11_shelf_9 rfl rfl ?_
    refine gb_iconst (v := (0 : Int32)) dX11_shelf_10 (by decide) ?_
    obtain ⟨g3, hF⟩ := gb_gdE hF
    obtain ⟨h4, eh4, hF⟩ := gb_ltE hF
    refine gb_putI fX11_115 (gb_nff nf11_14) dX11_shelf_11 (gb_kE g3) (fun _ => ⟨rfl, rfl⟩) (gb_hp eh4 ?_)
    refine gb_aload_n dX11_shelf_14 rfl rfl ?_
    refine gb_bipush (v := (-5 : Int32)) dX11_shelf_15 (by decide) ?_
    obtain ⟨g5, hF⟩ := gb_gdE hF
    obtain ⟨x6, h7, cx6, hF⟩ := gb_bdE hF
    refine gb_cV (As := [.int (-5 : Int32)]) (S := []) (v := some (.int x6)) (h1 := h7) (S2 := [.int x6]) cf11 dX11_shelf_17 mtX11_ends lX11_108 inX11_ends seX11_ends (gb_kE g5) (fnX11_ends_ok _ _ cx6) (by decide) rfl (Nat.le_of_ble_eq_true rfl) (Nat.le_of_ble_eq_true rfl) rfl rfl ?_
    cases hF
    exact gb_iret dX11_shelf_20 rfl
def fnX11_fault (p0 : Nat) (h : gb_H) : Option (Int32 × gb_H) :=
  gb_gd (gb_k h p0 11) <|
  some (gb_I h p0 18, h)
theorem fnX11_fault_ok {X : gb_X}  {p0 : Nat} (h : gb_H) (r : Int32 × gb_H) (hF : fnX11_fault p0 h = some r) : gb_Ev X 1 mX11_fault 0 (gb_L0 [.ref p0]) [] h (gb_wI r) := by
  unfold fnX11_fault at hF
  refine gb_weak (L' := [some (.ref p0)]) (And.intro rfl trivial) ?_
  refine gb_aload_n dX11_fault_0 rfl rfl ?_
  obtain ⟨g1, hF⟩ := gb_gdE hF
  refine gb_getI fX11_39 dX11_fault_1 (gb_kE g1) ?_
  cases hF
  exact gb_iret dX11_fault_4 rfl
def fbX11_measure_10 (s0 : Int32) (h : gb_H) : Option (Int32 × gb_H) :=
  some (s0, h)
theorem fbX11_measure_10_ok {X : gb_X} (s0 : Int32) (h : gb_H) (r : Int32 × gb_H) (hF : fbX11_measure_10 s0 h = some r) : gb_Ev X 1 mX11_measure 10 [none] [.int s0] h (gb_wI r) := by
  unfold fbX11_measure_10 at hF
  cases hF
  exact gb_iret dX11_measure_10 rfl
def fnX11_measure (p0 : Int32) (h : gb_H) : Option (Int32 × gb_H) :=
  if p0 = (2 : Int32) then
    fbX11_measure_10 (2 : Int32) h
  else
    fbX11_measure_10 (5 : Int32) h
theorem fnX11_measure_ok {X : gb_X}  {p0 : Int32} (h : gb_H) (r : Int32 × gb_H) (hF : fnX11_measure p0 h = some r) : gb_Ev X 1 mX11_measure 0 (gb_L0 [.int p0]) [] h (gb_wI r) := by
  unfold fnX11_measure at hF
  refine gb_weak (L' := [some (.int p0)]) (And.intro rfl trivial) ?_
  refine gb_iload_n dX11_measure_0 rfl rfl ?_
  refine gb_iconst (v := (2 : Int32)) dX11_measure_1 (by decide) ?_
  refine gb_icmp_ne (tgt := 9) dX11_measure_2 (by decide) (fun c1 => ?_) (fun c1 => ?_)
  · replace hF := gb_ifF c1 hF
    refine gb_iconst (v := (5 : Int32)) dX11_measure_9 (by decide) ?_
    exact gb_wk (fbX11_measure_10_ok (5 : Int32) h r hF) trivial
  · replace hF := gb_ifT c1 hF
    refine gb_iconst (v := (2 : Int32)) dX11_measure_5 (by decide) ?_
    refine gb_goto (tgt := 10) dX11_measure_6 (by decide) ?_
    exact gb_wk (fbX11_measure_10_ok (2 : Int32) h r hF) trivial
def fbX11_power_5 (k5 : Int64 → Int32 → Int64 → Int32 → gb_H → Option (Int64 × gb_H)) (v0 : Int64) (v2 : Int32) (v3 : Int64) (v5 : Int32) (h : gb_H) : Option (Int64 × gb_H) :=
  if v2 ≤ v5 then
    some (v3, h)
  else
    gb_lt (v3 * v0) fun x2 =>
    gb_lt (v5 + (1 : Int32)) fun x3 =>
    k5 v0 v2 x2 x3 h
theorem fbX11_power_5_ok {X : gb_X} {k5 : Int64 → Int32 → Int64 → Int32 → gb_H → Option (Int64 × gb_H)} (hk5 : ∀ v0 v2 v3 v5 h r, k5 v0 v2 v3 v5 h = some r → gb_Ev X 1 mX11_power 5 [some (.long v0), none, some (.int v2), some (.long v3), none, some (.int v5)] [] h (gb_wJ r)) (v0 : Int64) (v2 : Int32) (v3 : Int64) (v5 : Int32) (h : gb_H) (r : Int64 × gb_H) (hF : fbX11_power_5 k5 v0 v2 v3 v5 h = some r) : gb_Ev X 1 mX11_power 5 [some (.long v0), none, some (.int v2), some (.long v3), none, some (.int v5)] [] h (gb_wJ r) := by
  unfold fbX11_power_5 at hF
  refine gb_iload dX11_power_5 rfl ?_
  refine gb_iload_n dX11_power_7 rfl rfl ?_
  refine gb_icmp_ge (tgt := 21) dX11_power_8 (by decide) (fun c1 => ?_) (fun c1 => ?_)
  · replace hF := gb_ifT c1 hF
    refine gb_lload_n dX11_power_21 rfl rfl ?_
    cases hF
    exact gb_lret dX11_power_22 rfl
  · replace hF := gb_ifF c1 hF
    refine gb_lload_n dX11_power_11 rfl rfl ?_
    refine gb_lload_n dX11_power_12 rfl rfl ?_
    refine gb_lmul dX11_power_13 ?_
    obtain ⟨x2, ex2, hF⟩ := gb_ltE hF
    refine gb_topJ ex2 ?_
    refine gb_lstore_n (L' := [some (.long v0), none, some (.int v2), some (.long x2), none, some (.int v5)]) dX11_power_14 rfl (by decide) rfl rfl ?_
    obtain ⟨x3, ex3, hF⟩ := gb_ltE hF
    refine gb_iinc (v := x3) (L' := [some (.long v0), none, some (.int v2), some (.long x2), none, some (.int x3)]) dX11_power_15 rfl (by rw [ex3]; rfl) (by decide) rfl rfl ?_
    refine gb_goto (tgt := 5) dX11_power_18 (by decide) ?_
    exact gb_wk (hk5 v0 v2 x2 x3 h r hF) (And.intro rfl (And.intro rfl (And.intro rfl (And.intro rfl trivial))))
def lpX11_power_5 (n : Nat) (v0 : Int64) (v2 : Int32) (v3 : Int64) (v5 : Int32) (h : gb_H) : Option (Int64 × gb_H) := gb_lp (σ := Int64 × Int32 × Int64 × Int32 × gb_H) (fun k s => fbX11_power_5 (fun v0 v2 v3 v5 h => k (v0, v2, v3, v5, h)) s.1 s.2.1 s.2.2.1 s.2.2.2.1 s.2.2.2.2) n (v0, v2, v3, v5, h)
theorem lpX11_power_5_ok {X : gb_X}  (n : Nat) (v0 : Int64) (v2 : Int32) (v3 : Int64) (v5 : Int32) (h : gb_H) (r : Int64 × gb_H) (hF : lpX11_power_5 n v0 v2 v3 v5 h = some r) : gb_Ev X 1 mX11_power 5 [some (.long v0), none, some (.int v2), some (.long v3), none, some (.int v5)] [] h (gb_wJ r) := by
  exact gb_lpE (σ := Int64 × Int32 × Int64 × Int32 × gb_H) (P := fun s r => gb_Ev X 1 mX11_power 5 [some (.long s.1), none, some (.int s.2.1), some (.long s.2.2.1), none, some (.int s.2.2.2.1)] [] s.2.2.2.2 (gb_wJ r)) (fun k hk s r hs => fbX11_power_5_ok (fun v0 v2 v3 v5 h r e => hk (v0, v2, v3, v5, h) r e) _ _ _ _ _ r hs) n (v0, v2, v3, v5, h) r hF
def fnX11_power (p0 : Int64) (p1 : Int32) (h : gb_H) : Option (Int64 × gb_H) :=
  lpX11_power_5 gb_FU p0 p1 (1 : Int64) (0 : Int32) h
theorem fnX11_power_ok {X : gb_X}  {p0 : Int64} {p1 : Int32} (h : gb_H) (r : Int64 × gb_H) (hF : fnX11_power p0 p1 h = some r) : gb_Ev X 1 mX11_power 0 (gb_L0 [.long p0, .int p1]) [] h (gb_wJ r) := by
  unfold fnX11_power at hF
  refine gb_weak (L' := [some (.long p0), none, some (.int p1), none, none, none]) (And.intro rfl (And.intro rfl trivial)) ?_
  refine gb_lconst (v := (1 : Int64)) dX11_power_0 (by decide) ?_
  refine gb_lstore_n (L' := [some (.long p0), none, some (.int p1), some (.long (1 : Int64)), none, none]) dX11_power_1 rfl (by decide) rfl rfl ?_
  refine gb_iconst (v := (0 : Int32)) dX11_power_2 (by decide) ?_
  refine gb_istore (L' := [some (.long p0), none, some (.int p1), some (.long (1 : Int64)), none, some (.int (0 : Int32))]) dX11_power_3 (by decide) rfl rfl ?_
  exact gb_wk (lpX11_power_5_ok gb_FU p0 p1 (1 : Int64) (0 : Int32) h r hF) (And.intro rfl (And.intro rfl (And.intro rfl (And.intro rfl trivial))))
def fbX11_deepOf_46 (k6 : Nat → Int32 → Int32 → Int32 → Int64 → Int32 → gb_H → Option (Int32 × gb_H)) (v0 : Nat) (v1 : Int32) (v2 : Int32) (v3 : Int32) (v4 : Int64) (v6 : Int32) (h : gb_H) : Option (Int32 × gb_H) :=
  if v4 ≤ (300000 : Int64) then
    gb_lt (v6 + (1 : Int32)) fun x2 =>
    k6 v0 v1 v2 v3 v4 x2 h
  else
    some ((300001 : Int32), h)
theorem fbX11_deepOf_46_ok {X : gb_X} {k6 : Nat → Int32 → Int32 → Int32 → Int64 → Int32 → gb_H → Option (Int32 × gb_H)} (hk6 : ∀ v0 v1 v2 v3 v4 v6 h r, k6 v0 v1 v2 v3 v4 v6 h = some r → gb_Ev X 2 mX11_deepOf 6 [some (.ref v0), some (.int v1), some (.int v2), some (.int v3), some (.long v4), none, some (.int v6), none] [] h (gb_wI r)) (v0 : Nat) (v1 : Int32) (v2 : Int32) (v3 : Int32) (v4 : Int64) (v6 : Int32) (h : gb_H) (r : Int32 × gb_H) (hF : fbX11_deepOf_46 k6 v0 v1 v2 v3 v4 v6 h = some r) : gb_Ev X 2 mX11_deepOf 46 [some (.ref v0), some (.int v1), some (.int v2), some (.int v3), some (.long v4), none, some (.int v6), none] [] h (gb_wI r) := by
  unfold fbX11_deepOf_46 at hF
  refine gb_lload dX11_deepOf_46 rfl ?_
  refine gb_ldc2 (v := (300000 : Int64)) dX11_deepOf_48 kX11_222 ?_
  refine gb_lc_le (tgt := 58) dX11_deepOf_51 dX11_deepOf_52 (by decide) (fun c1 => ?_) (fun c1 => ?_)
  · replace hF := gb_ifT c1 hF
    obtain ⟨x2, ex2, hF⟩ := gb_ltE hF
    refine gb_iinc (v := x2) (L' := [some (.ref v0), some (.int v1), some (.int v2), some (.int v3), some (.long v4), none, some (.int x2), none]) dX11_deepOf_58 rfl (by rw [ex2]; rfl) (by decide) rfl rfl ?_
    refine gb_goto (tgt := 6) dX11_deepOf_61 (by decide) ?_
    exact gb_wk (hk6 v0 v1 v2 v3 v4 x2 h r hF) (And.intro rfl (And.intro rfl (And.intro rfl (And.intro rfl (And.intro rfl (And.intro rfl trivial))))))
  · replace hF := gb_ifF c1 hF
    refine gb_ldc (v := (300001 : Int32)) dX11_deepOf_55 kX11_224 ?_
    cases hF
    exact gb_iret dX11_deepOf_57 rfl
def fbX11_deepOf_6 (k6 : Nat → Int32 → Int32 → Int32 → Int64 → Int32 → gb_H → Option (Int32 × gb_H)) (v0 : Nat) (v1 : Int32) (v2 : Int32) (v3 : Int32) (v4 : Int64) (v6 : Int32) (h : gb_H) : Option (Int32 × gb_H) :=
  if v2 ≤ v6 then
    some (v4.toInt32, h)
  else
    gb_lt ((v1 + ((8 : Int32) * v6)) + (3 : Int32)) fun x2 =>
    gb_gd (gb_k h v0 20) <|
    gb_gd (gb_in h v0 x2) <|
    gb_lt (gb_I h v0 x2.toNatClampNeg) fun x5 =>
    if x5 = (-1 : Int32) then
      fbX11_deepOf_46 k6 v0 v1 v2 v3 v4 v6 h
    else
      gb_bd (fnX11_measure x5 h) fun x7 h8 =>
      gb_bd (fnX11_power (x7.toInt64) v3 h8) fun x9 h10 =>
      gb_lt (v4 * x9) fun x11 =>
      fbX11_deepOf_46 k6 v0 v1 v2 v3 x11 v6 h10
theorem fbX11_deepOf_6_ok {X : gb_X} {k6 : Nat → Int32 → Int32 → Int32 → Int64 → Int32 → gb_H → Option (Int32 × gb_H)} (hk6 : ∀ v0 v1 v2 v3 v4 v6 h r, k6 v0 v1 v2 v3 v4 v6 h = some r → gb_Ev X 2 mX11_deepOf 6 [some (.ref v0), some (.int v1), some (.int v2), some (.int v3), some (.long v4), none, some (.int v6), none] [] h (gb_wI r)) (v0 : Nat) (v1 : Int32) (v2 : Int32) (v3 : Int32) (v4 : Int64) (v6 : Int32) (h : gb_H) (r : Int32 × gb_H) (hF : fbX11_deepOf_6 k6 v0 v1 v2 v3 v4 v6 h = some r) : gb_Ev X 2 mX11_deepOf 6 [some (.ref v0), some (.int v1), some (.int v2), some (.int v3), some (.long v4), none, some (.int v6), none] [] h (gb_wI r) := by
  unfold fbX11_deepOf_6 at hF
  refine gb_iload dX11_deepOf_6 rfl ?_
  refine gb_iload_n dX11_deepOf_8 rfl rfl ?_
  refine gb_icmp_ge (tgt := 64) dX11_deepOf_9 (by decide) (fun c1 => ?_) (fun c1 => ?_)
  · replace hF := gb_ifT c1 hF
    refine gb_lload dX11_deepOf_64 rfl ?_
    refine gb_l2i dX11_deepOf_66 ?_
    cases hF
    exact gb_iret dX11_deepOf_67 rfl
  · replace hF := gb_ifF c1 hF
    refine gb_aload_n dX11_deepOf_12 rfl rfl ?_
    refine gb_iload_n dX11_deepOf_13 rfl rfl ?_
    refine gb_bipush (v := (8 : Int32)) dX11_deepOf_14 (by decide) ?_
    refine gb_iload dX11_deepOf_16 rfl ?_
    refine gb_imul dX11_deepOf_18 ?_
    refine gb_iadd dX11_deepOf_19 ?_
    refine gb_iconst (v := (3 : Int32)) dX11_deepOf_20 (by decide) ?_
    refine gb_iadd dX11_deepOf_21 ?_
    obtain ⟨x2, ex2, hF⟩ := gb_ltE hF
    refine gb_topI ex2 ?_
    obtain ⟨g3, hF⟩ := gb_gdE hF
    obtain ⟨g4, hF⟩ := gb_gdE hF
    refine gb_iald dX11_deepOf_22 (gb_kE g3) (gb_inE g4) ?_
    obtain ⟨x5, ex5, hF⟩ := gb_ltE hF
    refine gb_topI ex5 ?_
    refine gb_istore (L' := [some (.ref v0), some (.int v1), some (.int v2), some (.int v3), some (.long v4), none, some (.int v6), some (.int x5)]) dX11_deepOf_23 (by decide) rfl rfl ?_
    refine gb_iload dX11_deepOf_25 rfl ?_
    refine gb_iconst (v := (-1 : Int32)) dX11_deepOf_27 (by decide) ?_
    refine gb_icmp_eq (tgt := 46) dX11_deepOf_28 (by decide) (fun c6 => ?_) (fun c6 => ?_)
    · replace hF := gb_ifT c6 hF
      exact gb_wk (fbX11_deepOf_46_ok hk6 v0 v1 v2 v3 v4 v6 h r hF) (And.intro rfl (And.intro rfl (And.intro rfl (And.intro rfl (And.intro rfl (And.intro rfl trivial))))))
    · replace hF := gb_ifF c6 hF
      refine gb_lload dX11_deepOf_31 rfl ?_
      refine gb_iload dX11_deepOf_33 rfl ?_
      obtain ⟨x7, h8, cx7, hF⟩ := gb_bdE hF
      refine gb_cS (As := [.int x5]) (S := [.long v4]) (v := some (.int x7)) (h1 := h8) (S2 := [.int x7, .long v4]) dX11_deepOf_35 mtX11_measure lX11_215 stX11_measure (fnX11_measure_ok _ _ cx7) (by decide) rfl (Nat.le_of_ble_eq_true rfl) (Nat.le_of_ble_eq_true rfl) rfl rfl ?_
      refine gb_i2l dX11_deepOf_38 ?_
      refine gb_iload_n dX11_deepOf_39 rfl rfl ?_
      obtain ⟨x9, h10, cx9, hF⟩ := gb_bdE hF
      refine gb_cS (As := [.long (x7.toInt64), .int v3]) (S := [.long v4]) (v := some (.long x9)) (h1 := h10) (S2 := [.long x9, .long v4]) dX11_deepOf_40 mtX11_power lX11_218 stX11_power (fnX11_power_ok _ _ cx9) (by decide) rfl (Nat.le_of_ble_eq_true rfl) (Nat.le_of_ble_eq_true rfl) rfl rfl ?_
      refine gb_lmul dX11_deepOf_43 ?_
      obtain ⟨x11, ex11, hF⟩ := gb_ltE hF
      refine gb_topJ ex11 ?_
      refine gb_lstore (L' := [some (.ref v0), some (.int v1), some (.int v2), some (.int v3), some (.long x11), none, some (.int v6), some (.int x5)]) dX11_deepOf_44 (by decide) rfl rfl ?_
      exact gb_wk (fbX11_deepOf_46_ok hk6 v0 v1 v2 v3 x11 v6 h10 r hF) (And.intro rfl (And.intro rfl (And.intro rfl (And.intro rfl (And.intro rfl (And.intro rfl trivial))))))
def lpX11_deepOf_6 (n : Nat) (v0 : Nat) (v1 : Int32) (v2 : Int32) (v3 : Int32) (v4 : Int64) (v6 : Int32) (h : gb_H) : Option (Int32 × gb_H) := gb_lp (σ := Nat × Int32 × Int32 × Int32 × Int64 × Int32 × gb_H) (fun k s => fbX11_deepOf_6 (fun v0 v1 v2 v3 v4 v6 h => k (v0, v1, v2, v3, v4, v6, h)) s.1 s.2.1 s.2.2.1 s.2.2.2.1 s.2.2.2.2.1 s.2.2.2.2.2.1 s.2.2.2.2.2.2) n (v0, v1, v2, v3, v4, v6, h)
theorem lpX11_deepOf_6_ok {X : gb_X}  (n : Nat) (v0 : Nat) (v1 : Int32) (v2 : Int32) (v3 : Int32) (v4 : Int64) (v6 : Int32) (h : gb_H) (r : Int32 × gb_H) (hF : lpX11_deepOf_6 n v0 v1 v2 v3 v4 v6 h = some r) : gb_Ev X 2 mX11_deepOf 6 [some (.ref v0), some (.int v1), some (.int v2), some (.int v3), some (.long v4), none, some (.int v6), none] [] h (gb_wI r) := by
  exact gb_lpE (σ := Nat × Int32 × Int32 × Int32 × Int64 × Int32 × gb_H) (P := fun s r => gb_Ev X 2 mX11_deepOf 6 [some (.ref s.1), some (.int s.2.1), some (.int s.2.2.1), some (.int s.2.2.2.1), some (.long s.2.2.2.2.1), none, some (.int s.2.2.2.2.2.1), none] [] s.2.2.2.2.2.2 (gb_wI r)) (fun k hk s r hs => fbX11_deepOf_6_ok (fun v0 v1 v2 v3 v4 v6 h r e => hk (v0, v1, v2, v3, v4, v6, h) r e) _ _ _ _ _ _ _ r hs) n (v0, v1, v2, v3, v4, v6, h) r hF
def fnX11_deepOf (p0 : Nat) (p1 : Int32) (p2 : Int32) (p3 : Int32) (h : gb_H) : Option (Int32 × gb_H) :=
  lpX11_deepOf_6 gb_FU p0 p1 p2 p3 (1 : Int64) (0 : Int32) h
theorem fnX11_deepOf_ok {X : gb_X}  {p0 : Nat} {p1 : Int32} {p2 : Int32} {p3 : Int32} (h : gb_H) (r : Int32 × gb_H) (hF : fnX11_deepOf p0 p1 p2 p3 h = some r) : gb_Ev X 2 mX11_deepOf 0 (gb_L0 [.ref p0, .int p1, .int p2, .int p3]) [] h (gb_wI r) := by
  unfold fnX11_deepOf at hF
  refine gb_weak (L' := [some (.ref p0), some (.int p1), some (.int p2), some (.int p3), none, none, none, none]) (And.intro rfl (And.intro rfl (And.intro rfl (And.intro rfl trivial)))) ?_
  refine gb_lconst (v := (1 : Int64)) dX11_deepOf_0 (by decide) ?_
  refine gb_lstore (L' := [some (.ref p0), some (.int p1), some (.int p2), some (.int p3), some (.long (1 : Int64)), none, none, none]) dX11_deepOf_1 (by decide) rfl rfl ?_
  refine gb_iconst (v := (0 : Int32)) dX11_deepOf_3 (by decide) ?_
  refine gb_istore (L' := [some (.ref p0), some (.int p1), some (.int p2), some (.int p3), some (.long (1 : Int64)), none, some (.int (0 : Int32)), none]) dX11_deepOf_4 (by decide) rfl rfl ?_
  exact gb_wk (lpX11_deepOf_6_ok gb_FU p0 p1 p2 p3 (1 : Int64) (0 : Int32) h r hF) (And.intro rfl (And.intro rfl (And.intro rfl (And.intro rfl (And.intro rfl (And.intro rfl trivial))))))
def fbX11_deep_35 (s0 : Int32) (h : gb_H) : Option (Int32 × gb_H) :=
  some (s0, h)
theorem fbX11_deep_35_ok {X : gb_X} (s0 : Int32) (h : gb_H) (r : Int32 × gb_H) (hF : fbX11_deep_35 s0 h = some r) : gb_Ev X 3 mX11_deep 35 [none, none] [.int s0] h (gb_wI r) := by
  unfold fbX11_deep_35 at hF
  cases hF
  exact gb_iret dX11_deep_35 rfl
def fnX11_deep (p0 : Nat) (p1 : Int32) (h : gb_H) : Option (Int32 × gb_H) :=
  gb_bd (fnX11_in p1 (0 : Int32) (3 : Int32) h) fun x1 h2 =>
  if x1 = 0 then
    fbX11_deep_35 (-1 : Int32) h2
  else
    gb_gd (gb_k h2 p0 11) <|
    gb_rd (gb_R h2 p0 3) fun a5 =>
    gb_gd (gb_k h2 p0 11) <|
    gb_rd (gb_R h2 p0 4) fun a7 =>
    gb_gd (gb_k h2 a7 20) <|
    gb_gd (gb_in h2 a7 p1) <|
    gb_gd (gb_k h2 p0 11) <|
    gb_bd (fnX11_deepOf a5 ((128 : Int32) * p1) (gb_I h2 a7 p1.toNatClampNeg) (gb_I h2 p0 1) h2) fun x11 h12 =>
    fbX11_deep_35 x11 h12
theorem fnX11_deep_ok {X : gb_X}  {p0 : Nat} {p1 : Int32} (h : gb_H) (r : Int32 × gb_H) (hF : fnX11_deep p0 p1 h = some r) : gb_Ev X 3 mX11_deep 0 (gb_L0 [.ref p0, .int p1]) [] h (gb_wI r) := by
  unfold fnX11_deep at hF
  refine gb_weak (L' := [some (.ref p0), some (.int p1)]) (And.intro rfl (And.intro rfl trivial)) ?_
  refine gb_iload_n dX11_deep_0 rfl rfl ?_
  refine gb_iconst (v := (0 : Int32)) dX11_deep_1 (by decide) ?_
  refine gb_iconst (v := (3 : Int32)) dX11_deep_2 (by decide) ?_
  obtain ⟨x1, h2, cx1, hF⟩ := gb_bdE hF
  refine gb_cS (As := [.int p1, .int (0 : Int32), .int (3 : Int32)]) (S := []) (v := some (.int x1)) (h1 := h2) (S2 := [.int x1]) dX11_deep_3 mtX11_in lX11_104 stX11_in (fnX11_in_ok _ _ cx1) (by decide) rfl (Nat.le_of_ble_eq_true rfl) (Nat.le_of_ble_eq_true rfl) rfl rfl ?_
  refine gb_if_eq (tgt := 34) dX11_deep_6 (by decide) (fun c3 => ?_) (fun c3 => ?_)
  · replace hF := gb_ifT c3 hF
    refine gb_iconst (v := (-1 : Int32)) dX11_deep_34 (by decide) ?_
    exact gb_wk (fbX11_deep_35_ok (-1 : Int32) h2 r hF) trivial
  · replace hF := gb_ifF c3 hF
    refine gb_aload_n dX11_deep_9 rfl rfl ?_
    obtain ⟨g4, hF⟩ := gb_gdE hF
    obtain ⟨a5, ea5, hF⟩ := gb_rdE hF
    refine gb_getR fX11_13 dX11_deep_10 (gb_kE g4) ea5 ?_
    refine gb_sipush (v := (128 : Int32)) dX11_deep_13 (by decide) ?_
    refine gb_iload_n dX11_deep_16 rfl rfl ?_
    refine gb_imul dX11_deep_17 ?_
    refine gb_aload_n dX11_deep_18 rfl rfl ?_
    obtain ⟨g6, hF⟩ := gb_gdE hF
    obtain ⟨a7, ea7, hF⟩ := gb_rdE hF
    refine gb_getR fX11_16 dX11_deep_19 (gb_kE g6) ea7 ?_
    refine gb_iload_n dX11_deep_22 rfl rfl ?_
    obtain ⟨g8, hF⟩ := gb_gdE hF
    obtain ⟨g9, hF⟩ := gb_gdE hF
    refine gb_iald dX11_deep_23 (gb_kE g8) (gb_inE g9) ?_
    refine gb_aload_n dX11_deep_24 rfl rfl ?_
    obtain ⟨g10, hF⟩ := gb_gdE hF
    refine gb_getI fX11_112 dX11_deep_25 (gb_kE g10) ?_
    obtain ⟨x11, h12, cx11, hF⟩ := gb_bdE hF
    refine gb_cS (As := [.ref a5, .int ((128 : Int32) * p1), .int (gb_I h2 a7 p1.toNatClampNeg), .int (gb_I h2 p0 1)]) (S := []) (v := some (.int x11)) (h1 := h12) (S2 := [.int x11]) dX11_deep_28 mtX11_deepOf lX11_274 stX11_deepOf (fnX11_deepOf_ok _ _ cx11) (by decide) rfl (Nat.le_of_ble_eq_true rfl) (Nat.le_of_ble_eq_true rfl) rfl rfl ?_
    refine gb_goto (tgt := 35) dX11_deep_31 (by decide) ?_
    exact gb_wk (fbX11_deep_35_ok x11 h12 r hF) trivial
def fbX11_modeAt_10 (k10 : Int32 → Int32 → Int32 → gb_H → Option (Int32 × gb_H)) (v2 : Int32) (v3 : Int32) (v4 : Int32) (h : gb_H) : Option (Int32 × gb_H) :=
  if v4 ≤ v2 then
    gb_gd (gb_nz (16 : Int32)) <|
    some (v3 - v3 / (16 : Int32) * (16 : Int32), h)
  else
    gb_gd (gb_nz (16 : Int32)) <|
    gb_lt (v3 / (16 : Int32)) fun x4 =>
    gb_lt (v4 + (-1 : Int32)) fun x5 =>
    k10 v2 x4 x5 h
theorem fbX11_modeAt_10_ok {X : gb_X} {k10 : Int32 → Int32 → Int32 → gb_H → Option (Int32 × gb_H)} (hk10 : ∀ v2 v3 v4 h r, k10 v2 v3 v4 h = some r → gb_Ev X 1 mX11_modeAt 10 [none, none, some (.int v2), some (.int v3), some (.int v4)] [] h (gb_wI r)) (v2 : Int32) (v3 : Int32) (v4 : Int32) (h : gb_H) (r : Int32 × gb_H) (hF : fbX11_modeAt_10 k10 v2 v3 v4 h = some r) : gb_Ev X 1 mX11_modeAt 10 [none, none, some (.int v2), some (.int v3), some (.int v4)] [] h (gb_wI r) := by
  unfold fbX11_modeAt_10 at hF
  refine gb_iload dX11_modeAt_10 rfl ?_
  refine gb_iload_n dX11_modeAt_12 rfl rfl ?_
  refine gb_icmp_le (tgt := 27) dX11_modeAt_13 (by decide) (fun c1 => ?_) (fun c1 => ?_)
  · replace hF := gb_ifT c1 hF
    refine gb_iload_n dX11_modeAt_27 rfl rfl ?_
    refine gb_bipush (v := (16 : Int32)) dX11_modeAt_28 (by decide) ?_
    obtain ⟨g2, hF⟩ := gb_gdE hF
    refine gb_irem dX11_modeAt_30 (gb_nzE g2) ?_
    cases hF
    exact gb_iret dX11_modeAt_31 rfl
  · replace hF := gb_ifF c1 hF
    refine gb_iload_n dX11_modeAt_16 rfl rfl ?_
    refine gb_bipush (v := (16 : Int32)) dX11_modeAt_17 (by decide) ?_
    obtain ⟨g3, hF⟩ := gb_gdE hF
    refine gb_idiv dX11_modeAt_19 (gb_nzE g3) ?_
    obtain ⟨x4, ex4, hF⟩ := gb_ltE hF
    refine gb_topI ex4 ?_
    refine gb_istore_n (L' := [none, none, some (.int v2), some (.int x4), some (.int v4)]) dX11_modeAt_20 rfl (by decide) rfl rfl ?_
    obtain ⟨x5, ex5, hF⟩ := gb_ltE hF
    refine gb_iinc (v := x5) (L' := [none, none, some (.int v2), some (.int x4), some (.int x5)]) dX11_modeAt_21 rfl (by rw [ex5]; rfl) (by decide) rfl rfl ?_
    refine gb_goto (tgt := 10) dX11_modeAt_24 (by decide) ?_
    exact gb_wk (hk10 v2 x4 x5 h r hF) (And.intro rfl (And.intro rfl (And.intro rfl trivial)))
def lpX11_modeAt_10 (n : Nat) (v2 : Int32) (v3 : Int32) (v4 : Int32) (h : gb_H) : Option (Int32 × gb_H) := gb_lp (σ := Int32 × Int32 × Int32 × gb_H) (fun k s => fbX11_modeAt_10 (fun v2 v3 v4 h => k (v2, v3, v4, h)) s.1 s.2.1 s.2.2.1 s.2.2.2) n (v2, v3, v4, h)
theorem lpX11_modeAt_10_ok {X : gb_X}  (n : Nat) (v2 : Int32) (v3 : Int32) (v4 : Int32) (h : gb_H) (r : Int32 × gb_H) (hF : lpX11_modeAt_10 n v2 v3 v4 h = some r) : gb_Ev X 1 mX11_modeAt 10 [none, none, some (.int v2), some (.int v3), some (.int v4)] [] h (gb_wI r) := by
  exact gb_lpE (σ := Int32 × Int32 × Int32 × gb_H) (P := fun s r => gb_Ev X 1 mX11_modeAt 10 [none, none, some (.int s.1), some (.int s.2.1), some (.int s.2.2.1)] [] s.2.2.2 (gb_wI r)) (fun k hk s r hs => fbX11_modeAt_10_ok (fun v2 v3 v4 h r e => hk (v2, v3, v4, h) r e) _ _ _ _ r hs) n (v2, v3, v4, h) r hF
def fnX11_modeAt (p0 : Nat) (p1 : Int32) (p2 : Int32) (h : gb_H) : Option (Int32 × gb_H) :=
  gb_gd (gb_k h p0 11) <|
  gb_lt ((gb_I h p0 23) - (1 : Int32)) fun x2 =>
  lpX11_modeAt_10 gb_FU p2 p1 x2 h
theorem fnX11_modeAt_ok {X : gb_X}  {p0 : Nat} {p1 : Int32} {p2 : Int32} (h : gb_H) (r : Int32 × gb_H) (hF : fnX11_modeAt p0 p1 p2 h = some r) : gb_Ev X 1 mX11_modeAt 0 (gb_L0 [.ref p0, .int p1, .int p2]) [] h (gb_wI r) := by
  unfold fnX11_modeAt at hF
  refine gb_weak (L' := [some (.ref p0), some (.int p1), some (.int p2), none, none]) (And.intro rfl (And.intro rfl (And.intro rfl trivial))) ?_
  refine gb_iload_n dX11_modeAt_0 rfl rfl ?_
  refine gb_istore_n (L' := [some (.ref p0), some (.int p1), some (.int p2), some (.int p1), none]) dX11_modeAt_1 rfl (by decide) rfl rfl ?_
  refine gb_aload_n dX11_modeAt_2 rfl rfl ?_
  obtain ⟨g1, hF⟩ := gb_gdE hF
  refine gb_getI fX11_225 dX11_modeAt_3 (gb_kE g1) ?_
  refine gb_iconst (v := (1 : Int32)) dX11_modeAt_6 (by decide) ?_
  refine gb_isub dX11_modeAt_7 ?_
  obtain ⟨x2, ex2, hF⟩ := gb_ltE hF
  refine gb_topI ex2 ?_
  refine gb_istore (L' := [some (.ref p0), some (.int p1), some (.int p2), some (.int p1), some (.int x2)]) dX11_modeAt_8 (by decide) rfl rfl ?_
  exact gb_wk (lpX11_modeAt_10_ok gb_FU p2 p1 x2 h r hF) (And.intro rfl (And.intro rfl (And.intro rfl trivial)))
def fbX11_inPath_33 (k5 : Nat → Int32 → Int32 → Int32 → Int32 → gb_H → Option (Int32 × gb_H)) (v0 : Nat) (v1 : Int32) (v2 : Int32) (v4 : Int32) (s0 : Int32) (s1 : Int32) (h : gb_H) : Option (Int32 × gb_H) :=
  gb_lt (s0 + s1) fun x1 =>
  gb_lt (v4 + (1 : Int32)) fun x2 =>
  k5 v0 v1 v2 x1 x2 h
theorem fbX11_inPath_33_ok {X : gb_X} {k5 : Nat → Int32 → Int32 → Int32 → Int32 → gb_H → Option (Int32 × gb_H)} (hk5 : ∀ v0 v1 v2 v3 v4 h r, k5 v0 v1 v2 v3 v4 h = some r → gb_Ev X 2 mX11_inPath 5 [some (.ref v0), some (.int v1), some (.int v2), some (.int v3), some (.int v4)] [] h (gb_wI r)) (v0 : Nat) (v1 : Int32) (v2 : Int32) (v4 : Int32) (s0 : Int32) (s1 : Int32) (h : gb_H) (r : Int32 × gb_H) (hF : fbX11_inPath_33 k5 v0 v1 v2 v4 s0 s1 h = some r) : gb_Ev X 2 mX11_inPath 33 [some (.ref v0), some (.int v1), some (.int v2), none, some (.int v4)] [.int s1, .int s0] h (gb_wI r) := by
  unfold fbX11_inPath_33 at hF
  refine gb_iadd dX11_inPath_33 ?_
  obtain ⟨x1, ex1, hF⟩ := gb_ltE hF
  refine gb_topI ex1 ?_
  refine gb_istore_n (L' := [some (.ref v0), some (.int v1), some (.int v2), some (.int x1), some (.int v4)]) dX11_inPath_34 rfl (by decide) rfl rfl ?_
  obtain ⟨x2, ex2, hF⟩ := gb_ltE hF
  refine gb_iinc (v := x2) (L' := [some (.ref v0), some (.int v1), some (.int v2), some (.int x1), some (.int x2)]) dX11_inPath_35 rfl (by rw [ex2]; rfl) (by decide) rfl rfl ?_
  refine gb_goto (tgt := 5) dX11_inPath_38 (by decide) ?_
  exact gb_wk (hk5 v0 v1 v2 x1 x2 h r hF) (And.intro rfl (And.intro rfl (And.intro rfl (And.intro rfl (And.intro rfl trivial)))))
def fbX11_inPath_5 (k5 : Nat → Int32 → Int32 → Int32 → Int32 → gb_H → Option (Int32 × gb_H)) (v0 : Nat) (v1 : Int32) (v2 : Int32) (v3 : Int32) (v4 : Int32) (h : gb_H) : Option (Int32 × gb_H) :=
  gb_gd (gb_k h v0 11) <|
  if (gb_I h v0 23) ≤ v4 then
    some (v3, h)
  else
    gb_gd (gb_k h v0 11) <|
    gb_bd (fnX11_modeAt v0 v1 v4 h) fun x4 h5 =>
    gb_gd (gb_nz (2 : Int32)) <|
    if (x4 / (2 : Int32)) = v2 then
      fbX11_inPath_33 k5 v0 v1 v2 v4 v3 (1 : Int32) h5
    else
      fbX11_inPath_33 k5 v0 v1 v2 v4 v3 (0 : Int32) h5
theorem fbX11_inPath_5_ok {X : gb_X} {k5 : Nat → Int32 → Int32 → Int32 → Int32 → gb_H → Option (Int32 × gb_H)} (hk5 : ∀ v0 v1 v2 v3 v4 h r, k5 v0 v1 v2 v3 v4 h = some r → gb_Ev X 2 mX11_inPath 5 [some (.ref v0), some (.int v1), some (.int v2), some (.int v3), some (.int v4)] [] h (gb_wI r)) (v0 : Nat) (v1 : Int32) (v2 : Int32) (v3 : Int32) (v4 : Int32) (h : gb_H) (r : Int32 × gb_H) (hF : fbX11_inPath_5 k5 v0 v1 v2 v3 v4 h = some r) : gb_Ev X 2 mX11_inPath 5 [some (.ref v0), some (.int v1), some (.int v2), some (.int v3), some (.int v4)] [] h (gb_wI r) := by
  unfold fbX11_inPath_5 at hF
  refine gb_iload dX11_inPath_5 rfl ?_
  refine gb_aload_n dX11_inPath_7 rfl rfl ?_
  obtain ⟨g1, hF⟩ := gb_gdE hF
  refine gb_getI fX11_225 dX11_inPath_8 (gb_kE g1) ?_
  refine gb_icmp_ge (tgt := 41) dX11_inPath_11 (by decide) (fun c2 => ?_) (fun c2 => ?_)
  · replace hF := gb_ifT c2 hF
    refine gb_iload_n dX11_inPath_41 rfl rfl ?_
    cases hF
    exact gb_iret dX11_inPath_42 rfl
  · replace hF := gb_ifF c2 hF
    refine gb_iload_n dX11_inPath_14 rfl rfl ?_
    refine gb_aload_n dX11_inPath_15 rfl rfl ?_
    refine gb_iload_n dX11_inPath_16 rfl rfl ?_
    refine gb_iload dX11_inPath_17 rfl ?_
    obtain ⟨g3, hF⟩ := gb_gdE hF
    obtain ⟨x4, h5, cx4, hF⟩ := gb_bdE hF
    refine gb_cV (As := [.int v1, .int v4]) (S := [.int v3]) (v := some (.int x4)) (h1 := h5) (S2 := [.int x4, .int v3]) cf11 dX11_inPath_19 mtX11_modeAt lX11_249 inX11_modeAt seX11_modeAt (gb_kE g3) (fnX11_modeAt_ok _ _ cx4) (by decide) rfl (Nat.le_of_ble_eq_true rfl) (Nat.le_of_ble_eq_true rfl) rfl rfl ?_
    refine gb_iconst (v := (2 : Int32)) dX11_inPath_22 (by decide) ?_
    obtain ⟨g6, hF⟩ := gb_gdE hF
    refine gb_idiv dX11_inPath_23 (gb_nzE g6) ?_
    refine gb_iload_n dX11_inPath_24 rfl rfl ?_
    refine gb_icmp_ne (tgt := 32) dX11_inPath_25 (by decide) (fun c7 => ?_) (fun c7 => ?_)
    · replace hF := gb_ifF c7 hF
      refine gb_iconst (v := (0 : Int32)) dX11_inPath_32 (by decide) ?_
      exact gb_wk (fbX11_inPath_33_ok hk5 v0 v1 v2 v4 v3 (0 : Int32) h5 r hF) (And.intro rfl (And.intro rfl (And.intro rfl (And.intro rfl trivial))))
    · replace hF := gb_ifT c7 hF
      refine gb_iconst (v := (1 : Int32)) dX11_inPath_28 (by decide) ?_
      refine gb_goto (tgt := 33) dX11_inPath_29 (by decide) ?_
      exact gb_wk (fbX11_inPath_33_ok hk5 v0 v1 v2 v4 v3 (1 : Int32) h5 r hF) (And.intro rfl (And.intro rfl (And.intro rfl (And.intro rfl trivial))))
def lpX11_inPath_5 (n : Nat) (v0 : Nat) (v1 : Int32) (v2 : Int32) (v3 : Int32) (v4 : Int32) (h : gb_H) : Option (Int32 × gb_H) := gb_lp (σ := Nat × Int32 × Int32 × Int32 × Int32 × gb_H) (fun k s => fbX11_inPath_5 (fun v0 v1 v2 v3 v4 h => k (v0, v1, v2, v3, v4, h)) s.1 s.2.1 s.2.2.1 s.2.2.2.1 s.2.2.2.2.1 s.2.2.2.2.2) n (v0, v1, v2, v3, v4, h)
theorem lpX11_inPath_5_ok {X : gb_X}  (n : Nat) (v0 : Nat) (v1 : Int32) (v2 : Int32) (v3 : Int32) (v4 : Int32) (h : gb_H) (r : Int32 × gb_H) (hF : lpX11_inPath_5 n v0 v1 v2 v3 v4 h = some r) : gb_Ev X 2 mX11_inPath 5 [some (.ref v0), some (.int v1), some (.int v2), some (.int v3), some (.int v4)] [] h (gb_wI r) := by
  exact gb_lpE (σ := Nat × Int32 × Int32 × Int32 × Int32 × gb_H) (P := fun s r => gb_Ev X 2 mX11_inPath 5 [some (.ref s.1), some (.int s.2.1), some (.int s.2.2.1), some (.int s.2.2.2.1), some (.int s.2.2.2.2.1)] [] s.2.2.2.2.2 (gb_wI r)) (fun k hk s r hs => fbX11_inPath_5_ok (fun v0 v1 v2 v3 v4 h r e => hk (v0, v1, v2, v3, v4, h) r e) _ _ _ _ _ _ r hs) n (v0, v1, v2, v3, v4, h) r hF
def fnX11_inPath (p0 : Nat) (p1 : Int32) (p2 : Int32) (h : gb_H) : Option (Int32 × gb_H) :=
  lpX11_inPath_5 gb_FU p0 p1 p2 (0 : Int32) (0 : Int32) h
theorem fnX11_inPath_ok {X : gb_X}  {p0 : Nat} {p1 : Int32} {p2 : Int32} (h : gb_H) (r : Int32 × gb_H) (hF : fnX11_inPath p0 p1 p2 h = some r) : gb_Ev X 2 mX11_inPath 0 (gb_L0 [.ref p0, .int p1, .int p2]) [] h (gb_wI r) := by
  unfold fnX11_inPath at hF
  refine gb_weak (L' := [some (.ref p0), some (.int p1), some (.int p2), none, none]) (And.intro rfl (And.intro rfl (And.intro rfl trivial))) ?_
  refine gb_iconst (v := (0 : Int32)) dX11_inPath_0 (by decide) ?_
  refine gb_istore_n (L' := [some (.ref p0), some (.int p1), some (.int p2), some (.int (0 : Int32)), none]) dX11_inPath_1 rfl (by decide) rfl rfl ?_
  refine gb_iconst (v := (0 : Int32)) dX11_inPath_2 (by decide) ?_
  refine gb_istore (L' := [some (.ref p0), some (.int p1), some (.int p2), some (.int (0 : Int32)), some (.int (0 : Int32))]) dX11_inPath_3 (by decide) rfl rfl ?_
  exact gb_wk (lpX11_inPath_5_ok gb_FU p0 p1 p2 (0 : Int32) (0 : Int32) h r hF) (And.intro rfl (And.intro rfl (And.intro rfl (And.intro rfl (And.intro rfl trivial)))))
def fnX11_placeAt (p0 : Nat) (p1 : Int32) (h : gb_H) : Option (Int32 × gb_H) :=
  gb_gd (gb_k h p0 11) <|
  gb_bd (fnX11_power (16 : Int64) (((gb_I h p0 23) - (1 : Int32)) - p1) h) fun x2 h3 =>
  some (x2.toInt32, h3)
theorem fnX11_placeAt_ok {X : gb_X}  {p0 : Nat} {p1 : Int32} (h : gb_H) (r : Int32 × gb_H) (hF : fnX11_placeAt p0 p1 h = some r) : gb_Ev X 2 mX11_placeAt 0 (gb_L0 [.ref p0, .int p1]) [] h (gb_wI r) := by
  unfold fnX11_placeAt at hF
  refine gb_weak (L' := [some (.ref p0), some (.int p1)]) (And.intro rfl (And.intro rfl trivial)) ?_
  refine gb_ldc2 (v := (16 : Int64)) dX11_placeAt_0 kX11_228 ?_
  refine gb_aload_n dX11_placeAt_3 rfl rfl ?_
  obtain ⟨g1, hF⟩ := gb_gdE hF
  refine gb_getI fX11_225 dX11_placeAt_4 (gb_kE g1) ?_
  refine gb_iconst (v := (1 : Int32)) dX11_placeAt_7 (by decide) ?_
  refine gb_isub dX11_placeAt_8 ?_
  refine gb_iload_n dX11_placeAt_9 rfl rfl ?_
  refine gb_isub dX11_placeAt_10 ?_
  obtain ⟨x2, h3, cx2, hF⟩ := gb_bdE hF
  refine gb_cS (As := [.long (16 : Int64), .int (((gb_I h p0 23) - (1 : Int32)) - p1)]) (S := []) (v := some (.long x2)) (h1 := h3) (S2 := [.long x2]) dX11_placeAt_11 mtX11_power lX11_218 stX11_power (fnX11_power_ok _ _ cx2) (by decide) rfl (Nat.le_of_ble_eq_true rfl) (Nat.le_of_ble_eq_true rfl) rfl rfl ?_
  refine gb_l2i dX11_placeAt_14 ?_
  cases hF
  exact gb_iret dX11_placeAt_15 rfl
def fnX11_puts (p0 : Nat) (p1 : Int64) (p2 : Int64) (p3 : Int64) (p4 : Int64) (h : gb_H) : Option (Unit × gb_H) :=
  gb_gd (gb_k h p0 23) <|
  gb_gd (gb_in h p0 (0 : Int32)) <|
  gb_lt (gb_sL h p0 (0 : Int32).toNatClampNeg p1) fun h3 =>
  gb_gd (gb_k h3 p0 23) <|
  gb_gd (gb_in h3 p0 (1 : Int32)) <|
  gb_lt (gb_sL h3 p0 (1 : Int32).toNatClampNeg p2) fun h6 =>
  gb_gd (gb_k h6 p0 23) <|
  gb_gd (gb_in h6 p0 (2 : Int32)) <|
  gb_lt (gb_sL h6 p0 (2 : Int32).toNatClampNeg p3) fun h9 =>
  gb_gd (gb_k h9 p0 23) <|
  gb_gd (gb_in h9 p0 (3 : Int32)) <|
  gb_lt (gb_sL h9 p0 (3 : Int32).toNatClampNeg p4) fun h12 =>
  some ((), h12)
theorem fnX11_puts_ok {X : gb_X}  {p0 : Nat} {p1 : Int64} {p2 : Int64} {p3 : Int64} {p4 : Int64} (h : gb_H) (r : Unit × gb_H) (hF : fnX11_puts p0 p1 p2 p3 p4 h = some r) : gb_Ev X 1 mX11_puts 0 (gb_L0 [.ref p0, .long p1, .long p2, .long p3, .long p4]) [] h (gb_wV r) := by
  unfold fnX11_puts at hF
  refine gb_weak (L' := [some (.ref p0), some (.long p1), none, some (.long p2), none, some (.long p3), none, some (.long p4), none]) (And.intro rfl (And.intro rfl (And.intro rfl (And.intro rfl (And.intro rfl trivial))))) ?_
  refine gb_aload_n dX11_puts_0 rfl rfl ?_
  refine gb_iconst (v := (0 : Int32)) dX11_puts_1 (by decide) ?_
  refine gb_lload_n dX11_puts_2 rfl rfl ?_
  obtain ⟨g1, hF⟩ := gb_gdE hF
  obtain ⟨g2, hF⟩ := gb_gdE hF
  obtain ⟨h3, eh3, hF⟩ := gb_ltE hF
  refine gb_last dX11_puts_3 (gb_kE g1) (gb_inE g2) (gb_hp eh3 ?_)
  refine gb_aload_n dX11_puts_4 rfl rfl ?_
  refine gb_iconst (v := (1 : Int32)) dX11_puts_5 (by decide) ?_
  refine gb_lload_n dX11_puts_6 rfl rfl ?_
  obtain ⟨g4, hF⟩ := gb_gdE hF
  obtain ⟨g5, hF⟩ := gb_gdE hF
  obtain ⟨h6, eh6, hF⟩ := gb_ltE hF
  refine gb_last dX11_puts_7 (gb_kE g4) (gb_inE g5) (gb_hp eh6 ?_)
  refine gb_aload_n dX11_puts_8 rfl rfl ?_
  refine gb_iconst (v := (2 : Int32)) dX11_puts_9 (by decide) ?_
  refine gb_lload dX11_puts_10 rfl ?_
  obtain ⟨g7, hF⟩ := gb_gdE hF
  obtain ⟨g8, hF⟩ := gb_gdE hF
  obtain ⟨h9, eh9, hF⟩ := gb_ltE hF
  refine gb_last dX11_puts_12 (gb_kE g7) (gb_inE g8) (gb_hp eh9 ?_)
  refine gb_aload_n dX11_puts_13 rfl rfl ?_
  refine gb_iconst (v := (3 : Int32)) dX11_puts_14 (by decide) ?_
  refine gb_lload dX11_puts_15 rfl ?_
  obtain ⟨g10, hF⟩ := gb_gdE hF
  obtain ⟨g11, hF⟩ := gb_gdE hF
  obtain ⟨h12, eh12, hF⟩ := gb_ltE hF
  refine gb_last dX11_puts_17 (gb_kE g10) (gb_inE g11) (gb_hp eh12 ?_)
  cases hF
  exact gb_vret dX11_puts_18 rfl
def fbX11_some_88 (h : gb_H) : Option (Unit × gb_H) :=
  some ((), h)
theorem fbX11_some_88_ok {X : gb_X} (h : gb_H) (r : Unit × gb_H) (hF : fbX11_some_88 h = some r) : gb_Ev X 2 mX11_some 88 [none, none, none, none, none, none, none, none, none] [] h (gb_wV r) := by
  unfold fbX11_some_88 at hF
  cases hF
  exact gb_vret dX11_some_88 rfl
def fbX11_some_43 (v0 : Nat) (v3 : Int32) (v4 : Int32) (v5 : Int64) (s0 : Int64) (h : gb_H) : Option (Unit × gb_H) :=
  if v3 = 0 then
    gb_bd (fnX11_puts v0 ((v4.toInt64) * v5) ((v4.toInt64) * s0) (0 : Int64) (0 : Int64) h) fun _ h3 =>
    fbX11_some_88 h3
  else
    gb_bd (fnX11_puts v0 (0 : Int64) (0 : Int64) ((v4.toInt64) * v5) ((v4.toInt64) * s0) h) fun _ h5 =>
    fbX11_some_88 h5
theorem fbX11_some_43_ok {X : gb_X} (v0 : Nat) (v3 : Int32) (v4 : Int32) (v5 : Int64) (s0 : Int64) (h : gb_H) (r : Unit × gb_H) (hF : fbX11_some_43 v0 v3 v4 v5 s0 h = some r) : gb_Ev X 2 mX11_some 43 [some (.ref v0), none, none, some (.int v3), some (.int v4), some (.long v5), none, none, none] [.long s0] h (gb_wV r) := by
  unfold fbX11_some_43 at hF
  refine gb_lstore (L' := [some (.ref v0), none, none, some (.int v3), some (.int v4), some (.long v5), none, some (.long s0), none]) dX11_some_43 (by decide) rfl rfl ?_
  refine gb_iload_n dX11_some_45 rfl rfl ?_
  refine gb_if_eq (tgt := 70) dX11_some_46 (by decide) (fun c1 => ?_) (fun c1 => ?_)
  · replace hF := gb_ifT c1 hF
    refine gb_aload_n dX11_some_70 rfl rfl ?_
    refine gb_iload dX11_some_71 rfl ?_
    refine gb_i2l dX11_some_73 ?_
    refine gb_lload dX11_some_74 rfl ?_
    refine gb_lmul dX11_some_76 ?_
    refine gb_iload dX11_some_77 rfl ?_
    refine gb_i2l dX11_some_79 ?_
    refine gb_lload dX11_some_80 rfl ?_
    refine gb_lmul dX11_some_82 ?_
    refine gb_lconst (v := (0 : Int64)) dX11_some_83 (by decide) ?_
    refine gb_lconst (v := (0 : Int64)) dX11_some_84 (by decide) ?_
    obtain ⟨x2, h3, cx2, hF⟩ := gb_bdE hF
    refine gb_cS (As := [.ref v0, .long ((v4.toInt64) * v5), .long ((v4.toInt64) * s0), .long (0 : Int64), .long (0 : Int64)]) (S := []) (v := none) (h1 := h3) (S2 := []) dX11_some_85 mtX11_puts lX11_234 stX11_puts (fnX11_puts_ok _ _ cx2) (by decide) rfl (Nat.le_of_ble_eq_true rfl) (Nat.le_of_ble_eq_true rfl) rfl rfl ?_
    exact gb_wk (fbX11_some_88_ok h3 r hF) trivial
  · replace hF := gb_ifF c1 hF
    refine gb_aload_n dX11_some_49 rfl rfl ?_
    refine gb_lconst (v := (0 : Int64)) dX11_some_50 (by decide) ?_
    refine gb_lconst (v := (0 : Int64)) dX11_some_51 (by decide) ?_
    refine gb_iload dX11_some_52 rfl ?_
    refine gb_i2l dX11_some_54 ?_
    refine gb_lload dX11_some_55 rfl ?_
    refine gb_lmul dX11_some_57 ?_
    refine gb_iload dX11_some_58 rfl ?_
    refine gb_i2l dX11_some_60 ?_
    refine gb_lload dX11_some_61 rfl ?_
    refine gb_lmul dX11_some_63 ?_
    obtain ⟨x4, h5, cx4, hF⟩ := gb_bdE hF
    refine gb_cS (As := [.ref v0, .long (0 : Int64), .long (0 : Int64), .long ((v4.toInt64) * v5), .long ((v4.toInt64) * s0)]) (S := []) (v := none) (h1 := h5) (S2 := []) dX11_some_64 mtX11_puts lX11_234 stX11_puts (fnX11_puts_ok _ _ cx4) (by decide) rfl (Nat.le_of_ble_eq_true rfl) (Nat.le_of_ble_eq_true rfl) rfl rfl ?_
    refine gb_goto (tgt := 88) dX11_some_67 (by decide) ?_
    exact gb_wk (fbX11_some_88_ok h5 r hF) trivial
def fbX11_some_31 (v0 : Nat) (v1 : Int32) (v3 : Int32) (v4 : Int32) (s0 : Int64) (h : gb_H) : Option (Unit × gb_H) :=
  if v1 = (2 : Int32) then
    fbX11_some_43 v0 v3 v4 s0 (1 : Int64) h
  else
    fbX11_some_43 v0 v3 v4 s0 (0 : Int64) h
theorem fbX11_some_31_ok {X : gb_X} (v0 : Nat) (v1 : Int32) (v3 : Int32) (v4 : Int32) (s0 : Int64) (h : gb_H) (r : Unit × gb_H) (hF : fbX11_some_31 v0 v1 v3 v4 s0 h = some r) : gb_Ev X 2 mX11_some 31 [some (.ref v0), some (.int v1), none, some (.int v3), some (.int v4), none, none, none, none] [.long s0] h (gb_wV r) := by
  unfold fbX11_some_31 at hF
  refine gb_lstore (L' := [some (.ref v0), some (.int v1), none, some (.int v3), some (.int v4), some (.long s0), none, none, none]) dX11_some_31 (by decide) rfl rfl ?_
  refine gb_iload_n dX11_some_33 rfl rfl ?_
  refine gb_iconst (v := (2 : Int32)) dX11_some_34 (by decide) ?_
  refine gb_icmp_ne (tgt := 42) dX11_some_35 (by decide) (fun c1 => ?_) (fun c1 => ?_)
  · replace hF := gb_ifF c1 hF
    refine gb_lconst (v := (0 : Int64)) dX11_some_42 (by decide) ?_
    exact gb_wk (fbX11_some_43_ok v0 v3 v4 s0 (0 : Int64) h r hF) (And.intro rfl (And.intro rfl (And.intro rfl (And.intro rfl trivial))))
  · replace hF := gb_ifT c1 hF
    refine gb_lconst (v := (1 : Int64)) dX11_some_38 (by decide) ?_
    refine gb_goto (tgt := 43) dX11_some_39 (by decide) ?_
    exact gb_wk (fbX11_some_43_ok v0 v3 v4 s0 (1 : Int64) h r hF) (And.intro rfl (And.intro rfl (And.intro rfl (And.intro rfl trivial))))
def fbX11_some_18 (v0 : Nat) (v1 : Int32) (v2 : Int32) (v3 : Int32) (v4 : Int32) (s0 : Int32) (h : gb_H) : Option (Unit × gb_H) :=
  if s0 = v2 then
    fbX11_some_31 v0 v1 v3 v4 (3 : Int64) h
  else
    fbX11_some_31 v0 v1 v3 v4 (4 : Int64) h
theorem fbX11_some_18_ok {X : gb_X} (v0 : Nat) (v1 : Int32) (v2 : Int32) (v3 : Int32) (v4 : Int32) (s0 : Int32) (h : gb_H) (r : Unit × gb_H) (hF : fbX11_some_18 v0 v1 v2 v3 v4 s0 h = some r) : gb_Ev X 2 mX11_some 18 [some (.ref v0), some (.int v1), some (.int v2), some (.int v3), some (.int v4), none, none, none, none] [.int s0] h (gb_wV r) := by
  unfold fbX11_some_18 at hF
  refine gb_iload_n dX11_some_18 rfl rfl ?_
  refine gb_icmp_ne (tgt := 28) dX11_some_19 (by decide) (fun c1 => ?_) (fun c1 => ?_)
  · replace hF := gb_ifF c1 hF
    refine gb_ldc2 (v := (4 : Int64)) dX11_some_28 kX11_232 ?_
    exact gb_wk (fbX11_some_31_ok v0 v1 v3 v4 (4 : Int64) h r hF) (And.intro rfl (And.intro rfl (And.intro rfl (And.intro rfl trivial))))
  · replace hF := gb_ifT c1 hF
    refine gb_ldc2 (v := (3 : Int64)) dX11_some_22 kX11_230 ?_
    refine gb_goto (tgt := 31) dX11_some_25 (by decide) ?_
    exact gb_wk (fbX11_some_31_ok v0 v1 v3 v4 (3 : Int64) h r hF) (And.intro rfl (And.intro rfl (And.intro rfl (And.intro rfl trivial))))
def fnX11_some (p0 : Nat) (p1 : Int32) (p2 : Int32) (p3 : Int32) (p4 : Int32) (h : gb_H) : Option (Unit × gb_H) :=
  if p1 = (2 : Int32) then
    fbX11_some_31 p0 p1 p3 p4 (0 : Int64) h
  else
    if p1 = 0 then
      fbX11_some_18 p0 p1 p2 p3 p4 (1 : Int32) h
    else
      fbX11_some_18 p0 p1 p2 p3 p4 (0 : Int32) h
theorem fnX11_some_ok {X : gb_X}  {p0 : Nat} {p1 : Int32} {p2 : Int32} {p3 : Int32} {p4 : Int32} (h : gb_H) (r : Unit × gb_H) (hF : fnX11_some p0 p1 p2 p3 p4 h = some r) : gb_Ev X 2 mX11_some 0 (gb_L0 [.ref p0, .int p1, .int p2, .int p3, .int p4]) [] h (gb_wV r) := by
  unfold fnX11_some at hF
  refine gb_weak (L' := [some (.ref p0), some (.int p1), some (.int p2), some (.int p3), some (.int p4), none, none, none, none]) (And.intro rfl (And.intro rfl (And.intro rfl (And.intro rfl (And.intro rfl trivial))))) ?_
  refine gb_iload_n dX11_some_0 rfl rfl ?_
  refine gb_iconst (v := (2 : Int32)) dX11_some_1 (by decide) ?_
  refine gb_icmp_ne (tgt := 9) dX11_some_2 (by decide) (fun c1 => ?_) (fun c1 => ?_)
  · replace hF := gb_ifF c1 hF
    refine gb_iload_n dX11_some_9 rfl rfl ?_
    refine gb_if_ne (tgt := 17) dX11_some_10 (by decide) (fun c2 => ?_) (fun c2 => ?_)
    · replace hF := gb_ifF c2 hF
      refine gb_iconst (v := (0 : Int32)) dX11_some_17 (by decide) ?_
      exact gb_wk (fbX11_some_18_ok p0 p1 p2 p3 p4 (0 : Int32) h r hF) (And.intro rfl (And.intro rfl (And.intro rfl (And.intro rfl (And.intro rfl trivial)))))
    · replace hF := gb_ifT c2 hF
      refine gb_iconst (v := (1 : Int32)) dX11_some_13 (by decide) ?_
      refine gb_goto (tgt := 18) dX11_some_14 (by decide) ?_
      exact gb_wk (fbX11_some_18_ok p0 p1 p2 p3 p4 (1 : Int32) h r hF) (And.intro rfl (And.intro rfl (And.intro rfl (And.intro rfl (And.intro rfl trivial)))))
  · replace hF := gb_ifT c1 hF
    refine gb_lconst (v := (0 : Int64)) dX11_some_5 (by decide) ?_
    refine gb_goto (tgt := 31) dX11_some_6 (by decide) ?_
    exact gb_wk (fbX11_some_31_ok p0 p1 p3 p4 (0 : Int64) h r hF) (And.intro rfl (And.intro rfl (And.intro rfl (And.intro rfl trivial))))
def fbX11_acts_459 (h : gb_H) : Option (Unit × gb_H) :=
  some ((), h)
theorem fbX11_acts_459_ok {X : gb_X} (h : gb_H) (r : Unit × gb_H) (hF : fbX11_acts_459 h = some r) : gb_Ev X 3 mX11_acts 459 [none, none, none, none, none, none, none, none, none, none] [] h (gb_wV r) := by
  unfold fbX11_acts_459 at hF
  cases hF
  exact gb_vret dX11_acts_459 rfl
def fbX11_acts_149 (v6 : Int32) (s0 : Nat) (s1 : Int32) (s2 : Int32) (h : gb_H) : Option (Unit × gb_H) :=
  gb_gd (gb_k h s0 11) <|
  gb_lt (gb_sI h s0 25 ((s1 * s2) + v6)) fun h2 =>
  fbX11_acts_459 h2
theorem fbX11_acts_149_ok {X : gb_X} (v6 : Int32) (s0 : Nat) (s1 : Int32) (s2 : Int32) (h : gb_H) (r : Unit × gb_H) (hF : fbX11_acts_149 v6 s0 s1 s2 h = some r) : gb_Ev X 3 mX11_acts 149 [none, none, none, none, none, none, some (.int v6), none, none, none] [.int s2, .int s1, .ref s0] h (gb_wV r) := by
  unfold fbX11_acts_149 at hF
  refine gb_imul dX11_acts_149 ?_
  refine gb_iload dX11_acts_150 rfl ?_
  refine gb_iadd dX11_acts_152 ?_
  obtain ⟨g1, hF⟩ := gb_gdE hF
  obtain ⟨h2, eh2, hF⟩ := gb_ltE hF
  refine gb_putI fX11_238 (gb_nff nf11_25) dX11_acts_153 (gb_kE g1) (fun _ => ⟨rfl, rfl⟩) (gb_hp eh2 ?_)
  refine gb_goto (tgt := 459) dX11_acts_156 (by decide) ?_
  exact gb_wk (fbX11_acts_459_ok h2 r hF) trivial
def fbX11_acts_100 (v0 : Nat) (v1 : Nat) (v2 : Int32) (v5 : Int32) (v6 : Int32) (v7 : Int32) (h : gb_H) : Option (Unit × gb_H) :=
  gb_gd (gb_k h v0 11) <|
  gb_rd (gb_R h v0 26) fun a2 =>
  gb_bd (fnX11_some a2 v7 (1 : Int32) (0 : Int32) (1 : Int32) h) fun _ h4 =>
  gb_gd (gb_k h4 v0 11) <|
  gb_rd (gb_R h4 v0 27) fun a6 =>
  gb_bd (fnX11_some a6 v7 (0 : Int32) (1 : Int32) (1 : Int32) h4) fun _ h8 =>
  gb_lt (v2 + (1 : Int32)) fun x9 =>
  gb_gd (gb_k h8 v1 20) <|
  gb_gd (gb_in h8 v1 x9) <|
  if v5 = (gb_I h8 v1 x9.toNatClampNeg) then
    gb_lt (v2 + (2 : Int32)) fun x13 =>
    gb_gd (gb_k h8 v1 20) <|
    gb_gd (gb_in h8 v1 x13) <|
    fbX11_acts_149 v6 v0 (2 : Int32) (gb_I h8 v1 x13.toNatClampNeg) h8
  else
    gb_lt (v2 + (1 : Int32)) fun x16 =>
    gb_gd (gb_k h8 v1 20) <|
    gb_gd (gb_in h8 v1 x16) <|
    fbX11_acts_149 v6 v0 (2 : Int32) (gb_I h8 v1 x16.toNatClampNeg) h8
theorem fbX11_acts_100_ok {X : gb_X} (v0 : Nat) (v1 : Nat) (v2 : Int32) (v5 : Int32) (v6 : Int32) (v7 : Int32) (h : gb_H) (r : Unit × gb_H) (hF : fbX11_acts_100 v0 v1 v2 v5 v6 v7 h = some r) : gb_Ev X 3 mX11_acts 100 [some (.ref v0), some (.ref v1), some (.int v2), none, none, some (.int v5), some (.int v6), some (.int v7), none, none] [] h (gb_wV r) := by
  unfold fbX11_acts_100 at hF
  refine gb_aload_n dX11_acts_100 rfl rfl ?_
  obtain ⟨g1, hF⟩ := gb_gdE hF
  obtain ⟨a2, ea2, hF⟩ := gb_rdE hF
  refine gb_getR fX11_53 dX11_acts_101 (gb_kE g1) ea2 ?_
  refine gb_iload dX11_acts_104 rfl ?_
  refine gb_iconst (v := (1 : Int32)) dX11_acts_106 (by decide) ?_
  refine gb_iconst (v := (0 : Int32)) dX11_acts_107 (by decide) ?_
  refine gb_iconst (v := (1 : Int32)) dX11_acts_108 (by decide) ?_
  obtain ⟨x3, h4, cx3, hF⟩ := gb_bdE hF
  refine gb_cS (As := [.ref a2, .int v7, .int (1 : Int32), .int (0 : Int32), .int (1 : Int32)]) (S := []) (v := none) (h1 := h4) (S2 := []) dX11_acts_109 mtX11_some lX11_241 stX11_some (fnX11_some_ok _ _ cx3) (by decide) rfl (Nat.le_of_ble_eq_true rfl) (Nat.le_of_ble_eq_true rfl) rfl rfl ?_
  refine gb_aload_n dX11_acts_112 rfl rfl ?_
  obtain ⟨g5, hF⟩ := gb_gdE hF
  obtain ⟨a6, ea6, hF⟩ := gb_rdE hF
  refine gb_getR fX11_56 dX11_acts_113 (gb_kE g5) ea6 ?_
  refine gb_iload dX11_acts_116 rfl ?_
  refine gb_iconst (v := (0 : Int32)) dX11_acts_118 (by decide) ?_
  refine gb_iconst (v := (1 : Int32)) dX11_acts_119 (by decide) ?_
  refine gb_iconst (v := (1 : Int32)) dX11_acts_120 (by decide) ?_
  obtain ⟨x7, h8, cx7, hF⟩ := gb_bdE hF
  refine gb_cS (As := [.ref a6, .int v7, .int (0 : Int32), .int (1 : Int32), .int (1 : Int32)]) (S := []) (v := none) (h1 := h8) (S2 := []) dX11_acts_121 mtX11_some lX11_241 stX11_some (fnX11_some_ok _ _ cx7) (by decide) rfl (Nat.le_of_ble_eq_true rfl) (Nat.le_of_ble_eq_true rfl) rfl rfl ?_
  refine gb_aload_n dX11_acts_124 rfl rfl ?_
  refine gb_iconst (v := (2 : Int32)) dX11_acts_125 (by decide) ?_
  refine gb_iload dX11_acts_126 rfl ?_
  refine gb_aload_n dX11_acts_128 rfl rfl ?_
  refine gb_iload_n dX11_acts_129 rfl rfl ?_
  refine gb_iconst (v := (1 : Int32)) dX11_acts_130 (by decide) ?_
  refine gb_iadd dX11_acts_131 ?_
  obtain ⟨x9, ex9, hF⟩ := gb_ltE hF
  refine gb_topI ex9 ?_
  obtain ⟨g10, hF⟩ := gb_gdE hF
  obtain ⟨g11, hF⟩ := gb_gdE hF
  refine gb_iald dX11_acts_132 (gb_kE g10) (gb_inE g11) ?_
  refine gb_icmp_ne (tgt := 144) dX11_acts_133 (by decide) (fun c12 => ?_) (fun c12 => ?_)
  · replace hF := gb_ifF c12 hF
    refine gb_aload_n dX11_acts_144 rfl rfl ?_
    refine gb_iload_n dX11_acts_145 rfl rfl ?_
    refine gb_iconst (v := (1 : Int32)) dX11_acts_146 (by decide) ?_
    refine gb_iadd dX11_acts_147 ?_
    obtain ⟨x16, ex16, hF⟩ := gb_ltE hF
    refine gb_topI ex16 ?_
    obtain ⟨g17, hF⟩ := gb_gdE hF
    obtain ⟨g18, hF⟩ := gb_gdE hF
    refine gb_iald dX11_acts_148 (gb_kE g17) (gb_inE g18) ?_
    exact gb_wk (fbX11_acts_149_ok v6 v0 (2 : Int32) (gb_I h8 v1 x16.toNatClampNeg) h8 r hF) (And.intro rfl trivial)
  · replace hF := gb_ifT c12 hF
    refine gb_aload_n dX11_acts_136 rfl rfl ?_
    refine gb_iload_n dX11_acts_137 rfl rfl ?_
    refine gb_iconst (v := (2 : Int32)) dX11_acts_138 (by decide) ?_
    refine gb_iadd dX11_acts_139 ?_
    obtain ⟨x13, ex13, hF⟩ := gb_ltE hF
    refine gb_topI ex13 ?_
    obtain ⟨g14, hF⟩ := gb_gdE hF
    obtain ⟨g15, hF⟩ := gb_gdE hF
    refine gb_iald dX11_acts_140 (gb_kE g14) (gb_inE g15) ?_
    refine gb_goto (tgt := 149) dX11_acts_141 (by decide) ?_
    exact gb_wk (fbX11_acts_149_ok v6 v0 (2 : Int32) (gb_I h8 v1 x13.toNatClampNeg) h8 r hF) (And.intro rfl trivial)
def fbX11_acts_205 (v0 : Nat) (v3 : Int32) (s0 : Nat) (s1 : Int32) (s2 : Int32) (s3 : Int32) (s4 : Int32) (h : gb_H) : Option (Unit × gb_H) :=
  gb_bd (fnX11_some s0 s1 s2 s3 s4 h) fun _ h2 =>
  gb_gd (gb_k h2 v0 11) <|
  gb_lt (gb_sI h2 v0 25 (v3 ^^^ (1 : Int32))) fun h4 =>
  fbX11_acts_459 h4
theorem fbX11_acts_205_ok {X : gb_X} (v0 : Nat) (v3 : Int32) (s0 : Nat) (s1 : Int32) (s2 : Int32) (s3 : Int32) (s4 : Int32) (h : gb_H) (r : Unit × gb_H) (hF : fbX11_acts_205 v0 v3 s0 s1 s2 s3 s4 h = some r) : gb_Ev X 3 mX11_acts 205 [some (.ref v0), none, none, some (.int v3), none, none, none, none, none, none] [.int s4, .int s3, .int s2, .int s1, .ref s0] h (gb_wV r) := by
  unfold fbX11_acts_205 at hF
  obtain ⟨x1, h2, cx1, hF⟩ := gb_bdE hF
  refine gb_cS (As := [.ref s0, .int s1, .int s2, .int s3, .int s4]) (S := []) (v := none) (h1 := h2) (S2 := []) dX11_acts_205 mtX11_some lX11_241 stX11_some (fnX11_some_ok _ _ cx1) (by decide) rfl (Nat.le_of_ble_eq_true rfl) (Nat.le_of_ble_eq_true rfl) rfl rfl ?_
  refine gb_aload_n dX11_acts_208 rfl rfl ?_
  refine gb_iload_n dX11_acts_209 rfl rfl ?_
  refine gb_iconst (v := (1 : Int32)) dX11_acts_210 (by decide) ?_
  refine gb_ixor dX11_acts_211 ?_
  obtain ⟨g3, hF⟩ := gb_gdE hF
  obtain ⟨h4, eh4, hF⟩ := gb_ltE hF
  refine gb_putI fX11_238 (gb_nff nf11_25) dX11_acts_212 (gb_kE g3) (fun _ => ⟨rfl, rfl⟩) (gb_hp eh4 ?_)
  refine gb_goto (tgt := 459) dX11_acts_215 (by decide) ?_
  exact gb_wk (fbX11_acts_459_ok h4 r hF) trivial
def fbX11_acts_351 (v6 : Int32) (s0 : Nat) (s1 : Int32) (s2 : Int32) (h : gb_H) : Option (Unit × gb_H) :=
  gb_gd (gb_k h s0 11) <|
  gb_lt (gb_sI h s0 25 ((s1 * s2) + v6)) fun h2 =>
  fbX11_acts_459 h2
theorem fbX11_acts_351_ok {X : gb_X} (v6 : Int32) (s0 : Nat) (s1 : Int32) (s2 : Int32) (h : gb_H) (r : Unit × gb_H) (hF : fbX11_acts_351 v6 s0 s1 s2 h = some r) : gb_Ev X 3 mX11_acts 351 [none, none, none, none, none, none, some (.int v6), none, none, none] [.int s2, .int s1, .ref s0] h (gb_wV r) := by
  unfold fbX11_acts_351 at hF
  refine gb_imul dX11_acts_351 ?_
  refine gb_iload dX11_acts_352 rfl ?_
  refine gb_iadd dX11_acts_354 ?_
  obtain ⟨g1, hF⟩ := gb_gdE hF
  obtain ⟨h2, eh2, hF⟩ := gb_ltE hF
  refine gb_putI fX11_238 (gb_nff nf11_25) dX11_acts_355 (gb_kE g1) (fun _ => ⟨rfl, rfl⟩) (gb_hp eh2 ?_)
  refine gb_goto (tgt := 459) dX11_acts_358 (by decide) ?_
  exact gb_wk (fbX11_acts_459_ok h2 r hF) trivial
def fbX11_acts_304 (v0 : Nat) (v1 : Nat) (v2 : Int32) (v5 : Int32) (v6 : Int32) (h : gb_H) : Option (Unit × gb_H) :=
  gb_gd (gb_k h v0 11) <|
  gb_rd (gb_R h v0 26) fun a2 =>
  gb_bd (fnX11_puts a2 (0 : Int64) (0 : Int64) (0 : Int64) (0 : Int64) h) fun _ h4 =>
  gb_gd (gb_k h4 v0 11) <|
  gb_rd (gb_R h4 v0 27) fun a6 =>
  gb_bd (fnX11_puts a6 (1 : Int64) (0 : Int64) (0 : Int64) (0 : Int64) h4) fun _ h8 =>
  gb_lt (v2 + (1 : Int32)) fun x9 =>
  gb_gd (gb_k h8 v1 20) <|
  gb_gd (gb_in h8 v1 x9) <|
  if v5 = (gb_I h8 v1 x9.toNatClampNeg) then
    gb_lt (v2 + (2 : Int32)) fun x13 =>
    gb_gd (gb_k h8 v1 20) <|
    gb_gd (gb_in h8 v1 x13) <|
    fbX11_acts_351 v6 v0 (2 : Int32) (gb_I h8 v1 x13.toNatClampNeg) h8
  else
    gb_lt (v2 + (1 : Int32)) fun x16 =>
    gb_gd (gb_k h8 v1 20) <|
    gb_gd (gb_in h8 v1 x16) <|
    fbX11_acts_351 v6 v0 (2 : Int32) (gb_I h8 v1 x16.toNatClampNeg) h8
theorem fbX11_acts_304_ok {X : gb_X} (v0 : Nat) (v1 : Nat) (v2 : Int32) (v5 : Int32) (v6 : Int32) (h : gb_H) (r : Unit × gb_H) (hF : fbX11_acts_304 v0 v1 v2 v5 v6 h = some r) : gb_Ev X 3 mX11_acts 304 [some (.ref v0), some (.ref v1), some (.int v2), none, none, some (.int v5), some (.int v6), none, none, none] [] h (gb_wV r) := by
  unfold fbX11_acts_304 at hF
  refine gb_aload_n dX11_acts_304 rfl rfl ?_
  obtain ⟨g1, hF⟩ := gb_gdE hF
  obtain ⟨a2, ea2, hF⟩ := gb_rdE hF
  refine gb_getR fX11_53 dX11_acts_305 (gb_kE g1) ea2 ?_
  refine gb_lconst (v := (0 : Int64)) dX11_acts_308 (by decide) ?_
  refine gb_lconst (v := (0 : Int64)) dX11_acts_309 (by decide) ?_
  refine gb_lconst (v := (0 : Int64)) dX11_acts_310 (by decide) ?_
  refine gb_lconst (v := (0 : Int64)) dX11_acts_311 (by decide) ?_
  obtain ⟨x3, h4, cx3, hF⟩ := gb_bdE hF
  refine gb_cS (As := [.ref a2, .long (0 : Int64), .long (0 : Int64), .long (0 : Int64), .long (0 : Int64)]) (S := []) (v := none) (h1 := h4) (S2 := []) dX11_acts_312 mtX11_puts lX11_234 stX11_puts (fnX11_puts_ok _ _ cx3) (by decide) rfl (Nat.le_of_ble_eq_true rfl) (Nat.le_of_ble_eq_true rfl) rfl rfl ?_
  refine gb_aload_n dX11_acts_315 rfl rfl ?_
  obtain ⟨g5, hF⟩ := gb_gdE hF
  obtain ⟨a6, ea6, hF⟩ := gb_rdE hF
  refine gb_getR fX11_56 dX11_acts_316 (gb_kE g5) ea6 ?_
  refine gb_lconst (v := (1 : Int64)) dX11_acts_319 (by decide) ?_
  refine gb_lconst (v := (0 : Int64)) dX11_acts_320 (by decide) ?_
  refine gb_lconst (v := (0 : Int64)) dX11_acts_321 (by decide) ?_
  refine gb_lconst (v := (0 : Int64)) dX11_acts_322 (by decide) ?_
  obtain ⟨x7, h8, cx7, hF⟩ := gb_bdE hF
  refine gb_cS (As := [.ref a6, .long (1 : Int64), .long (0 : Int64), .long (0 : Int64), .long (0 : Int64)]) (S := []) (v := none) (h1 := h8) (S2 := []) dX11_acts_323 mtX11_puts lX11_234 stX11_puts (fnX11_puts_ok _ _ cx7) (by decide) rfl (Nat.le_of_ble_eq_true rfl) (Nat.le_of_ble_eq_true rfl) rfl rfl ?_
  refine gb_aload_n dX11_acts_326 rfl rfl ?_
  refine gb_iconst (v := (2 : Int32)) dX11_acts_327 (by decide) ?_
  refine gb_iload dX11_acts_328 rfl ?_
  refine gb_aload_n dX11_acts_330 rfl rfl ?_
  refine gb_iload_n dX11_acts_331 rfl rfl ?_
  refine gb_iconst (v := (1 : Int32)) dX11_acts_332 (by decide) ?_
  refine gb_iadd dX11_acts_333 ?_
  obtain ⟨x9, ex9, hF⟩ := gb_ltE hF
  refine gb_topI ex9 ?_
  obtain ⟨g10, hF⟩ := gb_gdE hF
  obtain ⟨g11, hF⟩ := gb_gdE hF
  refine gb_iald dX11_acts_334 (gb_kE g10) (gb_inE g11) ?_
  refine gb_icmp_ne (tgt := 346) dX11_acts_335 (by decide) (fun c12 => ?_) (fun c12 => ?_)
  · replace hF := gb_ifF c12 hF
    refine gb_aload_n dX11_acts_346 rfl rfl ?_
    refine gb_iload_n dX11_acts_347 rfl rfl ?_
    refine gb_iconst (v := (1 : Int32)) dX11_acts_348 (by decide) ?_
    refine gb_iadd dX11_acts_349 ?_
    obtain ⟨x16, ex16, hF⟩ := gb_ltE hF
    refine gb_topI ex16 ?_
    obtain ⟨g17, hF⟩ := gb_gdE hF
    obtain ⟨g18, hF⟩ := gb_gdE hF
    refine gb_iald dX11_acts_350 (gb_kE g17) (gb_inE g18) ?_
    exact gb_wk (fbX11_acts_351_ok v6 v0 (2 : Int32) (gb_I h8 v1 x16.toNatClampNeg) h8 r hF) (And.intro rfl trivial)
  · replace hF := gb_ifT c12 hF
    refine gb_aload_n dX11_acts_338 rfl rfl ?_
    refine gb_iload_n dX11_acts_339 rfl rfl ?_
    refine gb_iconst (v := (2 : Int32)) dX11_acts_340 (by decide) ?_
    refine gb_iadd dX11_acts_341 ?_
    obtain ⟨x13, ex13, hF⟩ := gb_ltE hF
    refine gb_topI ex13 ?_
    obtain ⟨g14, hF⟩ := gb_gdE hF
    obtain ⟨g15, hF⟩ := gb_gdE hF
    refine gb_iald dX11_acts_342 (gb_kE g14) (gb_inE g15) ?_
    refine gb_goto (tgt := 351) dX11_acts_343 (by decide) ?_
    exact gb_wk (fbX11_acts_351_ok v6 v0 (2 : Int32) (gb_I h8 v1 x13.toNatClampNeg) h8 r hF) (And.intro rfl trivial)
def fbX11_acts_455 (s0 : Nat) (s1 : Int64) (s2 : Int64) (s3 : Int64) (h : gb_H) : Option (Unit × gb_H) :=
  gb_bd (fnX11_puts s0 s1 s2 s3 (0 : Int64) h) fun _ h2 =>
  fbX11_acts_459 h2
theorem fbX11_acts_455_ok {X : gb_X} (s0 : Nat) (s1 : Int64) (s2 : Int64) (s3 : Int64) (h : gb_H) (r : Unit × gb_H) (hF : fbX11_acts_455 s0 s1 s2 s3 h = some r) : gb_Ev X 3 mX11_acts 455 [none, none, none, none, none, none, none, none, none, none] [.long s3, .long s2, .long s1, .ref s0] h (gb_wV r) := by
  unfold fbX11_acts_455 at hF
  refine gb_lconst (v := (0 : Int64)) dX11_acts_455 (by decide) ?_
  obtain ⟨x1, h2, cx1, hF⟩ := gb_bdE hF
  refine gb_cS (As := [.ref s0, .long s1, .long s2, .long s3, .long (0 : Int64)]) (S := []) (v := none) (h1 := h2) (S2 := []) dX11_acts_456 mtX11_puts lX11_234 stX11_puts (fnX11_puts_ok _ _ cx1) (by decide) rfl (Nat.le_of_ble_eq_true rfl) (Nat.le_of_ble_eq_true rfl) rfl rfl ?_
  exact gb_wk (fbX11_acts_459_ok h2 r hF) trivial
def fbX11_acts_431 (v9 : Int32) (s0 : Nat) (s1 : Int64) (h : gb_H) : Option (Unit × gb_H) :=
  if v9 = (1 : Int32) then
    fbX11_acts_455 s0 s1 (0 : Int64) (1 : Int64) h
  else
    if v9 = (3 : Int32) then
      fbX11_acts_455 s0 s1 (0 : Int64) (-1 : Int64) h
    else
      fbX11_acts_455 s0 s1 (0 : Int64) (0 : Int64) h
theorem fbX11_acts_431_ok {X : gb_X} (v9 : Int32) (s0 : Nat) (s1 : Int64) (h : gb_H) (r : Unit × gb_H) (hF : fbX11_acts_431 v9 s0 s1 h = some r) : gb_Ev X 3 mX11_acts 431 [none, none, none, none, none, none, none, none, none, some (.int v9)] [.long s1, .ref s0] h (gb_wV r) := by
  unfold fbX11_acts_431 at hF
  refine gb_lconst (v := (0 : Int64)) dX11_acts_431 (by decide) ?_
  refine gb_iload dX11_acts_432 rfl ?_
  refine gb_iconst (v := (1 : Int32)) dX11_acts_434 (by decide) ?_
  refine gb_icmp_ne (tgt := 442) dX11_acts_435 (by decide) (fun c1 => ?_) (fun c1 => ?_)
  · replace hF := gb_ifF c1 hF
    refine gb_iload dX11_acts_442 rfl ?_
    refine gb_iconst (v := (3 : Int32)) dX11_acts_444 (by decide) ?_
    refine gb_icmp_ne (tgt := 454) dX11_acts_445 (by decide) (fun c2 => ?_) (fun c2 => ?_)
    · replace hF := gb_ifF c2 hF
      refine gb_lconst (v := (0 : Int64)) dX11_acts_454 (by decide) ?_
      exact gb_wk (fbX11_acts_455_ok s0 s1 (0 : Int64) (0 : Int64) h r hF) trivial
    · replace hF := gb_ifT c2 hF
      refine gb_ldc2 (v := (-1 : Int64)) dX11_acts_448 kX11_245 ?_
      refine gb_goto (tgt := 455) dX11_acts_451 (by decide) ?_
      exact gb_wk (fbX11_acts_455_ok s0 s1 (0 : Int64) (-1 : Int64) h r hF) trivial
  · replace hF := gb_ifT c1 hF
    refine gb_lconst (v := (1 : Int64)) dX11_acts_438 (by decide) ?_
    refine gb_goto (tgt := 455) dX11_acts_439 (by decide) ?_
    exact gb_wk (fbX11_acts_455_ok s0 s1 (0 : Int64) (1 : Int64) h r hF) trivial
def fbX11_acts_396 (v0 : Nat) (v1 : Nat) (v2 : Int32) (h : gb_H) : Option (Unit × gb_H) :=
  gb_lt (v2 + (5 : Int32)) fun x1 =>
  gb_gd (gb_k h v1 20) <|
  gb_gd (gb_in h v1 x1) <|
  gb_gd (gb_nz (4 : Int32)) <|
  gb_lt (gb_I h v1 x1.toNatClampNeg) fun x5 =>
  gb_lt (x5 - x5 / (4 : Int32) * (4 : Int32)) fun x6 =>
  gb_gd (gb_k h v0 11) <|
  gb_rd (gb_R h v0 26) fun a8 =>
  if x6 = 0 then
    fbX11_acts_431 x6 a8 (1 : Int64) h
  else
    if x6 = (2 : Int32) then
      fbX11_acts_431 x6 a8 (-1 : Int64) h
    else
      fbX11_acts_431 x6 a8 (0 : Int64) h
theorem fbX11_acts_396_ok {X : gb_X} (v0 : Nat) (v1 : Nat) (v2 : Int32) (h : gb_H) (r : Unit × gb_H) (hF : fbX11_acts_396 v0 v1 v2 h = some r) : gb_Ev X 3 mX11_acts 396 [some (.ref v0), some (.ref v1), some (.int v2), none, none, none, none, none, none, none] [] h (gb_wV r) := by
  unfold fbX11_acts_396 at hF
  refine gb_aload_n dX11_acts_396 rfl rfl ?_
  refine gb_iload_n dX11_acts_397 rfl rfl ?_
  refine gb_iconst (v := (5 : Int32)) dX11_acts_398 (by decide) ?_
  refine gb_iadd dX11_acts_399 ?_
  obtain ⟨x1, ex1, hF⟩ := gb_ltE hF
  refine gb_topI ex1 ?_
  obtain ⟨g2, hF⟩ := gb_gdE hF
  obtain ⟨g3, hF⟩ := gb_gdE hF
  refine gb_iald dX11_acts_400 (gb_kE g2) (gb_inE g3) ?_
  refine gb_iconst (v := (4 : Int32)) dX11_acts_401 (by decide) ?_
  obtain ⟨g4, hF⟩ := gb_gdE hF
  obtain ⟨x5, ex5, hF⟩ := gb_ltE hF
  refine gb_topI2 ex5 ?_
  refine gb_irem dX11_acts_402 (gb_nzE g4) ?_
  obtain ⟨x6, ex6, hF⟩ := gb_ltE hF
  refine gb_topI ex6 ?_
  refine gb_istore (L' := [some (.ref v0), some (.ref v1), some (.int v2), none, none, none, none, none, none, some (.int x6)]) dX11_acts_403 (by decide) rfl rfl ?_
  refine gb_aload_n dX11_acts_405 rfl rfl ?_
  obtain ⟨g7, hF⟩ := gb_gdE hF
  obtain ⟨a8, ea8, hF⟩ := gb_rdE hF
  refine gb_getR fX11_53 dX11_acts_406 (gb_kE g7) ea8 ?_
  refine gb_iload dX11_acts_409 rfl ?_
  refine gb_if_ne (tgt := 418) dX11_acts_411 (by decide) (fun c9 => ?_) (fun c9 => ?_)
  · replace hF := gb_ifF c9 hF
    refine gb_iload dX11_acts_418 rfl ?_
    refine gb_iconst (v := (2 : Int32)) dX11_acts_420 (by decide) ?_
    refine gb_icmp_ne (tgt := 430) dX11_acts_421 (by decide) (fun c10 => ?_) (fun c10 => ?_)
    · replace hF := gb_ifF c10 hF
      refine gb_lconst (v := (0 : Int64)) dX11_acts_430 (by decide) ?_
      exact gb_wk (fbX11_acts_431_ok x6 a8 (0 : Int64) h r hF) (And.intro rfl trivial)
    · replace hF := gb_ifT c10 hF
      refine gb_ldc2 (v := (-1 : Int64)) dX11_acts_424 kX11_245 ?_
      refine gb_goto (tgt := 431) dX11_acts_427 (by decide) ?_
      exact gb_wk (fbX11_acts_431_ok x6 a8 (-1 : Int64) h r hF) (And.intro rfl trivial)
  · replace hF := gb_ifT c9 hF
    refine gb_lconst (v := (1 : Int64)) dX11_acts_414 (by decide) ?_
    refine gb_goto (tgt := 431) dX11_acts_415 (by decide) ?_
    exact gb_wk (fbX11_acts_431_ok x6 a8 (1 : Int64) h r hF) (And.intro rfl trivial)
def fbX11_acts_361 (v0 : Nat) (v1 : Nat) (v2 : Int32) (v4 : Int32) (v5 : Int32) (v6 : Int32) (h : gb_H) : Option (Unit × gb_H) :=
  if v4 = (2 : Int32) then
    gb_lt (v2 + (1 : Int32)) fun x2 =>
    gb_gd (gb_k h v1 20) <|
    gb_gd (gb_in h v1 x2) <|
    if v5 = (gb_I h v1 x2.toNatClampNeg) then
      gb_lt (v2 + (4 : Int32)) fun x6 =>
      gb_gd (gb_k h v1 20) <|
      gb_gd (gb_in h v1 x6) <|
      if (gb_I h v1 x6.toNatClampNeg) = (-1 : Int32) then
        fbX11_acts_396 v0 v1 v2 h
      else
        gb_lt (v2 + (4 : Int32)) fun x10 =>
        gb_gd (gb_k h v1 20) <|
        gb_gd (gb_in h v1 x10) <|
        if (gb_I h v1 x10.toNatClampNeg) = v6 then
          fbX11_acts_396 v0 v1 v2 h
        else
          fbX11_acts_459 h
    else
      fbX11_acts_459 h
  else
    fbX11_acts_459 h
theorem fbX11_acts_361_ok {X : gb_X} (v0 : Nat) (v1 : Nat) (v2 : Int32) (v4 : Int32) (v5 : Int32) (v6 : Int32) (h : gb_H) (r : Unit × gb_H) (hF : fbX11_acts_361 v0 v1 v2 v4 v5 v6 h = some r) : gb_Ev X 3 mX11_acts 361 [some (.ref v0), some (.ref v1), some (.int v2), none, some (.int v4), some (.int v5), some (.int v6), none, none, none] [] h (gb_wV r) := by
  unfold fbX11_acts_361 at hF
  refine gb_iload dX11_acts_361 rfl ?_
  refine gb_iconst (v := (2 : Int32)) dX11_acts_363 (by decide) ?_
  refine gb_icmp_ne (tgt := 459) dX11_acts_364 (by decide) (fun c1 => ?_) (fun c1 => ?_)
  · replace hF := gb_ifF c1 hF
    exact gb_wk (fbX11_acts_459_ok h r hF) trivial
  · replace hF := gb_ifT c1 hF
    refine gb_iload dX11_acts_367 rfl ?_
    refine gb_aload_n dX11_acts_369 rfl rfl ?_
    refine gb_iload_n dX11_acts_370 rfl rfl ?_
    refine gb_iconst (v := (1 : Int32)) dX11_acts_371 (by decide) ?_
    refine gb_iadd dX11_acts_372 ?_
    obtain ⟨x2, ex2, hF⟩ := gb_ltE hF
    refine gb_topI ex2 ?_
    obtain ⟨g3, hF⟩ := gb_gdE hF
    obtain ⟨g4, hF⟩ := gb_gdE hF
    refine gb_iald dX11_acts_373 (gb_kE g3) (gb_inE g4) ?_
    refine gb_icmp_ne (tgt := 459) dX11_acts_374 (by decide) (fun c5 => ?_) (fun c5 => ?_)
    · replace hF := gb_ifF c5 hF
      exact gb_wk (fbX11_acts_459_ok h r hF) trivial
    · replace hF := gb_ifT c5 hF
      refine gb_aload_n dX11_acts_377 rfl rfl ?_
      refine gb_iload_n dX11_acts_378 rfl rfl ?_
      refine gb_iconst (v := (4 : Int32)) dX11_acts_379 (by decide) ?_
      refine gb_iadd dX11_acts_380 ?_
      obtain ⟨x6, ex6, hF⟩ := gb_ltE hF
      refine gb_topI ex6 ?_
      obtain ⟨g7, hF⟩ := gb_gdE hF
      obtain ⟨g8, hF⟩ := gb_gdE hF
      refine gb_iald dX11_acts_381 (gb_kE g7) (gb_inE g8) ?_
      refine gb_iconst (v := (-1 : Int32)) dX11_acts_382 (by decide) ?_
      refine gb_icmp_eq (tgt := 396) dX11_acts_383 (by decide) (fun c9 => ?_) (fun c9 => ?_)
      · replace hF := gb_ifT c9 hF
        exact gb_wk (fbX11_acts_396_ok v0 v1 v2 h r hF) (And.intro rfl (And.intro rfl (And.intro rfl trivial)))
      · replace hF := gb_ifF c9 hF
        refine gb_aload_n dX11_acts_386 rfl rfl ?_
        refine gb_iload_n dX11_acts_387 rfl rfl ?_
        refine gb_iconst (v := (4 : Int32)) dX11_acts_388 (by decide) ?_
        refine gb_iadd dX11_acts_389 ?_
        obtain ⟨x10, ex10, hF⟩ := gb_ltE hF
        refine gb_topI ex10 ?_
        obtain ⟨g11, hF⟩ := gb_gdE hF
        obtain ⟨g12, hF⟩ := gb_gdE hF
        refine gb_iald dX11_acts_390 (gb_kE g11) (gb_inE g12) ?_
        refine gb_iload dX11_acts_391 rfl ?_
        refine gb_icmp_ne (tgt := 459) dX11_acts_393 (by decide) (fun c13 => ?_) (fun c13 => ?_)
        · replace hF := gb_ifF c13 hF
          exact gb_wk (fbX11_acts_459_ok h r hF) trivial
        · replace hF := gb_ifT c13 hF
          exact gb_wk (fbX11_acts_396_ok v0 v1 v2 h r hF) (And.intro rfl (And.intro rfl (And.intro rfl trivial)))
def fbX11_acts_278 (v0 : Nat) (v1 : Nat) (v2 : Int32) (v4 : Int32) (v5 : Int32) (v6 : Int32) (h : gb_H) : Option (Unit × gb_H) :=
  if v4 = (3 : Int32) then
    gb_lt (v2 + (1 : Int32)) fun x2 =>
    gb_gd (gb_k h v1 20) <|
    gb_gd (gb_in h v1 x2) <|
    if v5 = (gb_I h v1 x2.toNatClampNeg) then
      fbX11_acts_304 v0 v1 v2 v5 v6 h
    else
      gb_lt (v2 + (2 : Int32)) fun x6 =>
      gb_gd (gb_k h v1 20) <|
      gb_gd (gb_in h v1 x6) <|
      if v5 = (gb_I h v1 x6.toNatClampNeg) then
        fbX11_acts_304 v0 v1 v2 v5 v6 h
      else
        fbX11_acts_361 v0 v1 v2 v4 v5 v6 h
  else
    fbX11_acts_361 v0 v1 v2 v4 v5 v6 h
theorem fbX11_acts_278_ok {X : gb_X} (v0 : Nat) (v1 : Nat) (v2 : Int32) (v4 : Int32) (v5 : Int32) (v6 : Int32) (h : gb_H) (r : Unit × gb_H) (hF : fbX11_acts_278 v0 v1 v2 v4 v5 v6 h = some r) : gb_Ev X 3 mX11_acts 278 [some (.ref v0), some (.ref v1), some (.int v2), none, some (.int v4), some (.int v5), some (.int v6), none, none, none] [] h (gb_wV r) := by
  unfold fbX11_acts_278 at hF
  refine gb_iload dX11_acts_278 rfl ?_
  refine gb_iconst (v := (3 : Int32)) dX11_acts_280 (by decide) ?_
  refine gb_icmp_ne (tgt := 361) dX11_acts_281 (by decide) (fun c1 => ?_) (fun c1 => ?_)
  · replace hF := gb_ifF c1 hF
    exact gb_wk (fbX11_acts_361_ok v0 v1 v2 v4 v5 v6 h r hF) (And.intro rfl (And.intro rfl (And.intro rfl (And.intro rfl (And.intro rfl (And.intro rfl trivial))))))
  · replace hF := gb_ifT c1 hF
    refine gb_iload dX11_acts_284 rfl ?_
    refine gb_aload_n dX11_acts_286 rfl rfl ?_
    refine gb_iload_n dX11_acts_287 rfl rfl ?_
    refine gb_iconst (v := (1 : Int32)) dX11_acts_288 (by decide) ?_
    refine gb_iadd dX11_acts_289 ?_
    obtain ⟨x2, ex2, hF⟩ := gb_ltE hF
    refine gb_topI ex2 ?_
    obtain ⟨g3, hF⟩ := gb_gdE hF
    obtain ⟨g4, hF⟩ := gb_gdE hF
    refine gb_iald dX11_acts_290 (gb_kE g3) (gb_inE g4) ?_
    refine gb_icmp_eq (tgt := 304) dX11_acts_291 (by decide) (fun c5 => ?_) (fun c5 => ?_)
    · replace hF := gb_ifT c5 hF
      exact gb_wk (fbX11_acts_304_ok v0 v1 v2 v5 v6 h r hF) (And.intro rfl (And.intro rfl (And.intro rfl (And.intro rfl (And.intro rfl trivial)))))
    · replace hF := gb_ifF c5 hF
      refine gb_iload dX11_acts_294 rfl ?_
      refine gb_aload_n dX11_acts_296 rfl rfl ?_
      refine gb_iload_n dX11_acts_297 rfl rfl ?_
      refine gb_iconst (v := (2 : Int32)) dX11_acts_298 (by decide) ?_
      refine gb_iadd dX11_acts_299 ?_
      obtain ⟨x6, ex6, hF⟩ := gb_ltE hF
      refine gb_topI ex6 ?_
      obtain ⟨g7, hF⟩ := gb_gdE hF
      obtain ⟨g8, hF⟩ := gb_gdE hF
      refine gb_iald dX11_acts_300 (gb_kE g7) (gb_inE g8) ?_
      refine gb_icmp_ne (tgt := 361) dX11_acts_301 (by decide) (fun c9 => ?_) (fun c9 => ?_)
      · replace hF := gb_ifF c9 hF
        exact gb_wk (fbX11_acts_361_ok v0 v1 v2 v4 v5 v6 h r hF) (And.intro rfl (And.intro rfl (And.intro rfl (And.intro rfl (And.intro rfl (And.intro rfl trivial))))))
      · replace hF := gb_ifT c9 hF
        exact gb_wk (fbX11_acts_304_ok v0 v1 v2 v5 v6 h r hF) (And.intro rfl (And.intro rfl (And.intro rfl (And.intro rfl (And.intro rfl trivial)))))
def fbX11_acts_218 (v0 : Nat) (v1 : Nat) (v2 : Int32) (v4 : Int32) (v5 : Int32) (v6 : Int32) (v7 : Int32) (h : gb_H) : Option (Unit × gb_H) :=
  if v4 = (4 : Int32) then
    gb_lt (v2 + (1 : Int32)) fun x2 =>
    gb_gd (gb_k h v1 20) <|
    gb_gd (gb_in h v1 x2) <|
    if v5 = (gb_I h v1 x2.toNatClampNeg) then
      gb_gd (gb_k h v0 11) <|
      gb_rd (gb_R h v0 26) fun a7 =>
      gb_bd (fnX11_some a7 v7 (1 : Int32) (0 : Int32) (1 : Int32) h) fun _ h9 =>
      gb_gd (gb_k h9 v0 11) <|
      gb_rd (gb_R h9 v0 27) fun a11 =>
      gb_bd (fnX11_some a11 v7 (0 : Int32) (1 : Int32) (1 : Int32) h9) fun _ h13 =>
      gb_lt (v2 + (2 : Int32)) fun x14 =>
      gb_gd (gb_k h13 v1 20) <|
      gb_gd (gb_in h13 v1 x14) <|
      gb_gd (gb_k h13 v0 11) <|
      gb_lt (gb_sI h13 v0 25 (((10 : Int32) + ((2 : Int32) * (gb_I h13 v1 x14.toNatClampNeg))) + v6)) fun h18 =>
      fbX11_acts_459 h18
    else
      fbX11_acts_278 v0 v1 v2 v4 v5 v6 h
  else
    fbX11_acts_278 v0 v1 v2 v4 v5 v6 h
theorem fbX11_acts_218_ok {X : gb_X} (v0 : Nat) (v1 : Nat) (v2 : Int32) (v4 : Int32) (v5 : Int32) (v6 : Int32) (v7 : Int32) (h : gb_H) (r : Unit × gb_H) (hF : fbX11_acts_218 v0 v1 v2 v4 v5 v6 v7 h = some r) : gb_Ev X 3 mX11_acts 218 [some (.ref v0), some (.ref v1), some (.int v2), none, some (.int v4), some (.int v5), some (.int v6), some (.int v7), none, none] [] h (gb_wV r) := by
  unfold fbX11_acts_218 at hF
  refine gb_iload dX11_acts_218 rfl ?_
  refine gb_iconst (v := (4 : Int32)) dX11_acts_220 (by decide) ?_
  refine gb_icmp_ne (tgt := 278) dX11_acts_221 (by decide) (fun c1 => ?_) (fun c1 => ?_)
  · replace hF := gb_ifF c1 hF
    exact gb_wk (fbX11_acts_278_ok v0 v1 v2 v4 v5 v6 h r hF) (And.intro rfl (And.intro rfl (And.intro rfl (And.intro rfl (And.intro rfl (And.intro rfl trivial))))))
  · replace hF := gb_ifT c1 hF
    refine gb_iload dX11_acts_224 rfl ?_
    refine gb_aload_n dX11_acts_226 rfl rfl ?_
    refine gb_iload_n dX11_acts_227 rfl rfl ?_
    refine gb_iconst (v := (1 : Int32)) dX11_acts_228 (by decide) ?_
    refine gb_iadd dX11_acts_229 ?_
    obtain ⟨x2, ex2, hF⟩ := gb_ltE hF
    refine gb_topI ex2 ?_
    obtain ⟨g3, hF⟩ := gb_gdE hF
    obtain ⟨g4, hF⟩ := gb_gdE hF
    refine gb_iald dX11_acts_230 (gb_kE g3) (gb_inE g4) ?_
    refine gb_icmp_ne (tgt := 278) dX11_acts_231 (by decide) (fun c5 => ?_) (fun c5 => ?_)
    · replace hF := gb_ifF c5 hF
      exact gb_wk (fbX11_acts_278_ok v0 v1 v2 v4 v5 v6 h r hF) (And.intro rfl (And.intro rfl (And.intro rfl (And.intro rfl (And.intro rfl (And.intro rfl trivial))))))
    · replace hF := gb_ifT c5 hF
      refine gb_aload_n dX11_acts_234 rfl rfl ?_
      obtain ⟨g6, hF⟩ := gb_gdE hF
      obtain ⟨a7, ea7, hF⟩ := gb_rdE hF
      refine gb_getR fX11_53 dX11_acts_235 (gb_kE g6) ea7 ?_
      refine gb_iload dX11_acts_238 rfl ?_
      refine gb_iconst (v := (1 : Int32)) dX11_acts_240 (by decide) ?_
      refine gb_iconst (v := (0 : Int32)) dX11_acts_241 (by decide) ?_
      refine gb_iconst (v := (1 : Int32)) dX11_acts_242 (by decide) ?_
      obtain ⟨x8, h9, cx8, hF⟩ := gb_bdE hF
      refine gb_cS (As := [.ref a7, .int v7, .int (1 : Int32), .int (0 : Int32), .int (1 : Int32)]) (S := []) (v := none) (h1 := h9) (S2 := []) dX11_acts_243 mtX11_some lX11_241 stX11_some (fnX11_some_ok _ _ cx8) (by decide) rfl (Nat.le_of_ble_eq_true rfl) (Nat.le_of_ble_eq_true rfl) rfl rfl ?_
      refine gb_aload_n dX11_acts_246 rfl rfl ?_
      obtain ⟨g10, hF⟩ := gb_gdE hF
      obtain ⟨a11, ea11, hF⟩ := gb_rdE hF
      refine gb_getR fX11_56 dX11_acts_247 (gb_kE g10) ea11 ?_
      refine gb_iload dX11_acts_250 rfl ?_
      refine gb_iconst (v := (0 : Int32)) dX11_acts_252 (by decide) ?_
      refine gb_iconst (v := (1 : Int32)) dX11_acts_253 (by decide) ?_
      refine gb_iconst (v := (1 : Int32)) dX11_acts_254 (by decide) ?_
      obtain ⟨x12, h13, cx12, hF⟩ := gb_bdE hF
      refine gb_cS (As := [.ref a11, .int v7, .int (0 : Int32), .int (1 : Int32), .int (1 : Int32)]) (S := []) (v := none) (h1 := h13) (S2 := []) dX11_acts_255 mtX11_some lX11_241 stX11_some (fnX11_some_ok _ _ cx12) (by decide) rfl (Nat.le_of_ble_eq_true rfl) (Nat.le_of_ble_eq_true rfl) rfl rfl ?_
      refine gb_aload_n dX11_acts_258 rfl rfl ?_
      refine gb_bipush (v := (10 : Int32)) dX11_acts_259 (by decide) ?_
      refine gb_iconst (v := (2 : Int32)) dX11_acts_261 (by decide) ?_
      refine gb_aload_n dX11_acts_262 rfl rfl ?_
      refine gb_iload_n dX11_acts_263 rfl rfl ?_
      refine gb_iconst (v := (2 : Int32)) dX11_acts_264 (by decide) ?_
      refine gb_iadd dX11_acts_265 ?_
      obtain ⟨x14, ex14, hF⟩ := gb_ltE hF
      refine gb_topI ex14 ?_
      obtain ⟨g15, hF⟩ := gb_gdE hF
      obtain ⟨g16, hF⟩ := gb_gdE hF
      refine gb_iald dX11_acts_266 (gb_kE g15) (gb_inE g16) ?_
      refine gb_imul dX11_acts_267 ?_
      refine gb_iadd dX11_acts_268 ?_
      refine gb_iload dX11_acts_269 rfl ?_
      refine gb_iadd dX11_acts_271 ?_
      obtain ⟨g17, hF⟩ := gb_gdE hF
      obtain ⟨h18, eh18, hF⟩ := gb_ltE hF
      refine gb_putI fX11_238 (gb_nff nf11_25) dX11_acts_272 (gb_kE g17) (fun _ => ⟨rfl, rfl⟩) (gb_hp eh18 ?_)
      refine gb_goto (tgt := 459) dX11_acts_275 (by decide) ?_
      exact gb_wk (fbX11_acts_459_ok h18 r hF) trivial
def fbX11_acts_159 (v0 : Nat) (v1 : Nat) (v2 : Int32) (v3 : Int32) (v4 : Int32) (v5 : Int32) (v6 : Int32) (v7 : Int32) (h : gb_H) : Option (Unit × gb_H) :=
  if v4 = (1 : Int32) then
    gb_lt (v2 + (1 : Int32)) fun x2 =>
    gb_gd (gb_k h v1 20) <|
    gb_gd (gb_in h v1 x2) <|
    if v5 = (gb_I h v1 x2.toNatClampNeg) then
      gb_gd (gb_k h v0 11) <|
      gb_rd (gb_R h v0 26) fun a7 =>
      gb_bd (fnX11_some a7 v7 (1 : Int32) (0 : Int32) (1 : Int32) h) fun _ h9 =>
      gb_gd (gb_k h9 v0 11) <|
      gb_rd (gb_R h9 v0 27) fun a11 =>
      if v6 = 0 then
        fbX11_acts_205 v0 v3 a11 v7 (0 : Int32) (0 : Int32) (1 : Int32) h9
      else
        fbX11_acts_205 v0 v3 a11 v7 (0 : Int32) (0 : Int32) (-1 : Int32) h9
    else
      fbX11_acts_218 v0 v1 v2 v4 v5 v6 v7 h
  else
    fbX11_acts_218 v0 v1 v2 v4 v5 v6 v7 h
theorem fbX11_acts_159_ok {X : gb_X} (v0 : Nat) (v1 : Nat) (v2 : Int32) (v3 : Int32) (v4 : Int32) (v5 : Int32) (v6 : Int32) (v7 : Int32) (h : gb_H) (r : Unit × gb_H) (hF : fbX11_acts_159 v0 v1 v2 v3 v4 v5 v6 v7 h = some r) : gb_Ev X 3 mX11_acts 159 [some (.ref v0), some (.ref v1), some (.int v2), some (.int v3), some (.int v4), some (.int v5), some (.int v6), some (.int v7), none, none] [] h (gb_wV r) := by
  unfold fbX11_acts_159 at hF
  refine gb_iload dX11_acts_159 rfl ?_
  refine gb_iconst (v := (1 : Int32)) dX11_acts_161 (by decide) ?_
  refine gb_icmp_ne (tgt := 218) dX11_acts_162 (by decide) (fun c1 => ?_) (fun c1 => ?_)
  · replace hF := gb_ifF c1 hF
    exact gb_wk (fbX11_acts_218_ok v0 v1 v2 v4 v5 v6 v7 h r hF) (And.intro rfl (And.intro rfl (And.intro rfl (And.intro rfl (And.intro rfl (And.intro rfl (And.intro rfl trivial)))))))
  · replace hF := gb_ifT c1 hF
    refine gb_iload dX11_acts_165 rfl ?_
    refine gb_aload_n dX11_acts_167 rfl rfl ?_
    refine gb_iload_n dX11_acts_168 rfl rfl ?_
    refine gb_iconst (v := (1 : Int32)) dX11_acts_169 (by decide) ?_
    refine gb_iadd dX11_acts_170 ?_
    obtain ⟨x2, ex2, hF⟩ := gb_ltE hF
    refine gb_topI ex2 ?_
    obtain ⟨g3, hF⟩ := gb_gdE hF
    obtain ⟨g4, hF⟩ := gb_gdE hF
    refine gb_iald dX11_acts_171 (gb_kE g3) (gb_inE g4) ?_
    refine gb_icmp_ne (tgt := 218) dX11_acts_172 (by decide) (fun c5 => ?_) (fun c5 => ?_)
    · replace hF := gb_ifF c5 hF
      exact gb_wk (fbX11_acts_218_ok v0 v1 v2 v4 v5 v6 v7 h r hF) (And.intro rfl (And.intro rfl (And.intro rfl (And.intro rfl (And.intro rfl (And.intro rfl (And.intro rfl trivial)))))))
    · replace hF := gb_ifT c5 hF
      refine gb_aload_n dX11_acts_175 rfl rfl ?_
      obtain ⟨g6, hF⟩ := gb_gdE hF
      obtain ⟨a7, ea7, hF⟩ := gb_rdE hF
      refine gb_getR fX11_53 dX11_acts_176 (gb_kE g6) ea7 ?_
      refine gb_iload dX11_acts_179 rfl ?_
      refine gb_iconst (v := (1 : Int32)) dX11_acts_181 (by decide) ?_
      refine gb_iconst (v := (0 : Int32)) dX11_acts_182 (by decide) ?_
      refine gb_iconst (v := (1 : Int32)) dX11_acts_183 (by decide) ?_
      obtain ⟨x8, h9, cx8, hF⟩ := gb_bdE hF
      refine gb_cS (As := [.ref a7, .int v7, .int (1 : Int32), .int (0 : Int32), .int (1 : Int32)]) (S := []) (v := none) (h1 := h9) (S2 := []) dX11_acts_184 mtX11_some lX11_241 stX11_some (fnX11_some_ok _ _ cx8) (by decide) rfl (Nat.le_of_ble_eq_true rfl) (Nat.le_of_ble_eq_true rfl) rfl rfl ?_
      refine gb_aload_n dX11_acts_187 rfl rfl ?_
      obtain ⟨g10, hF⟩ := gb_gdE hF
      obtain ⟨a11, ea11, hF⟩ := gb_rdE hF
      refine gb_getR fX11_56 dX11_acts_188 (gb_kE g10) ea11 ?_
      refine gb_iload dX11_acts_191 rfl ?_
      refine gb_iconst (v := (0 : Int32)) dX11_acts_193 (by decide) ?_
      refine gb_iconst (v := (0 : Int32)) dX11_acts_194 (by decide) ?_
      refine gb_iload dX11_acts_195 rfl ?_
      refine gb_if_ne (tgt := 204) dX11_acts_197 (by decide) (fun c12 => ?_) (fun c12 => ?_)
      · replace hF := gb_ifF c12 hF
        refine gb_iconst (v := (-1 : Int32)) dX11_acts_204 (by decide) ?_
        exact gb_wk (fbX11_acts_205_ok v0 v3 a11 v7 (0 : Int32) (0 : Int32) (-1 : Int32) h9 r hF) (And.intro rfl (And.intro rfl trivial))
      · replace hF := gb_ifT c12 hF
        refine gb_iconst (v := (1 : Int32)) dX11_acts_200 (by decide) ?_
        refine gb_goto (tgt := 205) dX11_acts_201 (by decide) ?_
        exact gb_wk (fbX11_acts_205_ok v0 v3 a11 v7 (0 : Int32) (0 : Int32) (1 : Int32) h9 r hF) (And.intro rfl (And.intro rfl trivial))
def fbX11_acts_37 (v0 : Nat) (v1 : Nat) (v2 : Int32) (v3 : Int32) (v4 : Int32) (v5 : Int32) (v6 : Int32) (v7 : Int32) (s0 : Int32) (h : gb_H) : Option (Unit × gb_H) :=
  gb_gd (gb_k h v0 11) <|
  gb_lt (gb_sI h v0 25 v3) fun h2 =>
  gb_gd (gb_k h2 v0 11) <|
  gb_rd (gb_R h2 v0 26) fun a4 =>
  gb_bd (fnX11_puts a4 (s0.toInt64) (0 : Int64) (0 : Int64) (0 : Int64) h2) fun _ h6 =>
  gb_gd (gb_k h6 v0 11) <|
  gb_rd (gb_R h6 v0 27) fun a8 =>
  gb_bd (fnX11_puts a8 (0 : Int64) (0 : Int64) (0 : Int64) (0 : Int64) h6) fun _ h10 =>
  if v5 ≤ (4 : Int32) then
    if v4 = 0 then
      gb_lt (v2 + (1 : Int32)) fun x13 =>
      gb_gd (gb_k h10 v1 20) <|
      gb_gd (gb_in h10 v1 x13) <|
      if v5 = (gb_I h10 v1 x13.toNatClampNeg) then
        fbX11_acts_100 v0 v1 v2 v5 v6 v7 h10
      else
        gb_lt (v2 + (2 : Int32)) fun x17 =>
        gb_gd (gb_k h10 v1 20) <|
        gb_gd (gb_in h10 v1 x17) <|
        if v5 = (gb_I h10 v1 x17.toNatClampNeg) then
          fbX11_acts_100 v0 v1 v2 v5 v6 v7 h10
        else
          fbX11_acts_159 v0 v1 v2 v3 v4 v5 v6 v7 h10
    else
      fbX11_acts_159 v0 v1 v2 v3 v4 v5 v6 v7 h10
  else
    some ((), h10)
theorem fbX11_acts_37_ok {X : gb_X} (v0 : Nat) (v1 : Nat) (v2 : Int32) (v3 : Int32) (v4 : Int32) (v5 : Int32) (v6 : Int32) (v7 : Int32) (s0 : Int32) (h : gb_H) (r : Unit × gb_H) (hF : fbX11_acts_37 v0 v1 v2 v3 v4 v5 v6 v7 s0 h = some r) : gb_Ev X 3 mX11_acts 37 [some (.ref v0), some (.ref v1), some (.int v2), some (.int v3), some (.int v4), some (.int v5), some (.int v6), some (.int v7), none, none] [.int s0] h (gb_wV r) := by
  unfold fbX11_acts_37 at hF
  refine gb_istore (L' := [some (.ref v0), some (.ref v1), some (.int v2), some (.int v3), some (.int v4), some (.int v5), some (.int v6), some (.int v7), some (.int s0), none]) dX11_acts_37 (by decide) rfl rfl ?_
  refine gb_aload_n dX11_acts_39 rfl rfl ?_
  refine gb_iload_n dX11_acts_40 rfl rfl ?_
  obtain ⟨g1, hF⟩ := gb_gdE hF
  obtain ⟨h2, eh2, hF⟩ := gb_ltE hF
  refine gb_putI fX11_238 (gb_nff nf11_25) dX11_acts_41 (gb_kE g1) (fun _ => ⟨rfl, rfl⟩) (gb_hp eh2 ?_)
  refine gb_aload_n dX11_acts_44 rfl rfl ?_
  obtain ⟨g3, hF⟩ := gb_gdE hF
  obtain ⟨a4, ea4, hF⟩ := gb_rdE hF
  refine gb_getR fX11_53 dX11_acts_45 (gb_kE g3) ea4 ?_
  refine gb_iload dX11_acts_48 rfl ?_
  refine gb_i2l dX11_acts_50 ?_
  refine gb_lconst (v := (0 : Int64)) dX11_acts_51 (by decide) ?_
  refine gb_lconst (v := (0 : Int64)) dX11_acts_52 (by decide) ?_
  refine gb_lconst (v := (0 : Int64)) dX11_acts_53 (by decide) ?_
  obtain ⟨x5, h6, cx5, hF⟩ := gb_bdE hF
  refine gb_cS (As := [.ref a4, .long (s0.toInt64), .long (0 : Int64), .long (0 : Int64), .long (0 : Int64)]) (S := []) (v := none) (h1 := h6) (S2 := []) dX11_acts_54 mtX11_puts lX11_234 stX11_puts (fnX11_puts_ok _ _ cx5) (by decide) rfl (Nat.le_of_ble_eq_true rfl) (Nat.le_of_ble_eq_true rfl) rfl rfl ?_
  refine gb_aload_n dX11_acts_57 rfl rfl ?_
  obtain ⟨g7, hF⟩ := gb_gdE hF
  obtain ⟨a8, ea8, hF⟩ := gb_rdE hF
  refine gb_getR fX11_56 dX11_acts_58 (gb_kE g7) ea8 ?_
  refine gb_lconst (v := (0 : Int64)) dX11_acts_61 (by decide) ?_
  refine gb_lconst (v := (0 : Int64)) dX11_acts_62 (by decide) ?_
  refine gb_lconst (v := (0 : Int64)) dX11_acts_63 (by decide) ?_
  refine gb_lconst (v := (0 : Int64)) dX11_acts_64 (by decide) ?_
  obtain ⟨x9, h10, cx9, hF⟩ := gb_bdE hF
  refine gb_cS (As := [.ref a8, .long (0 : Int64), .long (0 : Int64), .long (0 : Int64), .long (0 : Int64)]) (S := []) (v := none) (h1 := h10) (S2 := []) dX11_acts_65 mtX11_puts lX11_234 stX11_puts (fnX11_puts_ok _ _ cx9) (by decide) rfl (Nat.le_of_ble_eq_true rfl) (Nat.le_of_ble_eq_true rfl) rfl rfl ?_
  refine gb_iload dX11_acts_68 rfl ?_
  refine gb_iconst (v := (4 : Int32)) dX11_acts_70 (by decide) ?_
  refine gb_icmp_le (tgt := 75) dX11_acts_71 (by decide) (fun c11 => ?_) (fun c11 => ?_)
  · replace hF := gb_ifT c11 hF
    refine gb_iload dX11_acts_75 rfl ?_
    refine gb_if_ne (tgt := 159) dX11_acts_77 (by decide) (fun c12 => ?_) (fun c12 => ?_)
    · replace hF := gb_ifF c12 hF
      exact gb_wk (fbX11_acts_159_ok v0 v1 v2 v3 v4 v5 v6 v7 h10 r hF) (And.intro rfl (And.intro rfl (And.intro rfl (And.intro rfl (And.intro rfl (And.intro rfl (And.intro rfl (And.intro rfl trivial))))))))
    · replace hF := gb_ifT c12 hF
      refine gb_iload dX11_acts_80 rfl ?_
      refine gb_aload_n dX11_acts_82 rfl rfl ?_
      refine gb_iload_n dX11_acts_83 rfl rfl ?_
      refine gb_iconst (v := (1 : Int32)) dX11_acts_84 (by decide) ?_
      refine gb_iadd dX11_acts_85 ?_
      obtain ⟨x13, ex13, hF⟩ := gb_ltE hF
      refine gb_topI ex13 ?_
      obtain ⟨g14, hF⟩ := gb_gdE hF
      obtain ⟨g15, hF⟩ := gb_gdE hF
      refine gb_iald dX11_acts_86 (gb_kE g14) (gb_inE g15) ?_
      refine gb_icmp_eq (tgt := 100) dX11_acts_87 (by decide) (fun c16 => ?_) (fun c16 => ?_)
      · replace hF := gb_ifT c16 hF
        exact gb_wk (fbX11_acts_100_ok v0 v1 v2 v5 v6 v7 h10 r hF) (And.intro rfl (And.intro rfl (And.intro rfl (And.intro rfl (And.intro rfl (And.intro rfl trivial))))))
      · replace hF := gb_ifF c16 hF
        refine gb_iload dX11_acts_90 rfl ?_
        refine gb_aload_n dX11_acts_92 rfl rfl ?_
        refine gb_iload_n dX11_acts_93 rfl rfl ?_
        refine gb_iconst (v := (2 : Int32)) dX11_acts_94 (by decide) ?_
        refine gb_iadd dX11_acts_95 ?_
        obtain ⟨x17, ex17, hF⟩ := gb_ltE hF
        refine gb_topI ex17 ?_
        obtain ⟨g18, hF⟩ := gb_gdE hF
        obtain ⟨g19, hF⟩ := gb_gdE hF
        refine gb_iald dX11_acts_96 (gb_kE g18) (gb_inE g19) ?_
        refine gb_icmp_ne (tgt := 159) dX11_acts_97 (by decide) (fun c20 => ?_) (fun c20 => ?_)
        · replace hF := gb_ifF c20 hF
          exact gb_wk (fbX11_acts_159_ok v0 v1 v2 v3 v4 v5 v6 v7 h10 r hF) (And.intro rfl (And.intro rfl (And.intro rfl (And.intro rfl (And.intro rfl (And.intro rfl (And.intro rfl (And.intro rfl trivial))))))))
        · replace hF := gb_ifT c20 hF
          exact gb_wk (fbX11_acts_100_ok v0 v1 v2 v5 v6 v7 h10 r hF) (And.intro rfl (And.intro rfl (And.intro rfl (And.intro rfl (And.intro rfl (And.intro rfl trivial))))))
  · replace hF := gb_ifF c11 hF
    cases hF
    exact gb_vret dX11_acts_74 rfl
def fnX11_acts (p0 : Nat) (p1 : Nat) (p2 : Int32) (p3 : Int32) (h : gb_H) : Option (Unit × gb_H) :=
  gb_gd (gb_k h p1 20) <|
  gb_gd (gb_in h p1 p2) <|
  gb_lt (gb_I h p1 p2.toNatClampNeg) fun x3 =>
  gb_gd (gb_nz (2 : Int32)) <|
  gb_lt (p3 / (2 : Int32)) fun x5 =>
  gb_gd (gb_nz (2 : Int32)) <|
  gb_lt (p3 - p3 / (2 : Int32) * (2 : Int32)) fun x7 =>
  gb_lt (p2 + (3 : Int32)) fun x8 =>
  gb_gd (gb_k h p1 20) <|
  gb_gd (gb_in h p1 x8) <|
  gb_lt (gb_I h p1 x8.toNatClampNeg) fun x11 =>
  if x11 = (-1 : Int32) then
    fbX11_acts_37 p0 p1 p2 p3 x3 x5 x7 x11 (1 : Int32) h
  else
    gb_bd (fnX11_measure x11 h) fun x13 h14 =>
    fbX11_acts_37 p0 p1 p2 p3 x3 x5 x7 x11 x13 h14
theorem fnX11_acts_ok {X : gb_X}  {p0 : Nat} {p1 : Nat} {p2 : Int32} {p3 : Int32} (h : gb_H) (r : Unit × gb_H) (hF : fnX11_acts p0 p1 p2 p3 h = some r) : gb_Ev X 3 mX11_acts 0 (gb_L0 [.ref p0, .ref p1, .int p2, .int p3]) [] h (gb_wV r) := by
  unfold fnX11_acts at hF
  refine gb_weak (L' := [some (.ref p0), some (.ref p1), some (.int p2), some (.int p3), none, none, none, none, none, none]) (And.intro rfl (And.intro rfl (And.intro rfl (And.intro rfl trivial)))) ?_
  refine gb_aload_n dX11_acts_0 rfl rfl ?_
  refine gb_iload_n dX11_acts_1 rfl rfl ?_
  obtain ⟨g1, hF⟩ := gb_gdE hF
  obtain ⟨g2, hF⟩ := gb_gdE hF
  refine gb_iald dX11_acts_2 (gb_kE g1) (gb_inE g2) ?_
  obtain ⟨x3, ex3, hF⟩ := gb_ltE hF
  refine gb_topI ex3 ?_
  refine gb_istore (L' := [some (.ref p0), some (.ref p1), some (.int p2), some (.int p3), some (.int x3), none, none, none, none, none]) dX11_acts_3 (by decide) rfl rfl ?_
  refine gb_iload_n dX11_acts_5 rfl rfl ?_
  refine gb_iconst (v := (2 : Int32)) dX11_acts_6 (by decide) ?_
  obtain ⟨g4, hF⟩ := gb_gdE hF
  refine gb_idiv dX11_acts_7 (gb_nzE g4) ?_
  obtain ⟨x5, ex5, hF⟩ := gb_ltE hF
  refine gb_topI ex5 ?_
  refine gb_istore (L' := [some (.ref p0), some (.ref p1), some (.int p2), some (.int p3), some (.int x3), some (.int x5), none, none, none, none]) dX11_acts_8 (by decide) rfl rfl ?_
  refine gb_iload_n dX11_acts_10 rfl rfl ?_
  refine gb_iconst (v := (2 : Int32)) dX11_acts_11 (by decide) ?_
  obtain ⟨g6, hF⟩ := gb_gdE hF
  refine gb_irem dX11_acts_12 (gb_nzE g6) ?_
  obtain ⟨x7, ex7, hF⟩ := gb_ltE hF
  refine gb_topI ex7 ?_
  refine gb_istore (L' := [some (.ref p0), some (.ref p1), some (.int p2), some (.int p3), some (.int x3), some (.int x5), some (.int x7), none, none, none]) dX11_acts_13 (by decide) rfl rfl ?_
  refine gb_aload_n dX11_acts_15 rfl rfl ?_
  refine gb_iload_n dX11_acts_16 rfl rfl ?_
  refine gb_iconst (v := (3 : Int32)) dX11_acts_17 (by decide) ?_
  refine gb_iadd dX11_acts_18 ?_
  obtain ⟨x8, ex8, hF⟩ := gb_ltE hF
  refine gb_topI ex8 ?_
  obtain ⟨g9, hF⟩ := gb_gdE hF
  obtain ⟨g10, hF⟩ := gb_gdE hF
  refine gb_iald dX11_acts_19 (gb_kE g9) (gb_inE g10) ?_
  obtain ⟨x11, ex11, hF⟩ := gb_ltE hF
  refine gb_topI ex11 ?_
  refine gb_istore (L' := [some (.ref p0), some (.ref p1), some (.int p2), some (.int p3), some (.int x3), some (.int x5), some (.int x7), some (.int x11), none, none]) dX11_acts_20 (by decide) rfl rfl ?_
  refine gb_iload dX11_acts_22 rfl ?_
  refine gb_iconst (v := (-1 : Int32)) dX11_acts_24 (by decide) ?_
  refine gb_icmp_ne (tgt := 32) dX11_acts_25 (by decide) (fun c12 => ?_) (fun c12 => ?_)
  · replace hF := gb_ifF c12 hF
    refine gb_iload dX11_acts_32 rfl ?_
    obtain ⟨x13, h14, cx13, hF⟩ := gb_bdE hF
    refine gb_cS (As := [.int x11]) (S := []) (v := some (.int x13)) (h1 := h14) (S2 := [.int x13]) dX11_acts_34 mtX11_measure lX11_215 stX11_measure (fnX11_measure_ok _ _ cx13) (by decide) rfl (Nat.le_of_ble_eq_true rfl) (Nat.le_of_ble_eq_true rfl) rfl rfl ?_
    exact gb_wk (fbX11_acts_37_ok p0 p1 p2 p3 x3 x5 x7 x11 x13 h14 r hF) (And.intro rfl (And.intro rfl (And.intro rfl (And.intro rfl (And.intro rfl (And.intro rfl (And.intro rfl (And.intro rfl trivial))))))))
  · replace hF := gb_ifT c12 hF
    refine gb_iconst (v := (1 : Int32)) dX11_acts_28 (by decide) ?_
    refine gb_goto (tgt := 37) dX11_acts_29 (by decide) ?_
    exact gb_wk (fbX11_acts_37_ok p0 p1 p2 p3 x3 x5 x7 x11 (1 : Int32) h r hF) (And.intro rfl (And.intro rfl (And.intro rfl (And.intro rfl (And.intro rfl (And.intro rfl (And.intro rfl (And.intro rfl trivial))))))))
def fnX11_adds (p0 : Nat) (p1 : Int32) (p2 : Nat) (p3 : Int32) (p4 : Nat) (h : gb_H) : Option (Unit × gb_H) :=
  gb_gd (gb_k h p2 23) <|
  gb_gd (gb_in h p2 p3) <|
  gb_lt (gb_L h p2 p3.toNatClampNeg) fun x3 =>
  gb_lt (p3 + (1 : Int32)) fun x4 =>
  gb_gd (gb_k h p2 23) <|
  gb_gd (gb_in h p2 x4) <|
  gb_lt (gb_L h p2 x4.toNatClampNeg) fun x7 =>
  gb_lt (p3 + (2 : Int32)) fun x8 =>
  gb_gd (gb_k h p2 23) <|
  gb_gd (gb_in h p2 x8) <|
  gb_lt (gb_L h p2 x8.toNatClampNeg) fun x11 =>
  gb_lt (p3 + (3 : Int32)) fun x12 =>
  gb_gd (gb_k h p2 23) <|
  gb_gd (gb_in h p2 x12) <|
  gb_lt (gb_L h p2 x12.toNatClampNeg) fun x15 =>
  gb_lt ((4 : Int32) * p1) fun x16 =>
  gb_gd (gb_k h p0 23) <|
  gb_gd (gb_in h p0 x16) <|
  gb_gd (gb_k h p4 23) <|
  gb_gd (gb_in h p4 (0 : Int32)) <|
  gb_gd (gb_k h p4 23) <|
  gb_gd (gb_in h p4 (1 : Int32)) <|
  gb_gd (gb_k h p4 23) <|
  gb_gd (gb_in h p4 (2 : Int32)) <|
  gb_gd (gb_k h p4 23) <|
  gb_gd (gb_in h p4 (3 : Int32)) <|
  gb_gd (gb_k h p0 23) <|
  gb_gd (gb_in h p0 x16) <|
  gb_lt (gb_sL h p0 x16.toNatClampNeg ((gb_L h p0 x16.toNatClampNeg) + ((((x3 * (gb_L h p4 (0 : Int32).toNatClampNeg)) + (((2 : Int64) * x7) * (gb_L h p4 (1 : Int32).toNatClampNeg))) - (x11 * (gb_L h p4 (2 : Int32).toNatClampNeg))) - (((2 : Int64) * x15) * (gb_L h p4 (3 : Int32).toNatClampNeg))))) fun h29 =>
  gb_lt (((4 : Int32) * p1) + (1 : Int32)) fun x30 =>
  gb_gd (gb_k h29 p0 23) <|
  gb_gd (gb_in h29 p0 x30) <|
  gb_gd (gb_k h29 p4 23) <|
  gb_gd (gb_in h29 p4 (1 : Int32)) <|
  gb_gd (gb_k h29 p4 23) <|
  gb_gd (gb_in h29 p4 (0 : Int32)) <|
  gb_gd (gb_k h29 p4 23) <|
  gb_gd (gb_in h29 p4 (3 : Int32)) <|
  gb_gd (gb_k h29 p4 23) <|
  gb_gd (gb_in h29 p4 (2 : Int32)) <|
  gb_gd (gb_k h29 p0 23) <|
  gb_gd (gb_in h29 p0 x30) <|
  gb_lt (gb_sL h29 p0 x30.toNatClampNeg ((gb_L h29 p0 x30.toNatClampNeg) + ((((x3 * (gb_L h29 p4 (1 : Int32).toNatClampNeg)) + (x7 * (gb_L h29 p4 (0 : Int32).toNatClampNeg))) - (x11 * (gb_L h29 p4 (3 : Int32).toNatClampNeg))) - (x15 * (gb_L h29 p4 (2 : Int32).toNatClampNeg))))) fun h43 =>
  gb_lt (((4 : Int32) * p1) + (2 : Int32)) fun x44 =>
  gb_gd (gb_k h43 p0 23) <|
  gb_gd (gb_in h43 p0 x44) <|
  gb_gd (gb_k h43 p4 23) <|
  gb_gd (gb_in h43 p4 (2 : Int32)) <|
  gb_gd (gb_k h43 p4 23) <|
  gb_gd (gb_in h43 p4 (3 : Int32)) <|
  gb_gd (gb_k h43 p4 23) <|
  gb_gd (gb_in h43 p4 (0 : Int32)) <|
  gb_gd (gb_k h43 p4 23) <|
  gb_gd (gb_in h43 p4 (1 : Int32)) <|
  gb_gd (gb_k h43 p0 23) <|
  gb_gd (gb_in h43 p0 x44) <|
  gb_lt (gb_sL h43 p0 x44.toNatClampNeg ((gb_L h43 p0 x44.toNatClampNeg) + ((((x3 * (gb_L h43 p4 (2 : Int32).toNatClampNeg)) + (((2 : Int64) * x7) * (gb_L h43 p4 (3 : Int32).toNatClampNeg))) + (x11 * (gb_L h43 p4 (0 : Int32).toNatClampNeg))) + (((2 : Int64) * x15) * (gb_L h43 p4 (1 : Int32).toNatClampNeg))))) fun h57 =>
  gb_lt (((4 : Int32) * p1) + (3 : Int32)) fun x58 =>
  gb_gd (gb_k h57 p0 23) <|
  gb_gd (gb_in h57 p0 x58) <|
  gb_gd (gb_k h57 p4 23) <|
  gb_gd (gb_in h57 p4 (3 : Int32)) <|
  gb_gd (gb_k h57 p4 23) <|
  gb_gd (gb_in h57 p4 (2 : Int32)) <|
  gb_gd (gb_k h57 p4 23) <|
  gb_gd (gb_in h57 p4 (1 : Int32)) <|
  gb_gd (gb_k h57 p4 23) <|
  gb_gd (gb_in h57 p4 (0 : Int32)) <|
  gb_gd (gb_k h57 p0 23) <|
  gb_gd (gb_in h57 p0 x58) <|
  gb_lt (gb_sL h57 p0 x58.toNatClampNeg ((gb_L h57 p0 x58.toNatClampNeg) + ((((x3 * (gb_L h57 p4 (3 : Int32).toNatClampNeg)) + (x7 * (gb_L h57 p4 (2 : Int32).toNatClampNeg))) + (x11 * (gb_L h57 p4 (1 : Int32).toNatClampNeg))) + (x15 * (gb_L h57 p4 (0 : Int32).toNatClampNeg))))) fun h71 =>
  some ((), h71)
theorem fnX11_adds_ok {X : gb_X}  {p0 : Nat} {p1 : Int32} {p2 : Nat} {p3 : Int32} {p4 : Nat} (h : gb_H) (r : Unit × gb_H) (hF : fnX11_adds p0 p1 p2 p3 p4 h = some r) : gb_Ev X 1 mX11_adds 0 (gb_L0 [.ref p0, .int p1, .ref p2, .int p3, .ref p4]) [] h (gb_wV r) := by
  unfold fnX11_adds at hF
  refine gb_weak (L' := [some (.ref p0), some (.int p1), some (.ref p2), some (.int p3), some (.ref p4), none, none, none, none, none, none, none, none]) (And.intro rfl (And.intro rfl (And.intro rfl (And.intro rfl (And.intro rfl trivial))))) ?_
  refine gb_aload_n dX11_adds_0 rfl rfl ?_
  refine gb_iload_n dX11_adds_1 rfl rfl ?_
  obtain ⟨g1, hF⟩ := gb_gdE hF
  obtain ⟨g2, hF⟩ := gb_gdE hF
  refine gb_lald dX11_adds_2 (gb_kE g1) (gb_inE g2) ?_
  obtain ⟨x3, ex3, hF⟩ := gb_ltE hF
  refine gb_topJ ex3 ?_
  refine gb_lstore (L' := [some (.ref p0), some (.int p1), some (.ref p2), some (.int p3), some (.ref p4), some (.long x3), none, none, none, none, none, none, none]) dX11_adds_3 (by decide) rfl rfl ?_
  refine gb_aload_n dX11_adds_5 rfl rfl ?_
  refine gb_iload_n dX11_adds_6 rfl rfl ?_
  refine gb_iconst (v := (1 : Int32)) dX11_adds_7 (by decide) ?_
  refine gb_iadd dX11_adds_8 ?_
  obtain ⟨x4, ex4, hF⟩ := gb_ltE hF
  refine gb_topI ex4 ?_
  obtain ⟨g5, hF⟩ := gb_gdE hF
  obtain ⟨g6, hF⟩ := gb_gdE hF
  refine gb_lald dX11_adds_9 (gb_kE g5) (gb_inE g6) ?_
  obtain ⟨x7, ex7, hF⟩ := gb_ltE hF
  refine gb_topJ ex7 ?_
  refine gb_lstore (L' := [some (.ref p0), some (.int p1), some (.ref p2), some (.int p3), some (.ref p4), some (.long x3), none, some (.long x7), none, none, none, none, none]) dX11_adds_10 (by decide) rfl rfl ?_
  refine gb_aload_n dX11_adds_12 rfl rfl ?_
  refine gb_iload_n dX11_adds_13 rfl rfl ?_
  refine gb_iconst (v := (2 : Int32)) dX11_adds_14 (by decide) ?_
  refine gb_iadd dX11_adds_15 ?_
  obtain ⟨x8, ex8, hF⟩ := gb_ltE hF
  refine gb_topI ex8 ?_
  obtain ⟨g9, hF⟩ := gb_gdE hF
  obtain ⟨g10, hF⟩ := gb_gdE hF
  refine gb_lald dX11_adds_16 (gb_kE g9) (gb_inE g10) ?_
  obtain ⟨x11, ex11, hF⟩ := gb_ltE hF
  refine gb_topJ ex11 ?_
  refine gb_lstore (L' := [some (.ref p0), some (.int p1), some (.ref p2), some (.int p3), some (.ref p4), some (.long x3), none, some (.long x7), none, some (.long x11), none, none, none]) dX11_adds_17 (by decide) rfl rfl ?_
  refine gb_aload_n dX11_adds_19 rfl rfl ?_
  refine gb_iload_n dX11_adds_20 rfl rfl ?_
  refine gb_iconst (v := (3 : Int32)) dX11_adds_21 (by decide) ?_
  refine gb_iadd dX11_adds_22 ?_
  obtain ⟨x12, ex12, hF⟩ := gb_ltE hF
  refine gb_topI ex12 ?_
  obtain ⟨g13, hF⟩ := gb_gdE hF
  obtain ⟨g14, hF⟩ := gb_gdE hF
  refine gb_lald dX11_adds_23 (gb_kE g13) (gb_inE g14) ?_
  obtain ⟨x15, ex15, hF⟩ := gb_ltE hF
  refine gb_topJ ex15 ?_
  refine gb_lstore (L' := [some (.ref p0), some (.int p1), some (.ref p2), some (.int p3), some (.ref p4), some (.long x3), none, some (.long x7), none, some (.long x11), none, some (.long x15), none]) dX11_adds_24 (by decide) rfl rfl ?_
  refine gb_aload_n dX11_adds_26 rfl rfl ?_
  refine gb_iconst (v := (4 : Int32)) dX11_adds_27 (by decide) ?_
  refine gb_iload_n dX11_adds_28 rfl rfl ?_
  refine gb_imul dX11_adds_29 ?_
  obtain ⟨x16, ex16, hF⟩ := gb_ltE hF
  refine gb_topI ex16 ?_
  refine gb_dup2 dX11_adds_30 rfl rfl ?_
  obtain ⟨g17, hF⟩ := gb_gdE hF
  obtain ⟨g18, hF⟩ := gb_gdE hF
  refine gb_lald dX11_adds_31 (gb_kE g17) (gb_inE g18) ?_
  refine gb_lload dX11_adds_32 rfl ?_
  refine gb_aload dX11_adds_34 rfl ?_
  refine gb_iconst (v := (0 : Int32)) dX11_adds_36 (by decide) ?_
  obtain ⟨g19, hF⟩ := gb_gdE hF
  obtain ⟨g20, hF⟩ := gb_gdE hF
  refine gb_lald dX11_adds_37 (gb_kE g19) (gb_inE g20) ?_
  refine gb_lmul dX11_adds_38 ?_
  refine gb_ldc2 (v := (2 : Int64)) dX11_adds_39 kX11_247 ?_
  refine gb_lload dX11_adds_42 rfl ?_
  refine gb_lmul dX11_adds_44 ?_
  refine gb_aload dX11_adds_45 rfl ?_
  refine gb_iconst (v := (1 : Int32)) dX11_adds_47 (by decide) ?_
  obtain ⟨g21, hF⟩ := gb_gdE hF
  obtain ⟨g22, hF⟩ := gb_gdE hF
  refine gb_lald dX11_adds_48 (gb_kE g21) (gb_inE g22) ?_
  refine gb_lmul dX11_adds_49 ?_
  refine gb_ladd dX11_adds_50 ?_
  refine gb_lload dX11_adds_51 rfl ?_
  refine gb_aload dX11_adds_53 rfl ?_
  refine gb_iconst (v := (2 : Int32)) dX11_adds_55 (by decide) ?_
  obtain ⟨g23, hF⟩ := gb_gdE hF
  obtain ⟨g24, hF⟩ := gb_gdE hF
  refine gb_lald dX11_adds_56 (gb_kE g23) (gb_inE g24) ?_
  refine gb_lmul dX11_adds_57 ?_
  refine gb_lsub dX11_adds_58 ?_
  refine gb_ldc2 (v := (2 : Int64)) dX11_adds_59 kX11_247 ?_
  refine gb_lload dX11_adds_62 rfl ?_
  refine gb_lmul dX11_adds_64 ?_
  refine gb_aload dX11_adds_65 rfl ?_
  refine gb_iconst (v := (3 : Int32)) dX11_adds_67 (by decide) ?_
  obtain ⟨g25, hF⟩ := gb_gdE hF
  obtain ⟨g26, hF⟩ := gb_gdE hF
  refine gb_lald dX11_adds_68 (gb_kE g25) (gb_inE g26) ?_
  refine gb_lmul dX11_adds_69 ?_
  refine gb_lsub dX11_adds_70 ?_
  refine gb_ladd dX11_adds_71 ?_
  obtain ⟨g27, hF⟩ := gb_gdE hF
  obtain ⟨g28, hF⟩ := gb_gdE hF
  obtain ⟨h29, eh29, hF⟩ := gb_ltE hF
  refine gb_last dX11_adds_72 (gb_kE g27) (gb_inE g28) (gb_hp eh29 ?_)
  refine gb_aload_n dX11_adds_73 rfl rfl ?_
  refine gb_iconst (v := (4 : Int32)) dX11_adds_74 (by decide) ?_
  refine gb_iload_n dX11_adds_75 rfl rfl ?_
  refine gb_imul dX11_adds_76 ?_
  refine gb_iconst (v := (1 : Int32)) dX11_adds_77 (by decide) ?_
  refine gb_iadd dX11_adds_78 ?_
  obtain ⟨x30, ex30, hF⟩ := gb_ltE hF
  refine gb_topI ex30 ?_
  refine gb_dup2 dX11_adds_79 rfl rfl ?_
  obtain ⟨g31, hF⟩ := gb_gdE hF
  obtain ⟨g32, hF⟩ := gb_gdE hF
  refine gb_lald dX11_adds_80 (gb_kE g31) (gb_inE g32) ?_
  refine gb_lload dX11_adds_81 rfl ?_
  refine gb_aload dX11_adds_83 rfl ?_
  refine gb_iconst (v := (1 : Int32)) dX11_adds_85 (by decide) ?_
  obtain ⟨g33, hF⟩ := gb_gdE hF
  obtain ⟨g34, hF⟩ := gb_gdE hF
  refine gb_lald dX11_adds_86 (gb_kE g33) (gb_inE g34) ?_
  refine gb_lmul dX11_adds_87 ?_
  refine gb_lload dX11_adds_88 rfl ?_
  refine gb_aload dX11_adds_90 rfl ?_
  refine gb_iconst (v := (0 : Int32)) dX11_adds_92 (by decide) ?_
  obtain ⟨g35, hF⟩ := gb_gdE hF
  obtain ⟨g36, hF⟩ := gb_gdE hF
  refine gb_lald dX11_adds_93 (gb_kE g35) (gb_inE g36) ?_
  refine gb_lmul dX11_adds_94 ?_
  refine gb_ladd dX11_adds_95 ?_
  refine gb_lload dX11_adds_96 rfl ?_
  refine gb_aload dX11_adds_98 rfl ?_
  refine gb_iconst (v := (3 : Int32)) dX11_adds_100 (by decide) ?_
  obtain ⟨g37, hF⟩ := gb_gdE hF
  obtain ⟨g38, hF⟩ := gb_gdE hF
  refine gb_lald dX11_adds_101 (gb_kE g37) (gb_inE g38) ?_
  refine gb_lmul dX11_adds_102 ?_
  refine gb_lsub dX11_adds_103 ?_
  refine gb_lload dX11_adds_104 rfl ?_
  refine gb_aload dX11_adds_106 rfl ?_
  refine gb_iconst (v := (2 : Int32)) dX11_adds_108 (by decide) ?_
  obtain ⟨g39, hF⟩ := gb_gdE hF
  obtain ⟨g40, hF⟩ := gb_gdE hF
  refine gb_lald dX11_adds_109 (gb_kE g39) (gb_inE g40) ?_
  refine gb_lmul dX11_adds_110 ?_
  refine gb_lsub dX11_adds_111 ?_
  refine gb_ladd dX11_adds_112 ?_
  obtain ⟨g41, hF⟩ := gb_gdE hF
  obtain ⟨g42, hF⟩ := gb_gdE hF
  obtain ⟨h43, eh43, hF⟩ := gb_ltE hF
  refine gb_last dX11_adds_113 (gb_kE g41) (gb_inE g42) (gb_hp eh43 ?_)
  refine gb_aload_n dX11_adds_114 rfl rfl ?_
  refine gb_iconst (v := (4 : Int32)) dX11_adds_115 (by decide) ?_
  refine gb_iload_n dX11_adds_116 rfl rfl ?_
  refine gb_imul dX11_adds_117 ?_
  refine gb_iconst (v := (2 : Int32)) dX11_adds_118 (by decide) ?_
  refine gb_iadd dX11_adds_119 ?_
  obtain ⟨x44, ex44, hF⟩ := gb_ltE hF
  refine gb_topI ex44 ?_
  refine gb_dup2 dX11_adds_120 rfl rfl ?_
  obtain ⟨g45, hF⟩ := gb_gdE hF
  obtain ⟨g46, hF⟩ := gb_gdE hF
  refine gb_lald dX11_adds_121 (gb_kE g45) (gb_inE g46) ?_
  refine gb_lload dX11_adds_122 rfl ?_
  refine gb_aload dX11_adds_124 rfl ?_
  refine gb_iconst (v := (2 : Int32)) dX11_adds_126 (by decide) ?_
  obtain ⟨g47, hF⟩ := gb_gdE hF
  obtain ⟨g48, hF⟩ := gb_gdE hF
  refine gb_lald dX11_adds_127 (gb_kE g47) (gb_inE g48) ?_
  refine gb_lmul dX11_adds_128 ?_
  refine gb_ldc2 (v := (2 : Int64)) dX11_adds_129 kX11_247 ?_
  refine gb_lload dX11_adds_132 rfl ?_
  refine gb_lmul dX11_adds_134 ?_
  refine gb_aload dX11_adds_135 rfl ?_
  refine gb_iconst (v := (3 : Int32)) dX11_adds_137 (by decide) ?_
  obtain ⟨g49, hF⟩ := gb_gdE hF
  obtain ⟨g50, hF⟩ := gb_gdE hF
  refine gb_lald dX11_adds_138 (gb_kE g49) (gb_inE g50) ?_
  refine gb_lmul dX11_adds_139 ?_
  refine gb_ladd dX11_adds_140 ?_
  refine gb_lload dX11_adds_141 rfl ?_
  refine gb_aload dX11_adds_143 rfl ?_
  refine gb_iconst (v := (0 : Int32)) dX11_adds_145 (by decide) ?_
  obtain ⟨g51, hF⟩ := gb_gdE hF
  obtain ⟨g52, hF⟩ := gb_gdE hF
  refine gb_lald dX11_adds_146 (gb_kE g51) (gb_inE g52) ?_
  refine gb_lmul dX11_adds_147 ?_
  refine gb_ladd dX11_adds_148 ?_
  refine gb_ldc2 (v := (2 : Int64)) dX11_adds_149 kX11_247 ?_
  refine gb_lload dX11_adds_152 rfl ?_
  refine gb_lmul dX11_adds_154 ?_
  refine gb_aload dX11_adds_155 rfl ?_
  refine gb_iconst (v := (1 : Int32)) dX11_adds_157 (by decide) ?_
  obtain ⟨g53, hF⟩ := gb_gdE hF
  obtain ⟨g54, hF⟩ := gb_gdE hF
  refine gb_lald dX11_adds_158 (gb_kE g53) (gb_inE g54) ?_
  refine gb_lmul dX11_adds_159 ?_
  refine gb_ladd dX11_adds_160 ?_
  refine gb_ladd dX11_adds_161 ?_
  obtain ⟨g55, hF⟩ := gb_gdE hF
  obtain ⟨g56, hF⟩ := gb_gdE hF
  obtain ⟨h57, eh57, hF⟩ := gb_ltE hF
  refine gb_last dX11_adds_162 (gb_kE g55) (gb_inE g56) (gb_hp eh57 ?_)
  refine gb_aload_n dX11_adds_163 rfl rfl ?_
  refine gb_iconst (v := (4 : Int32)) dX11_adds_164 (by decide) ?_
  refine gb_iload_n dX11_adds_165 rfl rfl ?_
  refine gb_imul dX11_adds_166 ?_
  refine gb_iconst (v := (3 : Int32)) dX11_adds_167 (by decide) ?_
  refine gb_iadd dX11_adds_168 ?_
  obtain ⟨x58, ex58, hF⟩ := gb_ltE hF
  refine gb_topI ex58 ?_
  refine gb_dup2 dX11_adds_169 rfl rfl ?_
  obtain ⟨g59, hF⟩ := gb_gdE hF
  obtain ⟨g60, hF⟩ := gb_gdE hF
  refine gb_lald dX11_adds_170 (gb_kE g59) (gb_inE g60) ?_
  refine gb_lload dX11_adds_171 rfl ?_
  refine gb_aload dX11_adds_173 rfl ?_
  refine gb_iconst (v := (3 : Int32)) dX11_adds_175 (by decide) ?_
  obtain ⟨g61, hF⟩ := gb_gdE hF
  obtain ⟨g62, hF⟩ := gb_gdE hF
  refine gb_lald dX11_adds_176 (gb_kE g61) (gb_inE g62) ?_
  refine gb_lmul dX11_adds_177 ?_
  refine gb_lload dX11_adds_178 rfl ?_
  refine gb_aload dX11_adds_180 rfl ?_
  refine gb_iconst (v := (2 : Int32)) dX11_adds_182 (by decide) ?_
  obtain ⟨g63, hF⟩ := gb_gdE hF
  obtain ⟨g64, hF⟩ := gb_gdE hF
  refine gb_lald dX11_adds_183 (gb_kE g63) (gb_inE g64) ?_
  refine gb_lmul dX11_adds_184 ?_
  refine gb_ladd dX11_adds_185 ?_
  refine gb_lload dX11_adds_186 rfl ?_
  refine gb_aload dX11_adds_188 rfl ?_
  refine gb_iconst (v := (1 : Int32)) dX11_adds_190 (by decide) ?_
  obtain ⟨g65, hF⟩ := gb_gdE hF
  obtain ⟨g66, hF⟩ := gb_gdE hF
  refine gb_lald dX11_adds_191 (gb_kE g65) (gb_inE g66) ?_
  refine gb_lmul dX11_adds_192 ?_
  refine gb_ladd dX11_adds_193 ?_
  refine gb_lload dX11_adds_194 rfl ?_
  refine gb_aload dX11_adds_196 rfl ?_
  refine gb_iconst (v := (0 : Int32)) dX11_adds_198 (by decide) ?_
  obtain ⟨g67, hF⟩ := gb_gdE hF
  obtain ⟨g68, hF⟩ := gb_gdE hF
  refine gb_lald dX11_adds_199 (gb_kE g67) (gb_inE g68) ?_
  refine gb_lmul dX11_adds_200 ?_
  refine gb_ladd dX11_adds_201 ?_
  refine gb_ladd dX11_adds_202 ?_
  obtain ⟨g69, hF⟩ := gb_gdE hF
  obtain ⟨g70, hF⟩ := gb_gdE hF
  obtain ⟨h71, eh71, hF⟩ := gb_ltE hF
  refine gb_last dX11_adds_203 (gb_kE g69) (gb_inE g70) (gb_hp eh71 ?_)
  cases hF
  exact gb_vret dX11_adds_204 rfl
def fbX11_does_142 (k32 : Nat → Nat → Int32 → Int64 → Int32 → gb_H → Option (Unit × gb_H)) (k82 : Nat → Nat → Int32 → Int64 → Int32 → Int32 → Int32 → gb_H → Option (Unit × gb_H)) (v0 : Nat) (v1 : Nat) (v2 : Int32) (v4 : Int64) (v6 : Int32) (v7 : Int32) (v8 : Int32) (h : gb_H) : Option (Unit × gb_H) :=
  gb_lt (v8 + (1 : Int32)) fun x1 =>
  k82 v0 v1 v2 v4 v6 v7 x1 h
theorem fbX11_does_142_ok {X : gb_X} {k32 : Nat → Nat → Int32 → Int64 → Int32 → gb_H → Option (Unit × gb_H)} {k82 : Nat → Nat → Int32 → Int64 → Int32 → Int32 → Int32 → gb_H → Option (Unit × gb_H)} (hk32 : ∀ v0 v1 v2 v4 v6 h r, k32 v0 v1 v2 v4 v6 h = some r → gb_Ev X 4 mX11_does 32 [some (.ref v0), some (.ref v1), some (.int v2), none, some (.long v4), none, some (.int v6), none, none, none] [] h (gb_wV r)) (hk82 : ∀ v0 v1 v2 v4 v6 v7 v8 h r, k82 v0 v1 v2 v4 v6 v7 v8 h = some r → gb_Ev X 4 mX11_does 82 [some (.ref v0), some (.ref v1), some (.int v2), none, some (.long v4), none, some (.int v6), some (.int v7), some (.int v8), none] [] h (gb_wV r)) (v0 : Nat) (v1 : Nat) (v2 : Int32) (v4 : Int64) (v6 : Int32) (v7 : Int32) (v8 : Int32) (h : gb_H) (r : Unit × gb_H) (hF : fbX11_does_142 k32 k82 v0 v1 v2 v4 v6 v7 v8 h = some r) : gb_Ev X 4 mX11_does 142 [some (.ref v0), some (.ref v1), some (.int v2), none, some (.long v4), none, some (.int v6), some (.int v7), some (.int v8), none] [] h (gb_wV r) := by
  unfold fbX11_does_142 at hF
  obtain ⟨x1, ex1, hF⟩ := gb_ltE hF
  refine gb_iinc (v := x1) (L' := [some (.ref v0), some (.ref v1), some (.int v2), none, some (.long v4), none, some (.int v6), some (.int v7), some (.int x1), none]) dX11_does_142 rfl (by rw [ex1]; rfl) (by decide) rfl rfl ?_
  refine gb_goto (tgt := 82) dX11_does_145 (by decide) ?_
  exact gb_wk (hk82 v0 v1 v2 v4 v6 v7 x1 h r hF) (And.intro rfl (And.intro rfl (And.intro rfl (And.intro rfl (And.intro rfl (And.intro rfl (And.intro rfl trivial)))))))
def fbX11_does_123 (k32 : Nat → Nat → Int32 → Int64 → Int32 → gb_H → Option (Unit × gb_H)) (k82 : Nat → Nat → Int32 → Int64 → Int32 → Int32 → Int32 → gb_H → Option (Unit × gb_H)) (v0 : Nat) (v1 : Nat) (v2 : Int32) (v4 : Int64) (v6 : Int32) (v7 : Int32) (v8 : Int32) (s0 : Nat) (s1 : Int32) (s2 : Int64) (h : gb_H) : Option (Unit × gb_H) :=
  gb_gd (gb_k h s0 23) <|
  gb_gd (gb_in h s0 s1) <|
  gb_lt (gb_sL h s0 s1.toNatClampNeg s2) fun h3 =>
  if v7 = 0 then
    gb_gd (gb_k h3 v0 11) <|
    gb_rd (gb_R h3 v0 20) fun a6 =>
    gb_lt (((4 : Int32) * v6) + v8) fun x7 =>
    gb_gd (gb_k h3 a6 23) <|
    gb_gd (gb_in h3 a6 x7) <|
    gb_lt (gb_sL h3 a6 x7.toNatClampNeg (0 : Int64)) fun h10 =>
    fbX11_does_142 k32 k82 v0 v1 v2 v4 v6 v7 v8 h10
  else
    fbX11_does_142 k32 k82 v0 v1 v2 v4 v6 v7 v8 h3
theorem fbX11_does_123_ok {X : gb_X} {k32 : Nat → Nat → Int32 → Int64 → Int32 → gb_H → Option (Unit × gb_H)} {k82 : Nat → Nat → Int32 → Int64 → Int32 → Int32 → Int32 → gb_H → Option (Unit × gb_H)} (hk32 : ∀ v0 v1 v2 v4 v6 h r, k32 v0 v1 v2 v4 v6 h = some r → gb_Ev X 4 mX11_does 32 [some (.ref v0), some (.ref v1), some (.int v2), none, some (.long v4), none, some (.int v6), none, none, none] [] h (gb_wV r)) (hk82 : ∀ v0 v1 v2 v4 v6 v7 v8 h r, k82 v0 v1 v2 v4 v6 v7 v8 h = some r → gb_Ev X 4 mX11_does 82 [some (.ref v0), some (.ref v1), some (.int v2), none, some (.long v4), none, some (.int v6), some (.int v7), some (.int v8), none] [] h (gb_wV r)) (v0 : Nat) (v1 : Nat) (v2 : Int32) (v4 : Int64) (v6 : Int32) (v7 : Int32) (v8 : Int32) (s0 : Nat) (s1 : Int32) (s2 : Int64) (h : gb_H) (r : Unit × gb_H) (hF : fbX11_does_123 k32 k82 v0 v1 v2 v4 v6 v7 v8 s0 s1 s2 h = some r) : gb_Ev X 4 mX11_does 123 [some (.ref v0), some (.ref v1), some (.int v2), none, some (.long v4), none, some (.int v6), some (.int v7), some (.int v8), none] [.long s2, .int s1, .ref s0] h (gb_wV r) := by
  unfold fbX11_does_123 at hF
  obtain ⟨g1, hF⟩ := gb_gdE hF
  obtain ⟨g2, hF⟩ := gb_gdE hF
  obtain ⟨h3, eh3, hF⟩ := gb_ltE hF
  refine gb_last dX11_does_123 (gb_kE g1) (gb_inE g2) (gb_hp eh3 ?_)
  refine gb_iload dX11_does_124 rfl ?_
  refine gb_if_ne (tgt := 142) dX11_does_126 (by decide) (fun c4 => ?_) (fun c4 => ?_)
  · replace hF := gb_ifF c4 hF
    exact gb_wk (fbX11_does_142_ok hk32 hk82 v0 v1 v2 v4 v6 v7 v8 h3 r hF) (And.intro rfl (And.intro rfl (And.intro rfl (And.intro rfl (And.intro rfl (And.intro rfl (And.intro rfl trivial)))))))
  · replace hF := gb_ifT c4 hF
    refine gb_aload_n dX11_does_129 rfl rfl ?_
    obtain ⟨g5, hF⟩ := gb_gdE hF
    obtain ⟨a6, ea6, hF⟩ := gb_rdE hF
    refine gb_getR fX11_43 dX11_does_130 (gb_kE g5) ea6 ?_
    refine gb_iconst (v := (4 : Int32)) dX11_does_133 (by decide) ?_
    refine gb_iload dX11_does_134 rfl ?_
    refine gb_imul dX11_does_136 ?_
    refine gb_iload dX11_does_137 rfl ?_
    refine gb_iadd dX11_does_139 ?_
    refine gb_lconst (v := (0 : Int64)) dX11_does_140 (by decide) ?_
    obtain ⟨x7, ex7, hF⟩ := gb_ltE hF
    refine gb_topI2 ex7 ?_
    obtain ⟨g8, hF⟩ := gb_gdE hF
    obtain ⟨g9, hF⟩ := gb_gdE hF
    obtain ⟨h10, eh10, hF⟩ := gb_ltE hF
    refine gb_last dX11_does_141 (gb_kE g8) (gb_inE g9) (gb_hp eh10 ?_)
    exact gb_wk (fbX11_does_142_ok hk32 hk82 v0 v1 v2 v4 v6 v7 v8 h10 r hF) (And.intro rfl (And.intro rfl (And.intro rfl (And.intro rfl (And.intro rfl (And.intro rfl (And.intro rfl trivial)))))))
def fbX11_does_82 (k32 : Nat → Nat → Int32 → Int64 → Int32 → gb_H → Option (Unit × gb_H)) (k82 : Nat → Nat → Int32 → Int64 → Int32 → Int32 → Int32 → gb_H → Option (Unit × gb_H)) (v0 : Nat) (v1 : Nat) (v2 : Int32) (v4 : Int64) (v6 : Int32) (v7 : Int32) (v8 : Int32) (h : gb_H) : Option (Unit × gb_H) :=
  if (4 : Int32) ≤ v8 then
    gb_lt (v6 + (1 : Int32)) fun x2 =>
    k32 v0 v1 v2 v4 x2 h
  else
    gb_gd (gb_k h v0 11) <|
    gb_rd (gb_R h v0 21) fun a4 =>
    if v7 = 0 then
      gb_gd (gb_k h v0 11) <|
      gb_rd (gb_R h v0 20) fun a7 =>
      gb_lt (((4 : Int32) * v6) + v8) fun x8 =>
      gb_gd (gb_k h a7 23) <|
      gb_gd (gb_in h a7 x8) <|
      fbX11_does_123 k32 k82 v0 v1 v2 v4 v6 v7 v8 a4 (((4 : Int32) * v6) + v8) (v4 * (gb_L h a7 x8.toNatClampNeg)) h
    else
      fbX11_does_123 k32 k82 v0 v1 v2 v4 v6 v7 v8 a4 (((4 : Int32) * v6) + v8) (0 : Int64) h
theorem fbX11_does_82_ok {X : gb_X} {k32 : Nat → Nat → Int32 → Int64 → Int32 → gb_H → Option (Unit × gb_H)} {k82 : Nat → Nat → Int32 → Int64 → Int32 → Int32 → Int32 → gb_H → Option (Unit × gb_H)} (hk32 : ∀ v0 v1 v2 v4 v6 h r, k32 v0 v1 v2 v4 v6 h = some r → gb_Ev X 4 mX11_does 32 [some (.ref v0), some (.ref v1), some (.int v2), none, some (.long v4), none, some (.int v6), none, none, none] [] h (gb_wV r)) (hk82 : ∀ v0 v1 v2 v4 v6 v7 v8 h r, k82 v0 v1 v2 v4 v6 v7 v8 h = some r → gb_Ev X 4 mX11_does 82 [some (.ref v0), some (.ref v1), some (.int v2), none, some (.long v4), none, some (.int v6), some (.int v7), some (.int v8), none] [] h (gb_wV r)) (v0 : Nat) (v1 : Nat) (v2 : Int32) (v4 : Int64) (v6 : Int32) (v7 : Int32) (v8 : Int32) (h : gb_H) (r : Unit × gb_H) (hF : fbX11_does_82 k32 k82 v0 v1 v2 v4 v6 v7 v8 h = some r) : gb_Ev X 4 mX11_does 82 [some (.ref v0), some (.ref v1), some (.int v2), none, some (.long v4), none, some (.int v6), some (.int v7), some (.int v8), none] [] h (gb_wV r) := by
  unfold fbX11_does_82 at hF
  refine gb_iload dX11_does_82 rfl ?_
  refine gb_iconst (v := (4 : Int32)) dX11_does_84 (by decide) ?_
  refine gb_icmp_ge (tgt := 148) dX11_does_85 (by decide) (fun c1 => ?_) (fun c1 => ?_)
  · replace hF := gb_ifT c1 hF
    obtain ⟨x2, ex2, hF⟩ := gb_ltE hF
    refine gb_iinc (v := x2) (L' := [some (.ref v0), some (.ref v1), some (.int v2), none, some (.long v4), none, some (.int x2), some (.int v7), some (.int v8), none]) dX11_does_148 rfl (by rw [ex2]; rfl) (by decide) rfl rfl ?_
    refine gb_goto (tgt := 32) dX11_does_151 (by decide) ?_
    exact gb_wk (hk32 v0 v1 v2 v4 x2 h r hF) (And.intro rfl (And.intro rfl (And.intro rfl (And.intro rfl (And.intro rfl trivial)))))
  · replace hF := gb_ifF c1 hF
    refine gb_aload_n dX11_does_88 rfl rfl ?_
    obtain ⟨g3, hF⟩ := gb_gdE hF
    obtain ⟨a4, ea4, hF⟩ := gb_rdE hF
    refine gb_getR fX11_47 dX11_does_89 (gb_kE g3) ea4 ?_
    refine gb_iconst (v := (4 : Int32)) dX11_does_92 (by decide) ?_
    refine gb_iload dX11_does_93 rfl ?_
    refine gb_imul dX11_does_95 ?_
    refine gb_iload dX11_does_96 rfl ?_
    refine gb_iadd dX11_does_98 ?_
    refine gb_iload dX11_does_99 rfl ?_
    refine gb_if_eq (tgt := 108) dX11_does_101 (by decide) (fun c5 => ?_) (fun c5 => ?_)
    · replace hF := gb_ifT c5 hF
      refine gb_lload dX11_does_108 rfl ?_
      refine gb_aload_n dX11_does_110 rfl rfl ?_
      obtain ⟨g6, hF⟩ := gb_gdE hF
      obtain ⟨a7, ea7, hF⟩ := gb_rdE hF
      refine gb_getR fX11_43 dX11_does_111 (gb_kE g6) ea7 ?_
      refine gb_iconst (v := (4 : Int32)) dX11_does_114 (by decide) ?_
      refine gb_iload dX11_does_115 rfl ?_
      refine gb_imul dX11_does_117 ?_
      refine gb_iload dX11_does_118 rfl ?_
      refine gb_iadd dX11_does_120 ?_
      obtain ⟨x8, ex8, hF⟩ := gb_ltE hF
      refine gb_topI ex8 ?_
      obtain ⟨g9, hF⟩ := gb_gdE hF
      obtain ⟨g10, hF⟩ := gb_gdE hF
      refine gb_lald dX11_does_121 (gb_kE g9) (gb_inE g10) ?_
      refine gb_lmul dX11_does_122 ?_
      exact gb_wk (fbX11_does_123_ok hk32 hk82 v0 v1 v2 v4 v6 v7 v8 a4 (((4 : Int32) * v6) + v8) (v4 * (gb_L h a7 x8.toNatClampNeg)) h r hF) (And.intro rfl (And.intro rfl (And.intro rfl (And.intro rfl (And.intro rfl (And.intro rfl (And.intro rfl trivial)))))))
    · replace hF := gb_ifF c5 hF
      refine gb_lconst (v := (0 : Int64)) dX11_does_104 (by decide) ?_
      refine gb_goto (tgt := 123) dX11_does_105 (by decide) ?_
      exact gb_wk (fbX11_does_123_ok hk32 hk82 v0 v1 v2 v4 v6 v7 v8 a4 (((4 : Int32) * v6) + v8) (0 : Int64) h r hF) (And.intro rfl (And.intro rfl (And.intro rfl (And.intro rfl (And.intro rfl (And.intro rfl (And.intro rfl trivial)))))))
def lpX11_does_82 (k32 : Nat → Nat → Int32 → Int64 → Int32 → gb_H → Option (Unit × gb_H)) (n : Nat) (v0 : Nat) (v1 : Nat) (v2 : Int32) (v4 : Int64) (v6 : Int32) (v7 : Int32) (v8 : Int32) (h : gb_H) : Option (Unit × gb_H) := gb_lp (σ := Nat × Nat × Int32 × Int64 × Int32 × Int32 × Int32 × gb_H) (fun k s => fbX11_does_82 k32 (fun v0 v1 v2 v4 v6 v7 v8 h => k (v0, v1, v2, v4, v6, v7, v8, h)) s.1 s.2.1 s.2.2.1 s.2.2.2.1 s.2.2.2.2.1 s.2.2.2.2.2.1 s.2.2.2.2.2.2.1 s.2.2.2.2.2.2.2) n (v0, v1, v2, v4, v6, v7, v8, h)
theorem lpX11_does_82_ok {X : gb_X}  {k32 : Nat → Nat → Int32 → Int64 → Int32 → gb_H → Option (Unit × gb_H)} (hk32 : ∀ v0 v1 v2 v4 v6 h r, k32 v0 v1 v2 v4 v6 h = some r → gb_Ev X 4 mX11_does 32 [some (.ref v0), some (.ref v1), some (.int v2), none, some (.long v4), none, some (.int v6), none, none, none] [] h (gb_wV r)) (n : Nat) (v0 : Nat) (v1 : Nat) (v2 : Int32) (v4 : Int64) (v6 : Int32) (v7 : Int32) (v8 : Int32) (h : gb_H) (r : Unit × gb_H) (hF : lpX11_does_82 k32 n v0 v1 v2 v4 v6 v7 v8 h = some r) : gb_Ev X 4 mX11_does 82 [some (.ref v0), some (.ref v1), some (.int v2), none, some (.long v4), none, some (.int v6), some (.int v7), some (.int v8), none] [] h (gb_wV r) := by
  exact gb_lpE (σ := Nat × Nat × Int32 × Int64 × Int32 × Int32 × Int32 × gb_H) (P := fun s r => gb_Ev X 4 mX11_does 82 [some (.ref s.1), some (.ref s.2.1), some (.int s.2.2.1), none, some (.long s.2.2.2.1), none, some (.int s.2.2.2.2.1), some (.int s.2.2.2.2.2.1), some (.int s.2.2.2.2.2.2.1), none] [] s.2.2.2.2.2.2.2 (gb_wV r)) (fun k hk s r hs => fbX11_does_82_ok hk32 (fun v0 v1 v2 v4 v6 v7 v8 h r e => hk (v0, v1, v2, v4, v6, v7, v8, h) r e) _ _ _ _ _ _ _ _ r hs) n (v0, v1, v2, v4, v6, v7, v8, h) r hF
def fbX11_does_77 (k32 : Nat → Nat → Int32 → Int64 → Int32 → gb_H → Option (Unit × gb_H)) (v0 : Nat) (v1 : Nat) (v2 : Int32) (v4 : Int64) (v6 : Int32) (s0 : Int32) (h : gb_H) : Option (Unit × gb_H) :=
  lpX11_does_82 k32 gb_FU v0 v1 v2 v4 v6 s0 (0 : Int32) h
theorem fbX11_does_77_ok {X : gb_X} {k32 : Nat → Nat → Int32 → Int64 → Int32 → gb_H → Option (Unit × gb_H)} (hk32 : ∀ v0 v1 v2 v4 v6 h r, k32 v0 v1 v2 v4 v6 h = some r → gb_Ev X 4 mX11_does 32 [some (.ref v0), some (.ref v1), some (.int v2), none, some (.long v4), none, some (.int v6), none, none, none] [] h (gb_wV r)) (v0 : Nat) (v1 : Nat) (v2 : Int32) (v4 : Int64) (v6 : Int32) (s0 : Int32) (h : gb_H) (r : Unit × gb_H) (hF : fbX11_does_77 k32 v0 v1 v2 v4 v6 s0 h = some r) : gb_Ev X 4 mX11_does 77 [some (.ref v0), some (.ref v1), some (.int v2), none, some (.long v4), none, some (.int v6), none, none, none] [.int s0] h (gb_wV r) := by
  unfold fbX11_does_77 at hF
  refine gb_istore (L' := [some (.ref v0), some (.ref v1), some (.int v2), none, some (.long v4), none, some (.int v6), some (.int s0), none, none]) dX11_does_77 (by decide) rfl rfl ?_
  refine gb_iconst (v := (0 : Int32)) dX11_does_79 (by decide) ?_
  refine gb_istore (L' := [some (.ref v0), some (.ref v1), some (.int v2), none, some (.long v4), none, some (.int v6), some (.int s0), some (.int (0 : Int32)), none]) dX11_does_80 (by decide) rfl rfl ?_
  exact gb_wk (lpX11_does_82_ok hk32 gb_FU v0 v1 v2 v4 v6 s0 (0 : Int32) h r hF) (And.intro rfl (And.intro rfl (And.intro rfl (And.intro rfl (And.intro rfl (And.intro rfl (And.intro rfl trivial)))))))
def fbX11_does_72 (k32 : Nat → Nat → Int32 → Int64 → Int32 → gb_H → Option (Unit × gb_H)) (v0 : Nat) (v1 : Nat) (v2 : Int32) (v4 : Int64) (v6 : Int32) (h : gb_H) : Option (Unit × gb_H) :=
  fbX11_does_77 k32 v0 v1 v2 v4 v6 (1 : Int32) h
theorem fbX11_does_72_ok {X : gb_X} {k32 : Nat → Nat → Int32 → Int64 → Int32 → gb_H → Option (Unit × gb_H)} (hk32 : ∀ v0 v1 v2 v4 v6 h r, k32 v0 v1 v2 v4 v6 h = some r → gb_Ev X 4 mX11_does 32 [some (.ref v0), some (.ref v1), some (.int v2), none, some (.long v4), none, some (.int v6), none, none, none] [] h (gb_wV r)) (v0 : Nat) (v1 : Nat) (v2 : Int32) (v4 : Int64) (v6 : Int32) (h : gb_H) (r : Unit × gb_H) (hF : fbX11_does_72 k32 v0 v1 v2 v4 v6 h = some r) : gb_Ev X 4 mX11_does 72 [some (.ref v0), some (.ref v1), some (.int v2), none, some (.long v4), none, some (.int v6), none, none, none] [] h (gb_wV r) := by
  unfold fbX11_does_72 at hF
  refine gb_iconst (v := (1 : Int32)) dX11_does_72 (by decide) ?_
  refine gb_goto (tgt := 77) dX11_does_73 (by decide) ?_
  exact gb_wk (fbX11_does_77_ok hk32 v0 v1 v2 v4 v6 (1 : Int32) h r hF) (And.intro rfl (And.intro rfl (And.intro rfl (And.intro rfl (And.intro rfl trivial)))))
def fbX11_does_350 (k157 : Nat → Nat → Int32 → Int32 → gb_H → Option (Unit × gb_H)) (k205 : Nat → Nat → Int32 → Int32 → Int32 → Int32 → gb_H → Option (Unit × gb_H)) (v0 : Nat) (v1 : Nat) (v2 : Int32) (v6 : Int32) (v7 : Int32) (v8 : Int32) (h : gb_H) : Option (Unit × gb_H) :=
  gb_lt (v8 + (1 : Int32)) fun x1 =>
  k205 v0 v1 v2 v6 v7 x1 h
theorem fbX11_does_350_ok {X : gb_X} {k157 : Nat → Nat → Int32 → Int32 → gb_H → Option (Unit × gb_H)} {k205 : Nat → Nat → Int32 → Int32 → Int32 → Int32 → gb_H → Option (Unit × gb_H)} (hk157 : ∀ v0 v1 v2 v6 h r, k157 v0 v1 v2 v6 h = some r → gb_Ev X 4 mX11_does 157 [some (.ref v0), some (.ref v1), some (.int v2), none, none, none, some (.int v6), none, none, none] [] h (gb_wV r)) (hk205 : ∀ v0 v1 v2 v6 v7 v8 h r, k205 v0 v1 v2 v6 v7 v8 h = some r → gb_Ev X 4 mX11_does 205 [some (.ref v0), some (.ref v1), some (.int v2), none, none, none, some (.int v6), some (.int v7), some (.int v8), none] [] h (gb_wV r)) (v0 : Nat) (v1 : Nat) (v2 : Int32) (v6 : Int32) (v7 : Int32) (v8 : Int32) (h : gb_H) (r : Unit × gb_H) (hF : fbX11_does_350 k157 k205 v0 v1 v2 v6 v7 v8 h = some r) : gb_Ev X 4 mX11_does 350 [some (.ref v0), some (.ref v1), some (.int v2), none, none, none, some (.int v6), some (.int v7), some (.int v8), none] [] h (gb_wV r) := by
  unfold fbX11_does_350 at hF
  obtain ⟨x1, ex1, hF⟩ := gb_ltE hF
  refine gb_iinc (v := x1) (L' := [some (.ref v0), some (.ref v1), some (.int v2), none, none, none, some (.int v6), some (.int v7), some (.int x1), none]) dX11_does_350 rfl (by rw [ex1]; rfl) (by decide) rfl rfl ?_
  refine gb_goto (tgt := 205) dX11_does_353 (by decide) ?_
  exact gb_wk (hk205 v0 v1 v2 v6 v7 x1 h r hF) (And.intro rfl (And.intro rfl (And.intro rfl (And.intro rfl (And.intro rfl (And.intro rfl trivial))))))
def fbX11_does_279 (k157 : Nat → Nat → Int32 → Int32 → gb_H → Option (Unit × gb_H)) (k205 : Nat → Nat → Int32 → Int32 → Int32 → Int32 → gb_H → Option (Unit × gb_H)) (v0 : Nat) (v1 : Nat) (v2 : Int32) (v6 : Int32) (v7 : Int32) (v8 : Int32) (h : gb_H) : Option (Unit × gb_H) :=
  gb_gd (gb_k h v0 11) <|
  gb_bd (fnX11_modeAt v0 v8 v6 h) fun x2 h3 =>
  gb_gd (gb_k h3 v0 11) <|
  gb_bd (fnX11_acts v0 v1 v2 x2 h3) fun _ h6 =>
  gb_gd (gb_k h6 v0 11) <|
  gb_rd (gb_R h6 v0 22) fun a8 =>
  gb_gd (gb_k h6 v0 11) <|
  gb_rd (gb_R h6 v0 20) fun a10 =>
  gb_gd (gb_k h6 v0 11) <|
  gb_rd (gb_R h6 v0 26) fun a12 =>
  gb_bd (fnX11_adds a8 v8 a10 ((4 : Int32) * v8) a12 h6) fun _ h14 =>
  gb_gd (gb_k h14 v0 11) <|
  gb_rd (gb_R h14 v0 22) fun a16 =>
  gb_gd (gb_k h14 v0 11) <|
  gb_gd (gb_k h14 v0 11) <|
  gb_rd (gb_R h14 v0 20) fun a19 =>
  gb_gd (gb_k h14 v0 11) <|
  gb_rd (gb_R h14 v0 27) fun a21 =>
  gb_bd (fnX11_adds a16 (v8 + (((gb_I h14 v0 25) - x2) * v7)) a19 ((4 : Int32) * v8) a21 h14) fun _ h23 =>
  fbX11_does_350 k157 k205 v0 v1 v2 v6 v7 v8 h23
theorem fbX11_does_279_ok {X : gb_X} {k157 : Nat → Nat → Int32 → Int32 → gb_H → Option (Unit × gb_H)} {k205 : Nat → Nat → Int32 → Int32 → Int32 → Int32 → gb_H → Option (Unit × gb_H)} (hk157 : ∀ v0 v1 v2 v6 h r, k157 v0 v1 v2 v6 h = some r → gb_Ev X 4 mX11_does 157 [some (.ref v0), some (.ref v1), some (.int v2), none, none, none, some (.int v6), none, none, none] [] h (gb_wV r)) (hk205 : ∀ v0 v1 v2 v6 v7 v8 h r, k205 v0 v1 v2 v6 v7 v8 h = some r → gb_Ev X 4 mX11_does 205 [some (.ref v0), some (.ref v1), some (.int v2), none, none, none, some (.int v6), some (.int v7), some (.int v8), none] [] h (gb_wV r)) (v0 : Nat) (v1 : Nat) (v2 : Int32) (v6 : Int32) (v7 : Int32) (v8 : Int32) (h : gb_H) (r : Unit × gb_H) (hF : fbX11_does_279 k157 k205 v0 v1 v2 v6 v7 v8 h = some r) : gb_Ev X 4 mX11_does 279 [some (.ref v0), some (.ref v1), some (.int v2), none, none, none, some (.int v6), some (.int v7), some (.int v8), none] [] h (gb_wV r) := by
  unfold fbX11_does_279 at hF
  refine gb_aload_n dX11_does_279 rfl rfl ?_
  refine gb_iload dX11_does_280 rfl ?_
  refine gb_iload dX11_does_282 rfl ?_
  obtain ⟨g1, hF⟩ := gb_gdE hF
  obtain ⟨x2, h3, cx2, hF⟩ := gb_bdE hF
  refine gb_cV (As := [.int v8, .int v6]) (S := []) (v := some (.int x2)) (h1 := h3) (S2 := [.int x2]) cf11 dX11_does_284 mtX11_modeAt lX11_249 inX11_modeAt seX11_modeAt (gb_kE g1) (fnX11_modeAt_ok _ _ cx2) (by decide) rfl (Nat.le_of_ble_eq_true rfl) (Nat.le_of_ble_eq_true rfl) rfl rfl ?_
  refine gb_istore (L' := [some (.ref v0), some (.ref v1), some (.int v2), none, none, none, some (.int v6), some (.int v7), some (.int v8), some (.int x2)]) dX11_does_287 (by decide) rfl rfl ?_
  refine gb_aload_n dX11_does_289 rfl rfl ?_
  refine gb_aload_n dX11_does_290 rfl rfl ?_
  refine gb_iload_n dX11_does_291 rfl rfl ?_
  refine gb_iload dX11_does_292 rfl ?_
  obtain ⟨g4, hF⟩ := gb_gdE hF
  obtain ⟨x5, h6, cx5, hF⟩ := gb_bdE hF
  refine gb_cV (As := [.ref v1, .int v2, .int x2]) (S := []) (v := none) (h1 := h6) (S2 := []) cf11 dX11_does_294 mtX11_acts lX11_262 inX11_acts seX11_acts (gb_kE g4) (fnX11_acts_ok _ _ cx5) (by decide) rfl (Nat.le_of_ble_eq_true rfl) (Nat.le_of_ble_eq_true rfl) rfl rfl ?_
  refine gb_aload_n dX11_does_297 rfl rfl ?_
  obtain ⟨g7, hF⟩ := gb_gdE hF
  obtain ⟨a8, ea8, hF⟩ := gb_rdE hF
  refine gb_getR fX11_50 dX11_does_298 (gb_kE g7) ea8 ?_
  refine gb_iload dX11_does_301 rfl ?_
  refine gb_aload_n dX11_does_303 rfl rfl ?_
  obtain ⟨g9, hF⟩ := gb_gdE hF
  obtain ⟨a10, ea10, hF⟩ := gb_rdE hF
  refine gb_getR fX11_43 dX11_does_304 (gb_kE g9) ea10 ?_
  refine gb_iconst (v := (4 : Int32)) dX11_does_307 (by decide) ?_
  refine gb_iload dX11_does_308 rfl ?_
  refine gb_imul dX11_does_310 ?_
  refine gb_aload_n dX11_does_311 rfl rfl ?_
  obtain ⟨g11, hF⟩ := gb_gdE hF
  obtain ⟨a12, ea12, hF⟩ := gb_rdE hF
  refine gb_getR fX11_53 dX11_does_312 (gb_kE g11) ea12 ?_
  obtain ⟨x13, h14, cx13, hF⟩ := gb_bdE hF
  refine gb_cS (As := [.ref a8, .int v8, .ref a10, .int ((4 : Int32) * v8), .ref a12]) (S := []) (v := none) (h1 := h14) (S2 := []) dX11_does_315 mtX11_adds lX11_266 stX11_adds (fnX11_adds_ok _ _ cx13) (by decide) rfl (Nat.le_of_ble_eq_true rfl) (Nat.le_of_ble_eq_true rfl) rfl rfl ?_
  refine gb_aload_n dX11_does_318 rfl rfl ?_
  obtain ⟨g15, hF⟩ := gb_gdE hF
  obtain ⟨a16, ea16, hF⟩ := gb_rdE hF
  refine gb_getR fX11_50 dX11_does_319 (gb_kE g15) ea16 ?_
  refine gb_iload dX11_does_322 rfl ?_
  refine gb_aload_n dX11_does_324 rfl rfl ?_
  obtain ⟨g17, hF⟩ := gb_gdE hF
  refine gb_getI fX11_238 dX11_does_325 (gb_kE g17) ?_
  refine gb_iload dX11_does_328 rfl ?_
  refine gb_isub dX11_does_330 ?_
  refine gb_iload dX11_does_331 rfl ?_
  refine gb_imul dX11_does_333 ?_
  refine gb_iadd dX11_does_334 ?_
  refine gb_aload_n dX11_does_335 rfl rfl ?_
  obtain ⟨g18, hF⟩ := gb_gdE hF
  obtain ⟨a19, ea19, hF⟩ := gb_rdE hF
  refine gb_getR fX11_43 dX11_does_336 (gb_kE g18) ea19 ?_
  refine gb_iconst (v := (4 : Int32)) dX11_does_339 (by decide) ?_
  refine gb_iload dX11_does_340 rfl ?_
  refine gb_imul dX11_does_342 ?_
  refine gb_aload_n dX11_does_343 rfl rfl ?_
  obtain ⟨g20, hF⟩ := gb_gdE hF
  obtain ⟨a21, ea21, hF⟩ := gb_rdE hF
  refine gb_getR fX11_56 dX11_does_344 (gb_kE g20) ea21 ?_
  obtain ⟨x22, h23, cx22, hF⟩ := gb_bdE hF
  refine gb_cS (As := [.ref a16, .int (v8 + (((gb_I h14 v0 25) - x2) * v7)), .ref a19, .int ((4 : Int32) * v8), .ref a21]) (S := []) (v := none) (h1 := h23) (S2 := []) dX11_does_347 mtX11_adds lX11_266 stX11_adds (fnX11_adds_ok _ _ cx22) (by decide) rfl (Nat.le_of_ble_eq_true rfl) (Nat.le_of_ble_eq_true rfl) rfl rfl ?_
  exact gb_wk (fbX11_does_350_ok hk157 hk205 v0 v1 v2 v6 v7 v8 h23 r hF) (And.intro rfl (And.intro rfl (And.intro rfl (And.intro rfl (And.intro rfl (And.intro rfl trivial))))))
def fbX11_does_359 (k157 : Nat → Nat → Int32 → Int32 → gb_H → Option (Unit × gb_H)) (k359 : Nat → Nat → Int32 → Int32 → Int32 → gb_H → Option (Unit × gb_H)) (v0 : Nat) (v1 : Nat) (v2 : Int32) (v6 : Int32) (v8 : Int32) (h : gb_H) : Option (Unit × gb_H) :=
  gb_gd (gb_k h v0 11) <|
  if ((4 : Int32) * (gb_I h v0 24)) ≤ v8 then
    gb_lt (v6 + (1 : Int32)) fun x3 =>
    k157 v0 v1 v2 x3 h
  else
    gb_gd (gb_k h v0 11) <|
    gb_rd (gb_R h v0 20) fun a5 =>
    gb_gd (gb_k h v0 11) <|
    gb_rd (gb_R h v0 22) fun a7 =>
    gb_gd (gb_k h a7 23) <|
    gb_gd (gb_in h a7 v8) <|
    gb_gd (gb_k h a5 23) <|
    gb_gd (gb_in h a5 v8) <|
    gb_lt (gb_sL h a5 v8.toNatClampNeg (gb_L h a7 v8.toNatClampNeg)) fun h12 =>
    gb_lt (v8 + (1 : Int32)) fun x13 =>
    k359 v0 v1 v2 v6 x13 h12
theorem fbX11_does_359_ok {X : gb_X} {k157 : Nat → Nat → Int32 → Int32 → gb_H → Option (Unit × gb_H)} {k359 : Nat → Nat → Int32 → Int32 → Int32 → gb_H → Option (Unit × gb_H)} (hk157 : ∀ v0 v1 v2 v6 h r, k157 v0 v1 v2 v6 h = some r → gb_Ev X 4 mX11_does 157 [some (.ref v0), some (.ref v1), some (.int v2), none, none, none, some (.int v6), none, none, none] [] h (gb_wV r)) (hk359 : ∀ v0 v1 v2 v6 v8 h r, k359 v0 v1 v2 v6 v8 h = some r → gb_Ev X 4 mX11_does 359 [some (.ref v0), some (.ref v1), some (.int v2), none, none, none, some (.int v6), none, some (.int v8), none] [] h (gb_wV r)) (v0 : Nat) (v1 : Nat) (v2 : Int32) (v6 : Int32) (v8 : Int32) (h : gb_H) (r : Unit × gb_H) (hF : fbX11_does_359 k157 k359 v0 v1 v2 v6 v8 h = some r) : gb_Ev X 4 mX11_does 359 [some (.ref v0), some (.ref v1), some (.int v2), none, none, none, some (.int v6), none, some (.int v8), none] [] h (gb_wV r) := by
  unfold fbX11_does_359 at hF
  refine gb_iload dX11_does_359 rfl ?_
  refine gb_iconst (v := (4 : Int32)) dX11_does_361 (by decide) ?_
  refine gb_aload_n dX11_does_362 rfl rfl ?_
  obtain ⟨g1, hF⟩ := gb_gdE hF
  refine gb_getI fX11_253 dX11_does_363 (gb_kE g1) ?_
  refine gb_imul dX11_does_366 ?_
  refine gb_icmp_ge (tgt := 390) dX11_does_367 (by decide) (fun c2 => ?_) (fun c2 => ?_)
  · replace hF := gb_ifT c2 hF
    obtain ⟨x3, ex3, hF⟩ := gb_ltE hF
    refine gb_iinc (v := x3) (L' := [some (.ref v0), some (.ref v1), some (.int v2), none, none, none, some (.int x3), none, some (.int v8), none]) dX11_does_390 rfl (by rw [ex3]; rfl) (by decide) rfl rfl ?_
    refine gb_goto (tgt := 157) dX11_does_393 (by decide) ?_
    exact gb_wk (hk157 v0 v1 v2 x3 h r hF) (And.intro rfl (And.intro rfl (And.intro rfl (And.intro rfl trivial))))
  · replace hF := gb_ifF c2 hF
    refine gb_aload_n dX11_does_370 rfl rfl ?_
    obtain ⟨g4, hF⟩ := gb_gdE hF
    obtain ⟨a5, ea5, hF⟩ := gb_rdE hF
    refine gb_getR fX11_43 dX11_does_371 (gb_kE g4) ea5 ?_
    refine gb_iload dX11_does_374 rfl ?_
    refine gb_aload_n dX11_does_376 rfl rfl ?_
    obtain ⟨g6, hF⟩ := gb_gdE hF
    obtain ⟨a7, ea7, hF⟩ := gb_rdE hF
    refine gb_getR fX11_50 dX11_does_377 (gb_kE g6) ea7 ?_
    refine gb_iload dX11_does_380 rfl ?_
    obtain ⟨g8, hF⟩ := gb_gdE hF
    obtain ⟨g9, hF⟩ := gb_gdE hF
    refine gb_lald dX11_does_382 (gb_kE g8) (gb_inE g9) ?_
    obtain ⟨g10, hF⟩ := gb_gdE hF
    obtain ⟨g11, hF⟩ := gb_gdE hF
    obtain ⟨h12, eh12, hF⟩ := gb_ltE hF
    refine gb_last dX11_does_383 (gb_kE g10) (gb_inE g11) (gb_hp eh12 ?_)
    obtain ⟨x13, ex13, hF⟩ := gb_ltE hF
    refine gb_iinc (v := x13) (L' := [some (.ref v0), some (.ref v1), some (.int v2), none, none, none, some (.int v6), none, some (.int x13), none]) dX11_does_384 rfl (by rw [ex13]; rfl) (by decide) rfl rfl ?_
    refine gb_goto (tgt := 359) dX11_does_387 (by decide) ?_
    exact gb_wk (hk359 v0 v1 v2 v6 x13 h12 r hF) (And.intro rfl (And.intro rfl (And.intro rfl (And.intro rfl (And.intro rfl trivial)))))
def lpX11_does_359 (k157 : Nat → Nat → Int32 → Int32 → gb_H → Option (Unit × gb_H)) (n : Nat) (v0 : Nat) (v1 : Nat) (v2 : Int32) (v6 : Int32) (v8 : Int32) (h : gb_H) : Option (Unit × gb_H) := gb_lp (σ := Nat × Nat × Int32 × Int32 × Int32 × gb_H) (fun k s => fbX11_does_359 k157 (fun v0 v1 v2 v6 v8 h => k (v0, v1, v2, v6, v8, h)) s.1 s.2.1 s.2.2.1 s.2.2.2.1 s.2.2.2.2.1 s.2.2.2.2.2) n (v0, v1, v2, v6, v8, h)
theorem lpX11_does_359_ok {X : gb_X}  {k157 : Nat → Nat → Int32 → Int32 → gb_H → Option (Unit × gb_H)} (hk157 : ∀ v0 v1 v2 v6 h r, k157 v0 v1 v2 v6 h = some r → gb_Ev X 4 mX11_does 157 [some (.ref v0), some (.ref v1), some (.int v2), none, none, none, some (.int v6), none, none, none] [] h (gb_wV r)) (n : Nat) (v0 : Nat) (v1 : Nat) (v2 : Int32) (v6 : Int32) (v8 : Int32) (h : gb_H) (r : Unit × gb_H) (hF : lpX11_does_359 k157 n v0 v1 v2 v6 v8 h = some r) : gb_Ev X 4 mX11_does 359 [some (.ref v0), some (.ref v1), some (.int v2), none, none, none, some (.int v6), none, some (.int v8), none] [] h (gb_wV r) := by
  exact gb_lpE (σ := Nat × Nat × Int32 × Int32 × Int32 × gb_H) (P := fun s r => gb_Ev X 4 mX11_does 359 [some (.ref s.1), some (.ref s.2.1), some (.int s.2.2.1), none, none, none, some (.int s.2.2.2.1), none, some (.int s.2.2.2.2.1), none] [] s.2.2.2.2.2 (gb_wV r)) (fun k hk s r hs => fbX11_does_359_ok hk157 (fun v0 v1 v2 v6 v8 h r e => hk (v0, v1, v2, v6, v8, h) r e) _ _ _ _ _ _ r hs) n (v0, v1, v2, v6, v8, h) r hF
def fbX11_does_205 (k157 : Nat → Nat → Int32 → Int32 → gb_H → Option (Unit × gb_H)) (k205 : Nat → Nat → Int32 → Int32 → Int32 → Int32 → gb_H → Option (Unit × gb_H)) (v0 : Nat) (v1 : Nat) (v2 : Int32) (v6 : Int32) (v7 : Int32) (v8 : Int32) (h : gb_H) : Option (Unit × gb_H) :=
  gb_gd (gb_k h v0 11) <|
  if (gb_I h v0 24) ≤ v8 then
    lpX11_does_359 k157 gb_FU v0 v1 v2 v6 (0 : Int32) h
  else
    gb_gd (gb_k h v0 11) <|
    gb_rd (gb_R h v0 20) fun a4 =>
    gb_lt ((4 : Int32) * v8) fun x5 =>
    gb_gd (gb_k h a4 23) <|
    gb_gd (gb_in h a4 x5) <|
    if (gb_L h a4 x5.toNatClampNeg) = (0 : Int64) then
      gb_gd (gb_k h v0 11) <|
      gb_rd (gb_R h v0 20) fun a10 =>
      gb_lt (((4 : Int32) * v8) + (1 : Int32)) fun x11 =>
      gb_gd (gb_k h a10 23) <|
      gb_gd (gb_in h a10 x11) <|
      if (gb_L h a10 x11.toNatClampNeg) = (0 : Int64) then
        gb_gd (gb_k h v0 11) <|
        gb_rd (gb_R h v0 20) fun a16 =>
        gb_lt (((4 : Int32) * v8) + (2 : Int32)) fun x17 =>
        gb_gd (gb_k h a16 23) <|
        gb_gd (gb_in h a16 x17) <|
        if (gb_L h a16 x17.toNatClampNeg) = (0 : Int64) then
          gb_gd (gb_k h v0 11) <|
          gb_rd (gb_R h v0 20) fun a22 =>
          gb_lt (((4 : Int32) * v8) + (3 : Int32)) fun x23 =>
          gb_gd (gb_k h a22 23) <|
          gb_gd (gb_in h a22 x23) <|
          if (gb_L h a22 x23.toNatClampNeg) = (0 : Int64) then
            fbX11_does_350 k157 k205 v0 v1 v2 v6 v7 v8 h
          else
            fbX11_does_279 k157 k205 v0 v1 v2 v6 v7 v8 h
        else
          fbX11_does_279 k157 k205 v0 v1 v2 v6 v7 v8 h
      else
        fbX11_does_279 k157 k205 v0 v1 v2 v6 v7 v8 h
    else
      fbX11_does_279 k157 k205 v0 v1 v2 v6 v7 v8 h
theorem fbX11_does_205_ok {X : gb_X} {k157 : Nat → Nat → Int32 → Int32 → gb_H → Option (Unit × gb_H)} {k205 : Nat → Nat → Int32 → Int32 → Int32 → Int32 → gb_H → Option (Unit × gb_H)} (hk157 : ∀ v0 v1 v2 v6 h r, k157 v0 v1 v2 v6 h = some r → gb_Ev X 4 mX11_does 157 [some (.ref v0), some (.ref v1), some (.int v2), none, none, none, some (.int v6), none, none, none] [] h (gb_wV r)) (hk205 : ∀ v0 v1 v2 v6 v7 v8 h r, k205 v0 v1 v2 v6 v7 v8 h = some r → gb_Ev X 4 mX11_does 205 [some (.ref v0), some (.ref v1), some (.int v2), none, none, none, some (.int v6), some (.int v7), some (.int v8), none] [] h (gb_wV r)) (v0 : Nat) (v1 : Nat) (v2 : Int32) (v6 : Int32) (v7 : Int32) (v8 : Int32) (h : gb_H) (r : Unit × gb_H) (hF : fbX11_does_205 k157 k205 v0 v1 v2 v6 v7 v8 h = some r) : gb_Ev X 4 mX11_does 205 [some (.ref v0), some (.ref v1), some (.int v2), none, none, none, some (.int v6), some (.int v7), some (.int v8), none] [] h (gb_wV r) := by
  unfold fbX11_does_205 at hF
  refine gb_iload dX11_does_205 rfl ?_
  refine gb_aload_n dX11_does_207 rfl rfl ?_
  obtain ⟨g1, hF⟩ := gb_gdE hF
  refine gb_getI fX11_253 dX11_does_208 (gb_kE g1) ?_
  refine gb_icmp_ge (tgt := 356) dX11_does_211 (by decide) (fun c2 => ?_) (fun c2 => ?_)
  · replace hF := gb_ifT c2 hF
    refine gb_iconst (v := (0 : Int32)) dX11_does_356 (by decide) ?_
    refine gb_istore (L' := [some (.ref v0), some (.ref v1), some (.int v2), none, none, none, some (.int v6), some (.int v7), some (.int (0 : Int32)), none]) dX11_does_357 (by decide) rfl rfl ?_
    exact gb_wk (lpX11_does_359_ok hk157 gb_FU v0 v1 v2 v6 (0 : Int32) h r hF) (And.intro rfl (And.intro rfl (And.intro rfl (And.intro rfl (And.intro rfl trivial)))))
  · replace hF := gb_ifF c2 hF
    refine gb_aload_n dX11_does_214 rfl rfl ?_
    obtain ⟨g3, hF⟩ := gb_gdE hF
    obtain ⟨a4, ea4, hF⟩ := gb_rdE hF
    refine gb_getR fX11_43 dX11_does_215 (gb_kE g3) ea4 ?_
    refine gb_iconst (v := (4 : Int32)) dX11_does_218 (by decide) ?_
    refine gb_iload dX11_does_219 rfl ?_
    refine gb_imul dX11_does_221 ?_
    obtain ⟨x5, ex5, hF⟩ := gb_ltE hF
    refine gb_topI ex5 ?_
    obtain ⟨g6, hF⟩ := gb_gdE hF
    obtain ⟨g7, hF⟩ := gb_gdE hF
    refine gb_lald dX11_does_222 (gb_kE g6) (gb_inE g7) ?_
    refine gb_lconst (v := (0 : Int64)) dX11_does_223 (by decide) ?_
    refine gb_lc_ne (tgt := 279) dX11_does_224 dX11_does_225 (by decide) (fun c8 => ?_) (fun c8 => ?_)
    · replace hF := gb_ifF c8 hF
      exact gb_wk (fbX11_does_279_ok hk157 hk205 v0 v1 v2 v6 v7 v8 h r hF) (And.intro rfl (And.intro rfl (And.intro rfl (And.intro rfl (And.intro rfl (And.intro rfl trivial))))))
    · replace hF := gb_ifT c8 hF
      refine gb_aload_n dX11_does_228 rfl rfl ?_
      obtain ⟨g9, hF⟩ := gb_gdE hF
      obtain ⟨a10, ea10, hF⟩ := gb_rdE hF
      refine gb_getR fX11_43 dX11_does_229 (gb_kE g9) ea10 ?_
      refine gb_iconst (v := (4 : Int32)) dX11_does_232 (by decide) ?_
      refine gb_iload dX11_does_233 rfl ?_
      refine gb_imul dX11_does_235 ?_
      refine gb_iconst (v := (1 : Int32)) dX11_does_236 (by decide) ?_
      refine gb_iadd dX11_does_237 ?_
      obtain ⟨x11, ex11, hF⟩ := gb_ltE hF
      refine gb_topI ex11 ?_
      obtain ⟨g12, hF⟩ := gb_gdE hF
      obtain ⟨g13, hF⟩ := gb_gdE hF
      refine gb_lald dX11_does_238 (gb_kE g12) (gb_inE g13) ?_
      refine gb_lconst (v := (0 : Int64)) dX11_does_239 (by decide) ?_
      refine gb_lc_ne (tgt := 279) dX11_does_240 dX11_does_241 (by decide) (fun c14 => ?_) (fun c14 => ?_)
      · replace hF := gb_ifF c14 hF
        exact gb_wk (fbX11_does_279_ok hk157 hk205 v0 v1 v2 v6 v7 v8 h r hF) (And.intro rfl (And.intro rfl (And.intro rfl (And.intro rfl (And.intro rfl (And.intro rfl trivial))))))
      · replace hF := gb_ifT c14 hF
        refine gb_aload_n dX11_does_244 rfl rfl ?_
        obtain ⟨g15, hF⟩ := gb_gdE hF
        obtain ⟨a16, ea16, hF⟩ := gb_rdE hF
        refine gb_getR fX11_43 dX11_does_245 (gb_kE g15) ea16 ?_
        refine gb_iconst (v := (4 : Int32)) dX11_does_248 (by decide) ?_
        refine gb_iload dX11_does_249 rfl ?_
        refine gb_imul dX11_does_251 ?_
        refine gb_iconst (v := (2 : Int32)) dX11_does_252 (by decide) ?_
        refine gb_iadd dX11_does_253 ?_
        obtain ⟨x17, ex17, hF⟩ := gb_ltE hF
        refine gb_topI ex17 ?_
        obtain ⟨g18, hF⟩ := gb_gdE hF
        obtain ⟨g19, hF⟩ := gb_gdE hF
        refine gb_lald dX11_does_254 (gb_kE g18) (gb_inE g19) ?_
        refine gb_lconst (v := (0 : Int64)) dX11_does_255 (by decide) ?_
        refine gb_lc_ne (tgt := 279) dX11_does_256 dX11_does_257 (by decide) (fun c20 => ?_) (fun c20 => ?_)
        · replace hF := gb_ifF c20 hF
          exact gb_wk (fbX11_does_279_ok hk157 hk205 v0 v1 v2 v6 v7 v8 h r hF) (And.intro rfl (And.intro rfl (And.intro rfl (And.intro rfl (And.intro rfl (And.intro rfl trivial))))))
        · replace hF := gb_ifT c20 hF
          refine gb_aload_n dX11_does_260 rfl rfl ?_
          obtain ⟨g21, hF⟩ := gb_gdE hF
          obtain ⟨a22, ea22, hF⟩ := gb_rdE hF
          refine gb_getR fX11_43 dX11_does_261 (gb_kE g21) ea22 ?_
          refine gb_iconst (v := (4 : Int32)) dX11_does_264 (by decide) ?_
          refine gb_iload dX11_does_265 rfl ?_
          refine gb_imul dX11_does_267 ?_
          refine gb_iconst (v := (3 : Int32)) dX11_does_268 (by decide) ?_
          refine gb_iadd dX11_does_269 ?_
          obtain ⟨x23, ex23, hF⟩ := gb_ltE hF
          refine gb_topI ex23 ?_
          obtain ⟨g24, hF⟩ := gb_gdE hF
          obtain ⟨g25, hF⟩ := gb_gdE hF
          refine gb_lald dX11_does_270 (gb_kE g24) (gb_inE g25) ?_
          refine gb_lconst (v := (0 : Int64)) dX11_does_271 (by decide) ?_
          refine gb_lc_ne (tgt := 279) dX11_does_272 dX11_does_273 (by decide) (fun c26 => ?_) (fun c26 => ?_)
          · replace hF := gb_ifF c26 hF
            exact gb_wk (fbX11_does_279_ok hk157 hk205 v0 v1 v2 v6 v7 v8 h r hF) (And.intro rfl (And.intro rfl (And.intro rfl (And.intro rfl (And.intro rfl (And.intro rfl trivial))))))
          · replace hF := gb_ifT c26 hF
            refine gb_goto (tgt := 350) dX11_does_276 (by decide) ?_
            exact gb_wk (fbX11_does_350_ok hk157 hk205 v0 v1 v2 v6 v7 v8 h r hF) (And.intro rfl (And.intro rfl (And.intro rfl (And.intro rfl (And.intro rfl (And.intro rfl trivial))))))
def lpX11_does_205 (k157 : Nat → Nat → Int32 → Int32 → gb_H → Option (Unit × gb_H)) (n : Nat) (v0 : Nat) (v1 : Nat) (v2 : Int32) (v6 : Int32) (v7 : Int32) (v8 : Int32) (h : gb_H) : Option (Unit × gb_H) := gb_lp (σ := Nat × Nat × Int32 × Int32 × Int32 × Int32 × gb_H) (fun k s => fbX11_does_205 k157 (fun v0 v1 v2 v6 v7 v8 h => k (v0, v1, v2, v6, v7, v8, h)) s.1 s.2.1 s.2.2.1 s.2.2.2.1 s.2.2.2.2.1 s.2.2.2.2.2.1 s.2.2.2.2.2.2) n (v0, v1, v2, v6, v7, v8, h)
theorem lpX11_does_205_ok {X : gb_X}  {k157 : Nat → Nat → Int32 → Int32 → gb_H → Option (Unit × gb_H)} (hk157 : ∀ v0 v1 v2 v6 h r, k157 v0 v1 v2 v6 h = some r → gb_Ev X 4 mX11_does 157 [some (.ref v0), some (.ref v1), some (.int v2), none, none, none, some (.int v6), none, none, none] [] h (gb_wV r)) (n : Nat) (v0 : Nat) (v1 : Nat) (v2 : Int32) (v6 : Int32) (v7 : Int32) (v8 : Int32) (h : gb_H) (r : Unit × gb_H) (hF : lpX11_does_205 k157 n v0 v1 v2 v6 v7 v8 h = some r) : gb_Ev X 4 mX11_does 205 [some (.ref v0), some (.ref v1), some (.int v2), none, none, none, some (.int v6), some (.int v7), some (.int v8), none] [] h (gb_wV r) := by
  exact gb_lpE (σ := Nat × Nat × Int32 × Int32 × Int32 × Int32 × gb_H) (P := fun s r => gb_Ev X 4 mX11_does 205 [some (.ref s.1), some (.ref s.2.1), some (.int s.2.2.1), none, none, none, some (.int s.2.2.2.1), some (.int s.2.2.2.2.1), some (.int s.2.2.2.2.2.1), none] [] s.2.2.2.2.2.2 (gb_wV r)) (fun k hk s r hs => fbX11_does_205_ok hk157 (fun v0 v1 v2 v6 v7 v8 h r e => hk (v0, v1, v2, v6, v7, v8, h) r e) _ _ _ _ _ _ _ r hs) n (v0, v1, v2, v6, v7, v8, h) r hF
def fbX11_does_169 (k157 : Nat → Nat → Int32 → Int32 → gb_H → Option (Unit × gb_H)) (k169 : Nat → Nat → Int32 → Int32 → Int32 → gb_H → Option (Unit × gb_H)) (v0 : Nat) (v1 : Nat) (v2 : Int32) (v6 : Int32) (v7 : Int32) (h : gb_H) : Option (Unit × gb_H) :=
  gb_gd (gb_k h v0 11) <|
  if ((4 : Int32) * (gb_I h v0 24)) ≤ v7 then
    gb_gd (gb_k h v0 11) <|
    gb_bd (fnX11_placeAt v0 v6 h) fun x4 h5 =>
    lpX11_does_205 k157 gb_FU v0 v1 v2 v6 x4 (0 : Int32) h5
  else
    gb_gd (gb_k h v0 11) <|
    gb_rd (gb_R h v0 22) fun a7 =>
    gb_gd (gb_k h a7 23) <|
    gb_gd (gb_in h a7 v7) <|
    gb_lt (gb_sL h a7 v7.toNatClampNeg (0 : Int64)) fun h10 =>
    gb_lt (v7 + (1 : Int32)) fun x11 =>
    k169 v0 v1 v2 v6 x11 h10
theorem fbX11_does_169_ok {X : gb_X} {k157 : Nat → Nat → Int32 → Int32 → gb_H → Option (Unit × gb_H)} {k169 : Nat → Nat → Int32 → Int32 → Int32 → gb_H → Option (Unit × gb_H)} (hk157 : ∀ v0 v1 v2 v6 h r, k157 v0 v1 v2 v6 h = some r → gb_Ev X 4 mX11_does 157 [some (.ref v0), some (.ref v1), some (.int v2), none, none, none, some (.int v6), none, none, none] [] h (gb_wV r)) (hk169 : ∀ v0 v1 v2 v6 v7 h r, k169 v0 v1 v2 v6 v7 h = some r → gb_Ev X 4 mX11_does 169 [some (.ref v0), some (.ref v1), some (.int v2), none, none, none, some (.int v6), some (.int v7), none, none] [] h (gb_wV r)) (v0 : Nat) (v1 : Nat) (v2 : Int32) (v6 : Int32) (v7 : Int32) (h : gb_H) (r : Unit × gb_H) (hF : fbX11_does_169 k157 k169 v0 v1 v2 v6 v7 h = some r) : gb_Ev X 4 mX11_does 169 [some (.ref v0), some (.ref v1), some (.int v2), none, none, none, some (.int v6), some (.int v7), none, none] [] h (gb_wV r) := by
  unfold fbX11_does_169 at hF
  refine gb_iload dX11_does_169 rfl ?_
  refine gb_iconst (v := (4 : Int32)) dX11_does_171 (by decide) ?_
  refine gb_aload_n dX11_does_172 rfl rfl ?_
  obtain ⟨g1, hF⟩ := gb_gdE hF
  refine gb_getI fX11_253 dX11_does_173 (gb_kE g1) ?_
  refine gb_imul dX11_does_176 ?_
  refine gb_icmp_ge (tgt := 194) dX11_does_177 (by decide) (fun c2 => ?_) (fun c2 => ?_)
  · replace hF := gb_ifT c2 hF
    refine gb_aload_n dX11_does_194 rfl rfl ?_
    refine gb_iload dX11_does_195 rfl ?_
    obtain ⟨g3, hF⟩ := gb_gdE hF
    obtain ⟨x4, h5, cx4, hF⟩ := gb_bdE hF
    refine gb_cV (As := [.int v6]) (S := []) (v := some (.int x4)) (h1 := h5) (S2 := [.int x4]) cf11 dX11_does_197 mtX11_placeAt lX11_259 inX11_placeAt seX11_placeAt (gb_kE g3) (fnX11_placeAt_ok _ _ cx4) (by decide) rfl (Nat.le_of_ble_eq_true rfl) (Nat.le_of_ble_eq_true rfl) rfl rfl ?_
    refine gb_istore (L' := [some (.ref v0), some (.ref v1), some (.int v2), none, none, none, some (.int v6), some (.int x4), none, none]) dX11_does_200 (by decide) rfl rfl ?_
    refine gb_iconst (v := (0 : Int32)) dX11_does_202 (by decide) ?_
    refine gb_istore (L' := [some (.ref v0), some (.ref v1), some (.int v2), none, none, none, some (.int v6), some (.int x4), some (.int (0 : Int32)), none]) dX11_does_203 (by decide) rfl rfl ?_
    exact gb_wk (lpX11_does_205_ok hk157 gb_FU v0 v1 v2 v6 x4 (0 : Int32) h5 r hF) (And.intro rfl (And.intro rfl (And.intro rfl (And.intro rfl (And.intro rfl (And.intro rfl trivial))))))
  · replace hF := gb_ifF c2 hF
    refine gb_aload_n dX11_does_180 rfl rfl ?_
    obtain ⟨g6, hF⟩ := gb_gdE hF
    obtain ⟨a7, ea7, hF⟩ := gb_rdE hF
    refine gb_getR fX11_50 dX11_does_181 (gb_kE g6) ea7 ?_
    refine gb_iload dX11_does_184 rfl ?_
    refine gb_lconst (v := (0 : Int64)) dX11_does_186 (by decide) ?_
    obtain ⟨g8, hF⟩ := gb_gdE hF
    obtain ⟨g9, hF⟩ := gb_gdE hF
    obtain ⟨h10, eh10, hF⟩ := gb_ltE hF
    refine gb_last dX11_does_187 (gb_kE g8) (gb_inE g9) (gb_hp eh10 ?_)
    obtain ⟨x11, ex11, hF⟩ := gb_ltE hF
    refine gb_iinc (v := x11) (L' := [some (.ref v0), some (.ref v1), some (.int v2), none, none, none, some (.int v6), some (.int x11), none, none]) dX11_does_188 rfl (by rw [ex11]; rfl) (by decide) rfl rfl ?_
    refine gb_goto (tgt := 169) dX11_does_191 (by decide) ?_
    exact gb_wk (hk169 v0 v1 v2 v6 x11 h10 r hF) (And.intro rfl (And.intro rfl (And.intro rfl (And.intro rfl (And.intro rfl trivial)))))
def lpX11_does_169 (k157 : Nat → Nat → Int32 → Int32 → gb_H → Option (Unit × gb_H)) (n : Nat) (v0 : Nat) (v1 : Nat) (v2 : Int32) (v6 : Int32) (v7 : Int32) (h : gb_H) : Option (Unit × gb_H) := gb_lp (σ := Nat × Nat × Int32 × Int32 × Int32 × gb_H) (fun k s => fbX11_does_169 k157 (fun v0 v1 v2 v6 v7 h => k (v0, v1, v2, v6, v7, h)) s.1 s.2.1 s.2.2.1 s.2.2.2.1 s.2.2.2.2.1 s.2.2.2.2.2) n (v0, v1, v2, v6, v7, h)
theorem lpX11_does_169_ok {X : gb_X}  {k157 : Nat → Nat → Int32 → Int32 → gb_H → Option (Unit × gb_H)} (hk157 : ∀ v0 v1 v2 v6 h r, k157 v0 v1 v2 v6 h = some r → gb_Ev X 4 mX11_does 157 [some (.ref v0), some (.ref v1), some (.int v2), none, none, none, some (.int v6), none, none, none] [] h (gb_wV r)) (n : Nat) (v0 : Nat) (v1 : Nat) (v2 : Int32) (v6 : Int32) (v7 : Int32) (h : gb_H) (r : Unit × gb_H) (hF : lpX11_does_169 k157 n v0 v1 v2 v6 v7 h = some r) : gb_Ev X 4 mX11_does 169 [some (.ref v0), some (.ref v1), some (.int v2), none, none, none, some (.int v6), some (.int v7), none, none] [] h (gb_wV r) := by
  exact gb_lpE (σ := Nat × Nat × Int32 × Int32 × Int32 × gb_H) (P := fun s r => gb_Ev X 4 mX11_does 169 [some (.ref s.1), some (.ref s.2.1), some (.int s.2.2.1), none, none, none, some (.int s.2.2.2.1), some (.int s.2.2.2.2.1), none, none] [] s.2.2.2.2.2 (gb_wV r)) (fun k hk s r hs => fbX11_does_169_ok hk157 (fun v0 v1 v2 v6 v7 h r e => hk (v0, v1, v2, v6, v7, h) r e) _ _ _ _ _ _ r hs) n (v0, v1, v2, v6, v7, h) r hF
def fbX11_does_399 (k399 : Nat → Int32 → gb_H → Option (Unit × gb_H)) (v0 : Nat) (v6 : Int32) (h : gb_H) : Option (Unit × gb_H) :=
  gb_gd (gb_k h v0 11) <|
  if ((4 : Int32) * (gb_I h v0 24)) ≤ v6 then
    some ((), h)
  else
    gb_gd (gb_k h v0 11) <|
    gb_rd (gb_R h v0 20) fun a4 =>
    gb_gd (gb_k h a4 23) <|
    gb_gd (gb_in h a4 v6) <|
    gb_gd (gb_k h v0 11) <|
    gb_rd (gb_R h v0 21) fun a8 =>
    gb_gd (gb_k h a8 23) <|
    gb_gd (gb_in h a8 v6) <|
    gb_gd (gb_k h a4 23) <|
    gb_gd (gb_in h a4 v6) <|
    gb_lt (gb_sL h a4 v6.toNatClampNeg ((gb_L h a4 v6.toNatClampNeg) + (gb_L h a8 v6.toNatClampNeg))) fun h13 =>
    gb_lt (v6 + (1 : Int32)) fun x14 =>
    k399 v0 x14 h13
theorem fbX11_does_399_ok {X : gb_X} {k399 : Nat → Int32 → gb_H → Option (Unit × gb_H)} (hk399 : ∀ v0 v6 h r, k399 v0 v6 h = some r → gb_Ev X 4 mX11_does 399 [some (.ref v0), none, none, none, none, none, some (.int v6), none, none, none] [] h (gb_wV r)) (v0 : Nat) (v6 : Int32) (h : gb_H) (r : Unit × gb_H) (hF : fbX11_does_399 k399 v0 v6 h = some r) : gb_Ev X 4 mX11_does 399 [some (.ref v0), none, none, none, none, none, some (.int v6), none, none, none] [] h (gb_wV r) := by
  unfold fbX11_does_399 at hF
  refine gb_iload dX11_does_399 rfl ?_
  refine gb_iconst (v := (4 : Int32)) dX11_does_401 (by decide) ?_
  refine gb_aload_n dX11_does_402 rfl rfl ?_
  obtain ⟨g1, hF⟩ := gb_gdE hF
  refine gb_getI fX11_253 dX11_does_403 (gb_kE g1) ?_
  refine gb_imul dX11_does_406 ?_
  refine gb_icmp_ge (tgt := 433) dX11_does_407 (by decide) (fun c2 => ?_) (fun c2 => ?_)
  · replace hF := gb_ifT c2 hF
    cases hF
    exact gb_vret dX11_does_433 rfl
  · replace hF := gb_ifF c2 hF
    refine gb_aload_n dX11_does_410 rfl rfl ?_
    obtain ⟨g3, hF⟩ := gb_gdE hF
    obtain ⟨a4, ea4, hF⟩ := gb_rdE hF
    refine gb_getR fX11_43 dX11_does_411 (gb_kE g3) ea4 ?_
    refine gb_iload dX11_does_414 rfl ?_
    refine gb_dup2 dX11_does_416 rfl rfl ?_
    obtain ⟨g5, hF⟩ := gb_gdE hF
    obtain ⟨g6, hF⟩ := gb_gdE hF
    refine gb_lald dX11_does_417 (gb_kE g5) (gb_inE g6) ?_
    refine gb_aload_n dX11_does_418 rfl rfl ?_
    obtain ⟨g7, hF⟩ := gb_gdE hF
    obtain ⟨a8, ea8, hF⟩ := gb_rdE hF
    refine gb_getR fX11_47 dX11_does_419 (gb_kE g7) ea8 ?_
    refine gb_iload dX11_does_422 rfl ?_
    obtain ⟨g9, hF⟩ := gb_gdE hF
    obtain ⟨g10, hF⟩ := gb_gdE hF
    refine gb_lald dX11_does_424 (gb_kE g9) (gb_inE g10) ?_
    refine gb_ladd dX11_does_425 ?_
    obtain ⟨g11, hF⟩ := gb_gdE hF
    obtain ⟨g12, hF⟩ := gb_gdE hF
    obtain ⟨h13, eh13, hF⟩ := gb_ltE hF
    refine gb_last dX11_does_426 (gb_kE g11) (gb_inE g12) (gb_hp eh13 ?_)
    obtain ⟨x14, ex14, hF⟩ := gb_ltE hF
    refine gb_iinc (v := x14) (L' := [some (.ref v0), none, none, none, none, none, some (.int x14), none, none, none]) dX11_does_427 rfl (by rw [ex14]; rfl) (by decide) rfl rfl ?_
    refine gb_goto (tgt := 399) dX11_does_430 (by decide) ?_
    exact gb_wk (hk399 v0 x14 h13 r hF) (And.intro rfl (And.intro rfl trivial))
def lpX11_does_399 (n : Nat) (v0 : Nat) (v6 : Int32) (h : gb_H) : Option (Unit × gb_H) := gb_lp (σ := Nat × Int32 × gb_H) (fun k s => fbX11_does_399 (fun v0 v6 h => k (v0, v6, h)) s.1 s.2.1 s.2.2) n (v0, v6, h)
theorem lpX11_does_399_ok {X : gb_X}  (n : Nat) (v0 : Nat) (v6 : Int32) (h : gb_H) (r : Unit × gb_H) (hF : lpX11_does_399 n v0 v6 h = some r) : gb_Ev X 4 mX11_does 399 [some (.ref v0), none, none, none, none, none, some (.int v6), none, none, none] [] h (gb_wV r) := by
  exact gb_lpE (σ := Nat × Int32 × gb_H) (P := fun s r => gb_Ev X 4 mX11_does 399 [some (.ref s.1), none, none, none, none, none, some (.int s.2.1), none, none, none] [] s.2.2 (gb_wV r)) (fun k hk s r hs => fbX11_does_399_ok (fun v0 v6 h r e => hk (v0, v6, h) r e) _ _ _ r hs) n (v0, v6, h) r hF
def fbX11_does_157 (k157 : Nat → Nat → Int32 → Int32 → gb_H → Option (Unit × gb_H)) (v0 : Nat) (v1 : Nat) (v2 : Int32) (v6 : Int32) (h : gb_H) : Option (Unit × gb_H) :=
  gb_gd (gb_k h v0 11) <|
  if (gb_I h v0 23) ≤ v6 then
    lpX11_does_399 gb_FU v0 (0 : Int32) h
  else
    lpX11_does_169 k157 gb_FU v0 v1 v2 v6 (0 : Int32) h
theorem fbX11_does_157_ok {X : gb_X} {k157 : Nat → Nat → Int32 → Int32 → gb_H → Option (Unit × gb_H)} (hk157 : ∀ v0 v1 v2 v6 h r, k157 v0 v1 v2 v6 h = some r → gb_Ev X 4 mX11_does 157 [some (.ref v0), some (.ref v1), some (.int v2), none, none, none, some (.int v6), none, none, none] [] h (gb_wV r)) (v0 : Nat) (v1 : Nat) (v2 : Int32) (v6 : Int32) (h : gb_H) (r : Unit × gb_H) (hF : fbX11_does_157 k157 v0 v1 v2 v6 h = some r) : gb_Ev X 4 mX11_does 157 [some (.ref v0), some (.ref v1), some (.int v2), none, none, none, some (.int v6), none, none, none] [] h (gb_wV r) := by
  unfold fbX11_does_157 at hF
  refine gb_iload dX11_does_157 rfl ?_
  refine gb_aload_n dX11_does_159 rfl rfl ?_
  obtain ⟨g1, hF⟩ := gb_gdE hF
  refine gb_getI fX11_225 dX11_does_160 (gb_kE g1) ?_
  refine gb_icmp_ge (tgt := 396) dX11_does_163 (by decide) (fun c2 => ?_) (fun c2 => ?_)
  · replace hF := gb_ifT c2 hF
    refine gb_iconst (v := (0 : Int32)) dX11_does_396 (by decide) ?_
    refine gb_istore (L' := [some (.ref v0), some (.ref v1), some (.int v2), none, none, none, some (.int (0 : Int32)), none, none, none]) dX11_does_397 (by decide) rfl rfl ?_
    exact gb_wk (lpX11_does_399_ok gb_FU v0 (0 : Int32) h r hF) (And.intro rfl (And.intro rfl trivial))
  · replace hF := gb_ifF c2 hF
    refine gb_iconst (v := (0 : Int32)) dX11_does_166 (by decide) ?_
    refine gb_istore (L' := [some (.ref v0), some (.ref v1), some (.int v2), none, none, none, some (.int v6), some (.int (0 : Int32)), none, none]) dX11_does_167 (by decide) rfl rfl ?_
    exact gb_wk (lpX11_does_169_ok hk157 gb_FU v0 v1 v2 v6 (0 : Int32) h r hF) (And.intro rfl (And.intro rfl (And.intro rfl (And.intro rfl (And.intro rfl trivial)))))
def lpX11_does_157 (n : Nat) (v0 : Nat) (v1 : Nat) (v2 : Int32) (v6 : Int32) (h : gb_H) : Option (Unit × gb_H) := gb_lp (σ := Nat × Nat × Int32 × Int32 × gb_H) (fun k s => fbX11_does_157 (fun v0 v1 v2 v6 h => k (v0, v1, v2, v6, h)) s.1 s.2.1 s.2.2.1 s.2.2.2.1 s.2.2.2.2) n (v0, v1, v2, v6, h)
theorem lpX11_does_157_ok {X : gb_X}  (n : Nat) (v0 : Nat) (v1 : Nat) (v2 : Int32) (v6 : Int32) (h : gb_H) (r : Unit × gb_H) (hF : lpX11_does_157 n v0 v1 v2 v6 h = some r) : gb_Ev X 4 mX11_does 157 [some (.ref v0), some (.ref v1), some (.int v2), none, none, none, some (.int v6), none, none, none] [] h (gb_wV r) := by
  exact gb_lpE (σ := Nat × Nat × Int32 × Int32 × gb_H) (P := fun s r => gb_Ev X 4 mX11_does 157 [some (.ref s.1), some (.ref s.2.1), some (.int s.2.2.1), none, none, none, some (.int s.2.2.2.1), none, none, none] [] s.2.2.2.2 (gb_wV r)) (fun k hk s r hs => fbX11_does_157_ok (fun v0 v1 v2 v6 h r e => hk (v0, v1, v2, v6, h) r e) _ _ _ _ _ r hs) n (v0, v1, v2, v6, h) r hF
def fbX11_does_32 (k32 : Nat → Nat → Int32 → Int64 → Int32 → gb_H → Option (Unit × gb_H)) (v0 : Nat) (v1 : Nat) (v2 : Int32) (v4 : Int64) (v6 : Int32) (h : gb_H) : Option (Unit × gb_H) :=
  gb_gd (gb_k h v0 11) <|
  if (gb_I h v0 24) ≤ v6 then
    lpX11_does_157 gb_FU v0 v1 v2 (0 : Int32) h
  else
    gb_lt (v2 + (6 : Int32)) fun x3 =>
    gb_gd (gb_k h v1 20) <|
    gb_gd (gb_in h v1 x3) <|
    if (gb_I h v1 x3.toNatClampNeg) = (-1 : Int32) then
      fbX11_does_72 k32 v0 v1 v2 v4 v6 h
    else
      gb_lt (v2 + (6 : Int32)) fun x7 =>
      gb_gd (gb_k h v1 20) <|
      gb_gd (gb_in h v1 x7) <|
      gb_gd (gb_k h v0 11) <|
      gb_bd (fnX11_inPath v0 v6 (gb_I h v1 x7.toNatClampNeg) h) fun x11 h12 =>
      gb_lt (v2 + (7 : Int32)) fun x13 =>
      gb_gd (gb_k h12 v1 20) <|
      gb_gd (gb_in h12 v1 x13) <|
      if x11 = (gb_I h12 v1 x13.toNatClampNeg) then
        fbX11_does_72 k32 v0 v1 v2 v4 v6 h12
      else
        fbX11_does_77 k32 v0 v1 v2 v4 v6 (0 : Int32) h12
theorem fbX11_does_32_ok {X : gb_X} {k32 : Nat → Nat → Int32 → Int64 → Int32 → gb_H → Option (Unit × gb_H)} (hk32 : ∀ v0 v1 v2 v4 v6 h r, k32 v0 v1 v2 v4 v6 h = some r → gb_Ev X 4 mX11_does 32 [some (.ref v0), some (.ref v1), some (.int v2), none, some (.long v4), none, some (.int v6), none, none, none] [] h (gb_wV r)) (v0 : Nat) (v1 : Nat) (v2 : Int32) (v4 : Int64) (v6 : Int32) (h : gb_H) (r : Unit × gb_H) (hF : fbX11_does_32 k32 v0 v1 v2 v4 v6 h = some r) : gb_Ev X 4 mX11_does 32 [some (.ref v0), some (.ref v1), some (.int v2), none, some (.long v4), none, some (.int v6), none, none, none] [] h (gb_wV r) := by
  unfold fbX11_does_32 at hF
  refine gb_iload dX11_does_32 rfl ?_
  refine gb_aload_n dX11_does_34 rfl rfl ?_
  obtain ⟨g1, hF⟩ := gb_gdE hF
  refine gb_getI fX11_253 dX11_does_35 (gb_kE g1) ?_
  refine gb_icmp_ge (tgt := 154) dX11_does_38 (by decide) (fun c2 => ?_) (fun c2 => ?_)
  · replace hF := gb_ifT c2 hF
    refine gb_iconst (v := (0 : Int32)) dX11_does_154 (by decide) ?_
    refine gb_istore (L' := [some (.ref v0), some (.ref v1), some (.int v2), none, some (.long v4), none, some (.int (0 : Int32)), none, none, none]) dX11_does_155 (by decide) rfl rfl ?_
    exact gb_wk (lpX11_does_157_ok gb_FU v0 v1 v2 (0 : Int32) h r hF) (And.intro rfl (And.intro rfl (And.intro rfl (And.intro rfl trivial))))
  · replace hF := gb_ifF c2 hF
    refine gb_aload_n dX11_does_41 rfl rfl ?_
    refine gb_iload_n dX11_does_42 rfl rfl ?_
    refine gb_bipush (v := (6 : Int32)) dX11_does_43 (by decide) ?_
    refine gb_iadd dX11_does_45 ?_
    obtain ⟨x3, ex3, hF⟩ := gb_ltE hF
    refine gb_topI ex3 ?_
    obtain ⟨g4, hF⟩ := gb_gdE hF
    obtain ⟨g5, hF⟩ := gb_gdE hF
    refine gb_iald dX11_does_46 (gb_kE g4) (gb_inE g5) ?_
    refine gb_iconst (v := (-1 : Int32)) dX11_does_47 (by decide) ?_
    refine gb_icmp_eq (tgt := 72) dX11_does_48 (by decide) (fun c6 => ?_) (fun c6 => ?_)
    · replace hF := gb_ifT c6 hF
      exact gb_wk (fbX11_does_72_ok hk32 v0 v1 v2 v4 v6 h r hF) (And.intro rfl (And.intro rfl (And.intro rfl (And.intro rfl (And.intro rfl trivial)))))
    · replace hF := gb_ifF c6 hF
      refine gb_aload_n dX11_does_51 rfl rfl ?_
      refine gb_iload dX11_does_52 rfl ?_
      refine gb_aload_n dX11_does_54 rfl rfl ?_
      refine gb_iload_n dX11_does_55 rfl rfl ?_
      refine gb_bipush (v := (6 : Int32)) dX11_does_56 (by decide) ?_
      refine gb_iadd dX11_does_58 ?_
      obtain ⟨x7, ex7, hF⟩ := gb_ltE hF
      refine gb_topI ex7 ?_
      obtain ⟨g8, hF⟩ := gb_gdE hF
      obtain ⟨g9, hF⟩ := gb_gdE hF
      refine gb_iald dX11_does_59 (gb_kE g8) (gb_inE g9) ?_
      obtain ⟨g10, hF⟩ := gb_gdE hF
      obtain ⟨x11, h12, cx11, hF⟩ := gb_bdE hF
      refine gb_cV (As := [.int v6, .int (gb_I h v1 x7.toNatClampNeg)]) (S := []) (v := some (.int x11)) (h1 := h12) (S2 := [.int x11]) cf11 dX11_does_60 mtX11_inPath lX11_256 inX11_inPath seX11_inPath (gb_kE g10) (fnX11_inPath_ok _ _ cx11) (by decide) rfl (Nat.le_of_ble_eq_true rfl) (Nat.le_of_ble_eq_true rfl) rfl rfl ?_
      refine gb_aload_n dX11_does_63 rfl rfl ?_
      refine gb_iload_n dX11_does_64 rfl rfl ?_
      refine gb_bipush (v := (7 : Int32)) dX11_does_65 (by decide) ?_
      refine gb_iadd dX11_does_67 ?_
      obtain ⟨x13, ex13, hF⟩ := gb_ltE hF
      refine gb_topI ex13 ?_
      obtain ⟨g14, hF⟩ := gb_gdE hF
      obtain ⟨g15, hF⟩ := gb_gdE hF
      refine gb_iald dX11_does_68 (gb_kE g14) (gb_inE g15) ?_
      refine gb_icmp_ne (tgt := 76) dX11_does_69 (by decide) (fun c16 => ?_) (fun c16 => ?_)
      · replace hF := gb_ifF c16 hF
        refine gb_iconst (v := (0 : Int32)) dX11_does_76 (by decide) ?_
        exact gb_wk (fbX11_does_77_ok hk32 v0 v1 v2 v4 v6 (0 : Int32) h12 r hF) (And.intro rfl (And.intro rfl (And.intro rfl (And.intro rfl (And.intro rfl trivial)))))
      · replace hF := gb_ifT c16 hF
        exact gb_wk (fbX11_does_72_ok hk32 v0 v1 v2 v4 v6 h12 r hF) (And.intro rfl (And.intro rfl (And.intro rfl (And.intro rfl (And.intro rfl trivial)))))
def lpX11_does_32 (n : Nat) (v0 : Nat) (v1 : Nat) (v2 : Int32) (v4 : Int64) (v6 : Int32) (h : gb_H) : Option (Unit × gb_H) := gb_lp (σ := Nat × Nat × Int32 × Int64 × Int32 × gb_H) (fun k s => fbX11_does_32 (fun v0 v1 v2 v4 v6 h => k (v0, v1, v2, v4, v6, h)) s.1 s.2.1 s.2.2.1 s.2.2.2.1 s.2.2.2.2.1 s.2.2.2.2.2) n (v0, v1, v2, v4, v6, h)
theorem lpX11_does_32_ok {X : gb_X}  (n : Nat) (v0 : Nat) (v1 : Nat) (v2 : Int32) (v4 : Int64) (v6 : Int32) (h : gb_H) (r : Unit × gb_H) (hF : lpX11_does_32 n v0 v1 v2 v4 v6 h = some r) : gb_Ev X 4 mX11_does 32 [some (.ref v0), some (.ref v1), some (.int v2), none, some (.long v4), none, some (.int v6), none, none, none] [] h (gb_wV r) := by
  exact gb_lpE (σ := Nat × Nat × Int32 × Int64 × Int32 × gb_H) (P := fun s r => gb_Ev X 4 mX11_does 32 [some (.ref s.1), some (.ref s.2.1), some (.int s.2.2.1), none, some (.long s.2.2.2.1), none, some (.int s.2.2.2.2.1), none, none, none] [] s.2.2.2.2.2 (gb_wV r)) (fun k hk s r hs => fbX11_does_32_ok (fun v0 v1 v2 v4 v6 h r e => hk (v0, v1, v2, v4, v6, h) r e) _ _ _ _ _ _ r hs) n (v0, v1, v2, v4, v6, h) r hF
def fbX11_does_27 (v0 : Nat) (v1 : Nat) (v2 : Int32) (s0 : Int64) (h : gb_H) : Option (Unit × gb_H) :=
  lpX11_does_32 gb_FU v0 v1 v2 s0 (0 : Int32) h
theorem fbX11_does_27_ok {X : gb_X} (v0 : Nat) (v1 : Nat) (v2 : Int32) (s0 : Int64) (h : gb_H) (r : Unit × gb_H) (hF : fbX11_does_27 v0 v1 v2 s0 h = some r) : gb_Ev X 4 mX11_does 27 [some (.ref v0), some (.ref v1), some (.int v2), none, none, none, none, none, none, none] [.long s0] h (gb_wV r) := by
  unfold fbX11_does_27 at hF
  refine gb_lstore (L' := [some (.ref v0), some (.ref v1), some (.int v2), none, some (.long s0), none, none, none, none, none]) dX11_does_27 (by decide) rfl rfl ?_
  refine gb_iconst (v := (0 : Int32)) dX11_does_29 (by decide) ?_
  refine gb_istore (L' := [some (.ref v0), some (.ref v1), some (.int v2), none, some (.long s0), none, some (.int (0 : Int32)), none, none, none]) dX11_does_30 (by decide) rfl rfl ?_
  exact gb_wk (lpX11_does_32_ok gb_FU v0 v1 v2 s0 (0 : Int32) h r hF) (And.intro rfl (And.intro rfl (And.intro rfl (And.intro rfl (And.intro rfl trivial)))))
def fnX11_does (p0 : Nat) (p1 : Nat) (p2 : Int32) (h : gb_H) : Option (Unit × gb_H) :=
  gb_lt (p2 + (3 : Int32)) fun x1 =>
  gb_gd (gb_k h p1 20) <|
  gb_gd (gb_in h p1 x1) <|
  gb_lt (gb_I h p1 x1.toNatClampNeg) fun x4 =>
  if x4 = (-1 : Int32) then
    fbX11_does_27 p0 p1 p2 (1 : Int64) h
  else
    gb_bd (fnX11_measure x4 h) fun x6 h7 =>
    gb_gd (gb_k h7 p0 11) <|
    gb_bd (fnX11_power (x6.toInt64) (gb_I h7 p0 23) h7) fun x9 h10 =>
    fbX11_does_27 p0 p1 p2 x9 h10
theorem fnX11_does_ok {X : gb_X}  {p0 : Nat} {p1 : Nat} {p2 : Int32} (h : gb_H) (r : Unit × gb_H) (hF : fnX11_does p0 p1 p2 h = some r) : gb_Ev X 4 mX11_does 0 (gb_L0 [.ref p0, .ref p1, .int p2]) [] h (gb_wV r) := by
  unfold fnX11_does at hF
  refine gb_weak (L' := [some (.ref p0), some (.ref p1), some (.int p2), none, none, none, none, none, none, none]) (And.intro rfl (And.intro rfl (And.intro rfl trivial))) ?_
  refine gb_aload_n dX11_does_0 rfl rfl ?_
  refine gb_iload_n dX11_does_1 rfl rfl ?_
  refine gb_iconst (v := (3 : Int32)) dX11_does_2 (by decide) ?_
  refine gb_iadd dX11_does_3 ?_
  obtain ⟨x1, ex1, hF⟩ := gb_ltE hF
  refine gb_topI ex1 ?_
  obtain ⟨g2, hF⟩ := gb_gdE hF
  obtain ⟨g3, hF⟩ := gb_gdE hF
  refine gb_iald dX11_does_4 (gb_kE g2) (gb_inE g3) ?_
  obtain ⟨x4, ex4, hF⟩ := gb_ltE hF
  refine gb_topI ex4 ?_
  refine gb_istore_n (L' := [some (.ref p0), some (.ref p1), some (.int p2), some (.int x4), none, none, none, none, none, none]) dX11_does_5 rfl (by decide) rfl rfl ?_
  refine gb_iload_n dX11_does_6 rfl rfl ?_
  refine gb_iconst (v := (-1 : Int32)) dX11_does_7 (by decide) ?_
  refine gb_icmp_ne (tgt := 15) dX11_does_8 (by decide) (fun c5 => ?_) (fun c5 => ?_)
  · replace hF := gb_ifF c5 hF
    refine gb_iload_n dX11_does_15 rfl rfl ?_
    obtain ⟨x6, h7, cx6, hF⟩ := gb_bdE hF
    refine gb_cS (As := [.int x4]) (S := []) (v := some (.int x6)) (h1 := h7) (S2 := [.int x6]) dX11_does_16 mtX11_measure lX11_215 stX11_measure (fnX11_measure_ok _ _ cx6) (by decide) rfl (Nat.le_of_ble_eq_true rfl) (Nat.le_of_ble_eq_true rfl) rfl rfl ?_
    refine gb_i2l dX11_does_19 ?_
    refine gb_aload_n dX11_does_20 rfl rfl ?_
    obtain ⟨g8, hF⟩ := gb_gdE hF
    refine gb_getI fX11_225 dX11_does_21 (gb_kE g8) ?_
    obtain ⟨x9, h10, cx9, hF⟩ := gb_bdE hF
    refine gb_cS (As := [.long (x6.toInt64), .int (gb_I h7 p0 23)]) (S := []) (v := some (.long x9)) (h1 := h10) (S2 := [.long x9]) dX11_does_24 mtX11_power lX11_218 stX11_power (fnX11_power_ok _ _ cx9) (by decide) rfl (Nat.le_of_ble_eq_true rfl) (Nat.le_of_ble_eq_true rfl) rfl rfl ?_
    exact gb_wk (fbX11_does_27_ok p0 p1 p2 x9 h10 r hF) (And.intro rfl (And.intro rfl (And.intro rfl trivial)))
  · replace hF := gb_ifT c5 hF
    refine gb_lconst (v := (1 : Int64)) dX11_does_11 (by decide) ?_
    refine gb_goto (tgt := 27) dX11_does_12 (by decide) ?_
    exact gb_wk (fbX11_does_27_ok p0 p1 p2 (1 : Int64) h r hF) (And.intro rfl (And.intro rfl (And.intro rfl trivial)))
def fbX11_runs_59 (k27 : Nat → Nat → Int32 → Int32 → Int32 → Int32 → Int32 → gb_H → Option (Unit × gb_H)) (v0 : Nat) (v1 : Nat) (v2 : Int32) (v3 : Int32) (v5 : Int32) (v7 : Int32) (s0 : Int32) (s1 : Int32) (h : gb_H) : Option (Unit × gb_H) :=
  gb_lt (s0 + s1) fun x1 =>
  gb_lt (v7 + (1 : Int32)) fun x2 =>
  k27 v0 v1 v2 v3 v5 x1 x2 h
theorem fbX11_runs_59_ok {X : gb_X} {k27 : Nat → Nat → Int32 → Int32 → Int32 → Int32 → Int32 → gb_H → Option (Unit × gb_H)} (hk27 : ∀ v0 v1 v2 v3 v5 v6 v7 h r, k27 v0 v1 v2 v3 v5 v6 v7 h = some r → gb_Ev X 5 mX11_runs 27 [some (.ref v0), some (.ref v1), some (.int v2), some (.int v3), none, some (.int v5), some (.int v6), some (.int v7)] [] h (gb_wV r)) (v0 : Nat) (v1 : Nat) (v2 : Int32) (v3 : Int32) (v5 : Int32) (v7 : Int32) (s0 : Int32) (s1 : Int32) (h : gb_H) (r : Unit × gb_H) (hF : fbX11_runs_59 k27 v0 v1 v2 v3 v5 v7 s0 s1 h = some r) : gb_Ev X 5 mX11_runs 59 [some (.ref v0), some (.ref v1), some (.int v2), some (.int v3), none, some (.int v5), none, some (.int v7)] [.int s1, .int s0] h (gb_wV r) := by
  unfold fbX11_runs_59 at hF
  refine gb_iadd dX11_runs_59 ?_
  obtain ⟨x1, ex1, hF⟩ := gb_ltE hF
  refine gb_topI ex1 ?_
  refine gb_istore (L' := [some (.ref v0), some (.ref v1), some (.int v2), some (.int v3), none, some (.int v5), some (.int x1), some (.int v7)]) dX11_runs_60 (by decide) rfl rfl ?_
  obtain ⟨x2, ex2, hF⟩ := gb_ltE hF
  refine gb_iinc (v := x2) (L' := [some (.ref v0), some (.ref v1), some (.int v2), some (.int v3), none, some (.int v5), some (.int x1), some (.int x2)]) dX11_runs_62 rfl (by rw [ex2]; rfl) (by decide) rfl rfl ?_
  refine gb_goto (tgt := 27) dX11_runs_65 (by decide) ?_
  exact gb_wk (hk27 v0 v1 v2 v3 v5 x1 x2 h r hF) (And.intro rfl (And.intro rfl (And.intro rfl (And.intro rfl (And.intro rfl (And.intro rfl (And.intro rfl trivial)))))))
def fbX11_runs_140 (k109 : Nat → Nat → Int32 → Int32 → Int32 → gb_H → Option (Unit × gb_H)) (v0 : Nat) (v1 : Nat) (v2 : Int32) (v3 : Int32) (v7 : Int32) (h : gb_H) : Option (Unit × gb_H) :=
  gb_lt (v7 + (1 : Int32)) fun x1 =>
  k109 v0 v1 v2 v3 x1 h
theorem fbX11_runs_140_ok {X : gb_X} {k109 : Nat → Nat → Int32 → Int32 → Int32 → gb_H → Option (Unit × gb_H)} (hk109 : ∀ v0 v1 v2 v3 v7 h r, k109 v0 v1 v2 v3 v7 h = some r → gb_Ev X 5 mX11_runs 109 [some (.ref v0), some (.ref v1), some (.int v2), some (.int v3), none, none, none, some (.int v7)] [] h (gb_wV r)) (v0 : Nat) (v1 : Nat) (v2 : Int32) (v3 : Int32) (v7 : Int32) (h : gb_H) (r : Unit × gb_H) (hF : fbX11_runs_140 k109 v0 v1 v2 v3 v7 h = some r) : gb_Ev X 5 mX11_runs 140 [some (.ref v0), some (.ref v1), some (.int v2), some (.int v3), none, none, none, some (.int v7)] [] h (gb_wV r) := by
  unfold fbX11_runs_140 at hF
  obtain ⟨x1, ex1, hF⟩ := gb_ltE hF
  refine gb_iinc (v := x1) (L' := [some (.ref v0), some (.ref v1), some (.int v2), some (.int v3), none, none, none, some (.int x1)]) dX11_runs_140 rfl (by rw [ex1]; rfl) (by decide) rfl rfl ?_
  refine gb_goto (tgt := 109) dX11_runs_143 (by decide) ?_
  exact gb_wk (hk109 v0 v1 v2 v3 x1 h r hF) (And.intro rfl (And.intro rfl (And.intro rfl (And.intro rfl (And.intro rfl trivial)))))
def fbX11_runs_109 (k109 : Nat → Nat → Int32 → Int32 → Int32 → gb_H → Option (Unit × gb_H)) (v0 : Nat) (v1 : Nat) (v2 : Int32) (v3 : Int32) (v7 : Int32) (h : gb_H) : Option (Unit × gb_H) :=
  if v3 ≤ v7 then
    some ((), h)
  else
    gb_lt (v2 + ((8 : Int32) * v7)) fun x2 =>
    gb_gd (gb_k h v1 20) <|
    gb_gd (gb_in h v1 x2) <|
    if (gb_I h v1 x2.toNatClampNeg) = (5 : Int32) then
      fbX11_runs_140 k109 v0 v1 v2 v3 v7 h
    else
      gb_gd (gb_k h v0 11) <|
      gb_bd (fnX11_does v0 v1 (v2 + ((8 : Int32) * v7)) h) fun _ h8 =>
      fbX11_runs_140 k109 v0 v1 v2 v3 v7 h8
theorem fbX11_runs_109_ok {X : gb_X} {k109 : Nat → Nat → Int32 → Int32 → Int32 → gb_H → Option (Unit × gb_H)} (hk109 : ∀ v0 v1 v2 v3 v7 h r, k109 v0 v1 v2 v3 v7 h = some r → gb_Ev X 5 mX11_runs 109 [some (.ref v0), some (.ref v1), some (.int v2), some (.int v3), none, none, none, some (.int v7)] [] h (gb_wV r)) (v0 : Nat) (v1 : Nat) (v2 : Int32) (v3 : Int32) (v7 : Int32) (h : gb_H) (r : Unit × gb_H) (hF : fbX11_runs_109 k109 v0 v1 v2 v3 v7 h = some r) : gb_Ev X 5 mX11_runs 109 [some (.ref v0), some (.ref v1), some (.int v2), some (.int v3), none, none, none, some (.int v7)] [] h (gb_wV r) := by
  unfold fbX11_runs_109 at hF
  refine gb_iload dX11_runs_109 rfl ?_
  refine gb_iload_n dX11_runs_111 rfl rfl ?_
  refine gb_icmp_ge (tgt := 146) dX11_runs_112 (by decide) (fun c1 => ?_) (fun c1 => ?_)
  · replace hF := gb_ifT c1 hF
    cases hF
    exact gb_vret dX11_runs_146 rfl
  · replace hF := gb_ifF c1 hF
    refine gb_aload_n dX11_runs_115 rfl rfl ?_
    refine gb_iload_n dX11_runs_116 rfl rfl ?_
    refine gb_bipush (v := (8 : Int32)) dX11_runs_117 (by decide) ?_
    refine gb_iload dX11_runs_119 rfl ?_
    refine gb_imul dX11_runs_121 ?_
    refine gb_iadd dX11_runs_122 ?_
    obtain ⟨x2, ex2, hF⟩ := gb_ltE hF
    refine gb_topI ex2 ?_
    obtain ⟨g3, hF⟩ := gb_gdE hF
    obtain ⟨g4, hF⟩ := gb_gdE hF
    refine gb_iald dX11_runs_123 (gb_kE g3) (gb_inE g4) ?_
    refine gb_iconst (v := (5 : Int32)) dX11_runs_124 (by decide) ?_
    refine gb_icmp_eq (tgt := 140) dX11_runs_125 (by decide) (fun c5 => ?_) (fun c5 => ?_)
    · replace hF := gb_ifT c5 hF
      exact gb_wk (fbX11_runs_140_ok hk109 v0 v1 v2 v3 v7 h r hF) (And.intro rfl (And.intro rfl (And.intro rfl (And.intro rfl (And.intro rfl trivial)))))
    · replace hF := gb_ifF c5 hF
      refine gb_aload_n dX11_runs_128 rfl rfl ?_
      refine gb_aload_n dX11_runs_129 rfl rfl ?_
      refine gb_iload_n dX11_runs_130 rfl rfl ?_
      refine gb_bipush (v := (8 : Int32)) dX11_runs_131 (by decide) ?_
      refine gb_iload dX11_runs_133 rfl ?_
      refine gb_imul dX11_runs_135 ?_
      refine gb_iadd dX11_runs_136 ?_
      obtain ⟨g6, hF⟩ := gb_gdE hF
      obtain ⟨x7, h8, cx7, hF⟩ := gb_bdE hF
      refine gb_cV (As := [.ref v1, .int (v2 + ((8 : Int32) * v7))]) (S := []) (v := none) (h1 := h8) (S2 := []) cf11 dX11_runs_137 mtX11_does lX11_270 inX11_does seX11_does (gb_kE g6) (fnX11_does_ok _ _ cx7) (by decide) rfl (Nat.le_of_ble_eq_true rfl) (Nat.le_of_ble_eq_true rfl) rfl rfl ?_
      exact gb_wk (fbX11_runs_140_ok hk109 v0 v1 v2 v3 v7 h8 r hF) (And.intro rfl (And.intro rfl (And.intro rfl (And.intro rfl (And.intro rfl trivial)))))
def lpX11_runs_109 (n : Nat) (v0 : Nat) (v1 : Nat) (v2 : Int32) (v3 : Int32) (v7 : Int32) (h : gb_H) : Option (Unit × gb_H) := gb_lp (σ := Nat × Nat × Int32 × Int32 × Int32 × gb_H) (fun k s => fbX11_runs_109 (fun v0 v1 v2 v3 v7 h => k (v0, v1, v2, v3, v7, h)) s.1 s.2.1 s.2.2.1 s.2.2.2.1 s.2.2.2.2.1 s.2.2.2.2.2) n (v0, v1, v2, v3, v7, h)
theorem lpX11_runs_109_ok {X : gb_X}  (n : Nat) (v0 : Nat) (v1 : Nat) (v2 : Int32) (v3 : Int32) (v7 : Int32) (h : gb_H) (r : Unit × gb_H) (hF : lpX11_runs_109 n v0 v1 v2 v3 v7 h = some r) : gb_Ev X 5 mX11_runs 109 [some (.ref v0), some (.ref v1), some (.int v2), some (.int v3), none, none, none, some (.int v7)] [] h (gb_wV r) := by
  exact gb_lpE (σ := Nat × Nat × Int32 × Int32 × Int32 × gb_H) (P := fun s r => gb_Ev X 5 mX11_runs 109 [some (.ref s.1), some (.ref s.2.1), some (.int s.2.2.1), some (.int s.2.2.2.1), none, none, none, some (.int s.2.2.2.2.1)] [] s.2.2.2.2.2 (gb_wV r)) (fun k hk s r hs => fbX11_runs_109_ok (fun v0 v1 v2 v3 v7 h r e => hk (v0, v1, v2, v3, v7, h) r e) _ _ _ _ _ _ r hs) n (v0, v1, v2, v3, v7, h) r hF
def fbX11_runs_71 (k71 : Nat → Nat → Int32 → Int32 → Int32 → Int32 → gb_H → Option (Unit × gb_H)) (v0 : Nat) (v1 : Nat) (v2 : Int32) (v3 : Int32) (v6 : Int32) (v7 : Int32) (h : gb_H) : Option (Unit × gb_H) :=
  gb_gd (gb_k h v0 11) <|
  if ((4 : Int32) * (gb_I h v0 24)) ≤ v7 then
    gb_gd (gb_k h v0 11) <|
    gb_rd (gb_R h v0 20) fun a4 =>
    gb_lt ((4 : Int32) * v6) fun x5 =>
    gb_gd (gb_k h a4 23) <|
    gb_gd (gb_in h a4 x5) <|
    gb_lt (gb_sL h a4 x5.toNatClampNeg (1 : Int64)) fun h8 =>
    lpX11_runs_109 gb_FU v0 v1 v2 v3 (0 : Int32) h8
  else
    gb_gd (gb_k h v0 11) <|
    gb_rd (gb_R h v0 20) fun a10 =>
    gb_gd (gb_k h a10 23) <|
    gb_gd (gb_in h a10 v7) <|
    gb_lt (gb_sL h a10 v7.toNatClampNeg (0 : Int64)) fun h13 =>
    gb_lt (v7 + (1 : Int32)) fun x14 =>
    k71 v0 v1 v2 v3 v6 x14 h13
theorem fbX11_runs_71_ok {X : gb_X} {k71 : Nat → Nat → Int32 → Int32 → Int32 → Int32 → gb_H → Option (Unit × gb_H)} (hk71 : ∀ v0 v1 v2 v3 v6 v7 h r, k71 v0 v1 v2 v3 v6 v7 h = some r → gb_Ev X 5 mX11_runs 71 [some (.ref v0), some (.ref v1), some (.int v2), some (.int v3), none, none, some (.int v6), some (.int v7)] [] h (gb_wV r)) (v0 : Nat) (v1 : Nat) (v2 : Int32) (v3 : Int32) (v6 : Int32) (v7 : Int32) (h : gb_H) (r : Unit × gb_H) (hF : fbX11_runs_71 k71 v0 v1 v2 v3 v6 v7 h = some r) : gb_Ev X 5 mX11_runs 71 [some (.ref v0), some (.ref v1), some (.int v2), some (.int v3), none, none, some (.int v6), some (.int v7)] [] h (gb_wV r) := by
  unfold fbX11_runs_71 at hF
  refine gb_iload dX11_runs_71 rfl ?_
  refine gb_iconst (v := (4 : Int32)) dX11_runs_73 (by decide) ?_
  refine gb_aload_n dX11_runs_74 rfl rfl ?_
  obtain ⟨g1, hF⟩ := gb_gdE hF
  refine gb_getI fX11_253 dX11_runs_75 (gb_kE g1) ?_
  refine gb_imul dX11_runs_78 ?_
  refine gb_icmp_ge (tgt := 96) dX11_runs_79 (by decide) (fun c2 => ?_) (fun c2 => ?_)
  · replace hF := gb_ifT c2 hF
    refine gb_aload_n dX11_runs_96 rfl rfl ?_
    obtain ⟨g3, hF⟩ := gb_gdE hF
    obtain ⟨a4, ea4, hF⟩ := gb_rdE hF
    refine gb_getR fX11_43 dX11_runs_97 (gb_kE g3) ea4 ?_
    refine gb_iconst (v := (4 : Int32)) dX11_runs_100 (by decide) ?_
    refine gb_iload dX11_runs_101 rfl ?_
    refine gb_imul dX11_runs_103 ?_
    refine gb_lconst (v := (1 : Int64)) dX11_runs_104 (by decide) ?_
    obtain ⟨x5, ex5, hF⟩ := gb_ltE hF
    refine gb_topI2 ex5 ?_
    obtain ⟨g6, hF⟩ := gb_gdE hF
    obtain ⟨g7, hF⟩ := gb_gdE hF
    obtain ⟨h8, eh8, hF⟩ := gb_ltE hF
    refine gb_last dX11_runs_105 (gb_kE g6) (gb_inE g7) (gb_hp eh8 ?_)
    refine gb_iconst (v := (0 : Int32)) dX11_runs_106 (by decide) ?_
    refine gb_istore (L' := [some (.ref v0), some (.ref v1), some (.int v2), some (.int v3), none, none, some (.int v6), some (.int (0 : Int32))]) dX11_runs_107 (by decide) rfl rfl ?_
    exact gb_wk (lpX11_runs_109_ok gb_FU v0 v1 v2 v3 (0 : Int32) h8 r hF) (And.intro rfl (And.intro rfl (And.intro rfl (And.intro rfl (And.intro rfl trivial)))))
  · replace hF := gb_ifF c2 hF
    refine gb_aload_n dX11_runs_82 rfl rfl ?_
    obtain ⟨g9, hF⟩ := gb_gdE hF
    obtain ⟨a10, ea10, hF⟩ := gb_rdE hF
    refine gb_getR fX11_43 dX11_runs_83 (gb_kE g9) ea10 ?_
    refine gb_iload dX11_runs_86 rfl ?_
    refine gb_lconst (v := (0 : Int64)) dX11_runs_88 (by decide) ?_
    obtain ⟨g11, hF⟩ := gb_gdE hF
    obtain ⟨g12, hF⟩ := gb_gdE hF
    obtain ⟨h13, eh13, hF⟩ := gb_ltE hF
    refine gb_last dX11_runs_89 (gb_kE g11) (gb_inE g12) (gb_hp eh13 ?_)
    obtain ⟨x14, ex14, hF⟩ := gb_ltE hF
    refine gb_iinc (v := x14) (L' := [some (.ref v0), some (.ref v1), some (.int v2), some (.int v3), none, none, some (.int v6), some (.int x14)]) dX11_runs_90 rfl (by rw [ex14]; rfl) (by decide) rfl rfl ?_
    refine gb_goto (tgt := 71) dX11_runs_93 (by decide) ?_
    exact gb_wk (hk71 v0 v1 v2 v3 v6 x14 h13 r hF) (And.intro rfl (And.intro rfl (And.intro rfl (And.intro rfl (And.intro rfl (And.intro rfl trivial))))))
def lpX11_runs_71 (n : Nat) (v0 : Nat) (v1 : Nat) (v2 : Int32) (v3 : Int32) (v6 : Int32) (v7 : Int32) (h : gb_H) : Option (Unit × gb_H) := gb_lp (σ := Nat × Nat × Int32 × Int32 × Int32 × Int32 × gb_H) (fun k s => fbX11_runs_71 (fun v0 v1 v2 v3 v6 v7 h => k (v0, v1, v2, v3, v6, v7, h)) s.1 s.2.1 s.2.2.1 s.2.2.2.1 s.2.2.2.2.1 s.2.2.2.2.2.1 s.2.2.2.2.2.2) n (v0, v1, v2, v3, v6, v7, h)
theorem lpX11_runs_71_ok {X : gb_X}  (n : Nat) (v0 : Nat) (v1 : Nat) (v2 : Int32) (v3 : Int32) (v6 : Int32) (v7 : Int32) (h : gb_H) (r : Unit × gb_H) (hF : lpX11_runs_71 n v0 v1 v2 v3 v6 v7 h = some r) : gb_Ev X 5 mX11_runs 71 [some (.ref v0), some (.ref v1), some (.int v2), some (.int v3), none, none, some (.int v6), some (.int v7)] [] h (gb_wV r) := by
  exact gb_lpE (σ := Nat × Nat × Int32 × Int32 × Int32 × Int32 × gb_H) (P := fun s r => gb_Ev X 5 mX11_runs 71 [some (.ref s.1), some (.ref s.2.1), some (.int s.2.2.1), some (.int s.2.2.2.1), none, none, some (.int s.2.2.2.2.1), some (.int s.2.2.2.2.2.1)] [] s.2.2.2.2.2.2 (gb_wV r)) (fun k hk s r hs => fbX11_runs_71_ok (fun v0 v1 v2 v3 v6 v7 h r e => hk (v0, v1, v2, v3, v6, v7, h) r e) _ _ _ _ _ _ _ r hs) n (v0, v1, v2, v3, v6, v7, h) r hF
def fbX11_runs_27 (k27 : Nat → Nat → Int32 → Int32 → Int32 → Int32 → Int32 → gb_H → Option (Unit × gb_H)) (v0 : Nat) (v1 : Nat) (v2 : Int32) (v3 : Int32) (v5 : Int32) (v6 : Int32) (v7 : Int32) (h : gb_H) : Option (Unit × gb_H) :=
  gb_gd (gb_k h v0 11) <|
  if (gb_I h v0 23) ≤ v7 then
    lpX11_runs_71 gb_FU v0 v1 v2 v3 v6 (0 : Int32) h
  else
    if v5 = (-1 : Int32) then
      gb_gd (gb_k h v0 11) <|
      gb_rd (gb_R h v0 2) fun a5 =>
      gb_gd (gb_k h a5 20) <|
      gb_gd (gb_in h a5 v7) <|
      fbX11_runs_59 k27 v0 v1 v2 v3 v5 v7 ((16 : Int32) * v6) (gb_I h a5 v7.toNatClampNeg) h
    else
      fbX11_runs_59 k27 v0 v1 v2 v3 v5 v7 ((16 : Int32) * v6) v5 h
theorem fbX11_runs_27_ok {X : gb_X} {k27 : Nat → Nat → Int32 → Int32 → Int32 → Int32 → Int32 → gb_H → Option (Unit × gb_H)} (hk27 : ∀ v0 v1 v2 v3 v5 v6 v7 h r, k27 v0 v1 v2 v3 v5 v6 v7 h = some r → gb_Ev X 5 mX11_runs 27 [some (.ref v0), some (.ref v1), some (.int v2), some (.int v3), none, some (.int v5), some (.int v6), some (.int v7)] [] h (gb_wV r)) (v0 : Nat) (v1 : Nat) (v2 : Int32) (v3 : Int32) (v5 : Int32) (v6 : Int32) (v7 : Int32) (h : gb_H) (r : Unit × gb_H) (hF : fbX11_runs_27 k27 v0 v1 v2 v3 v5 v6 v7 h = some r) : gb_Ev X 5 mX11_runs 27 [some (.ref v0), some (.ref v1), some (.int v2), some (.int v3), none, some (.int v5), some (.int v6), some (.int v7)] [] h (gb_wV r) := by
  unfold fbX11_runs_27 at hF
  refine gb_iload dX11_runs_27 rfl ?_
  refine gb_aload_n dX11_runs_29 rfl rfl ?_
  obtain ⟨g1, hF⟩ := gb_gdE hF
  refine gb_getI fX11_225 dX11_runs_30 (gb_kE g1) ?_
  refine gb_icmp_ge (tgt := 68) dX11_runs_33 (by decide) (fun c2 => ?_) (fun c2 => ?_)
  · replace hF := gb_ifT c2 hF
    refine gb_iconst (v := (0 : Int32)) dX11_runs_68 (by decide) ?_
    refine gb_istore (L' := [some (.ref v0), some (.ref v1), some (.int v2), some (.int v3), none, some (.int v5), some (.int v6), some (.int (0 : Int32))]) dX11_runs_69 (by decide) rfl rfl ?_
    exact gb_wk (lpX11_runs_71_ok gb_FU v0 v1 v2 v3 v6 (0 : Int32) h r hF) (And.intro rfl (And.intro rfl (And.intro rfl (And.intro rfl (And.intro rfl (And.intro rfl trivial))))))
  · replace hF := gb_ifF c2 hF
    refine gb_bipush (v := (16 : Int32)) dX11_runs_36 (by decide) ?_
    refine gb_iload dX11_runs_38 rfl ?_
    refine gb_imul dX11_runs_40 ?_
    refine gb_iload dX11_runs_41 rfl ?_
    refine gb_iconst (v := (-1 : Int32)) dX11_runs_43 (by decide) ?_
    refine gb_icmp_ne (tgt := 57) dX11_runs_44 (by decide) (fun c3 => ?_) (fun c3 => ?_)
    · replace hF := gb_ifF c3 hF
      refine gb_iload dX11_runs_57 rfl ?_
      exact gb_wk (fbX11_runs_59_ok hk27 v0 v1 v2 v3 v5 v7 ((16 : Int32) * v6) v5 h r hF) (And.intro rfl (And.intro rfl (And.intro rfl (And.intro rfl (And.intro rfl (And.intro rfl trivial))))))
    · replace hF := gb_ifT c3 hF
      refine gb_aload_n dX11_runs_47 rfl rfl ?_
      obtain ⟨g4, hF⟩ := gb_gdE hF
      obtain ⟨a5, ea5, hF⟩ := gb_rdE hF
      refine gb_getR fX11_7 dX11_runs_48 (gb_kE g4) ea5 ?_
      refine gb_iload dX11_runs_51 rfl ?_
      obtain ⟨g6, hF⟩ := gb_gdE hF
      obtain ⟨g7, hF⟩ := gb_gdE hF
      refine gb_iald dX11_runs_53 (gb_kE g6) (gb_inE g7) ?_
      refine gb_goto (tgt := 59) dX11_runs_54 (by decide) ?_
      exact gb_wk (fbX11_runs_59_ok hk27 v0 v1 v2 v3 v5 v7 ((16 : Int32) * v6) (gb_I h a5 v7.toNatClampNeg) h r hF) (And.intro rfl (And.intro rfl (And.intro rfl (And.intro rfl (And.intro rfl (And.intro rfl trivial))))))
def lpX11_runs_27 (n : Nat) (v0 : Nat) (v1 : Nat) (v2 : Int32) (v3 : Int32) (v5 : Int32) (v6 : Int32) (v7 : Int32) (h : gb_H) : Option (Unit × gb_H) := gb_lp (σ := Nat × Nat × Int32 × Int32 × Int32 × Int32 × Int32 × gb_H) (fun k s => fbX11_runs_27 (fun v0 v1 v2 v3 v5 v6 v7 h => k (v0, v1, v2, v3, v5, v6, v7, h)) s.1 s.2.1 s.2.2.1 s.2.2.2.1 s.2.2.2.2.1 s.2.2.2.2.2.1 s.2.2.2.2.2.2.1 s.2.2.2.2.2.2.2) n (v0, v1, v2, v3, v5, v6, v7, h)
theorem lpX11_runs_27_ok {X : gb_X}  (n : Nat) (v0 : Nat) (v1 : Nat) (v2 : Int32) (v3 : Int32) (v5 : Int32) (v6 : Int32) (v7 : Int32) (h : gb_H) (r : Unit × gb_H) (hF : lpX11_runs_27 n v0 v1 v2 v3 v5 v6 v7 h = some r) : gb_Ev X 5 mX11_runs 27 [some (.ref v0), some (.ref v1), some (.int v2), some (.int v3), none, some (.int v5), some (.int v6), some (.int v7)] [] h (gb_wV r) := by
  exact gb_lpE (σ := Nat × Nat × Int32 × Int32 × Int32 × Int32 × Int32 × gb_H) (P := fun s r => gb_Ev X 5 mX11_runs 27 [some (.ref s.1), some (.ref s.2.1), some (.int s.2.2.1), some (.int s.2.2.2.1), none, some (.int s.2.2.2.2.1), some (.int s.2.2.2.2.2.1), some (.int s.2.2.2.2.2.2.1)] [] s.2.2.2.2.2.2.2 (gb_wV r)) (fun k hk s r hs => fbX11_runs_27_ok (fun v0 v1 v2 v3 v5 v6 v7 h r e => hk (v0, v1, v2, v3, v5, v6, v7, h) r e) _ _ _ _ _ _ _ _ r hs) n (v0, v1, v2, v3, v5, v6, v7, h) r hF
def fnX11_runs (p0 : Nat) (p1 : Nat) (p2 : Int32) (p3 : Int32) (p4 : Int32) (p5 : Int32) (h : gb_H) : Option (Unit × gb_H) :=
  gb_gd (gb_k h p0 11) <|
  gb_lt (gb_sI h p0 23 p4) fun h2 =>
  gb_gd (gb_k h2 p0 11) <|
  gb_bd (fnX11_power (16 : Int64) (gb_I h2 p0 23) h2) fun x4 h5 =>
  gb_gd (gb_k h5 p0 11) <|
  gb_lt (gb_sI h5 p0 24 (x4.toInt32)) fun h7 =>
  lpX11_runs_27 gb_FU p0 p1 p2 p3 p5 (0 : Int32) (0 : Int32) h7
theorem fnX11_runs_ok {X : gb_X}  {p0 : Nat} {p1 : Nat} {p2 : Int32} {p3 : Int32} {p4 : Int32} {p5 : Int32} (h : gb_H) (r : Unit × gb_H) (hF : fnX11_runs p0 p1 p2 p3 p4 p5 h = some r) : gb_Ev X 5 mX11_runs 0 (gb_L0 [.ref p0, .ref p1, .int p2, .int p3, .int p4, .int p5]) [] h (gb_wV r) := by
  unfold fnX11_runs at hF
  refine gb_weak (L' := [some (.ref p0), some (.ref p1), some (.int p2), some (.int p3), some (.int p4), some (.int p5), none, none]) (And.intro rfl (And.intro rfl (And.intro rfl (And.intro rfl (And.intro rfl (And.intro rfl trivial)))))) ?_
  refine gb_aload_n dX11_runs_0 rfl rfl ?_
  refine gb_iload dX11_runs_1 rfl ?_
  obtain ⟨g1, hF⟩ := gb_gdE hF
  obtain ⟨h2, eh2, hF⟩ := gb_ltE hF
  refine gb_putI fX11_225 (gb_nff nf11_23) dX11_runs_3 (gb_kE g1) (fun _ => ⟨rfl, rfl⟩) (gb_hp eh2 ?_)
  refine gb_aload_n dX11_runs_6 rfl rfl ?_
  refine gb_ldc2 (v := (16 : Int64)) dX11_runs_7 kX11_228 ?_
  refine gb_aload_n dX11_runs_10 rfl rfl ?_
  obtain ⟨g3, hF⟩ := gb_gdE hF
  refine gb_getI fX11_225 dX11_runs_11 (gb_kE g3) ?_
  obtain ⟨x4, h5, cx4, hF⟩ := gb_bdE hF
  refine gb_cS (As := [.long (16 : Int64), .int (gb_I h2 p0 23)]) (S := [.ref p0]) (v := some (.long x4)) (h1 := h5) (S2 := [.long x4, .ref p0]) dX11_runs_14 mtX11_power lX11_218 stX11_power (fnX11_power_ok _ _ cx4) (by decide) rfl (Nat.le_of_ble_eq_true rfl) (Nat.le_of_ble_eq_true rfl) rfl rfl ?_
  refine gb_l2i dX11_runs_17 ?_
  obtain ⟨g6, hF⟩ := gb_gdE hF
  obtain ⟨h7, eh7, hF⟩ := gb_ltE hF
  refine gb_putI fX11_253 (gb_nff nf11_24) dX11_runs_18 (gb_kE g6) (fun _ => ⟨rfl, rfl⟩) (gb_hp eh7 ?_)
  refine gb_iconst (v := (0 : Int32)) dX11_runs_21 (by decide) ?_
  refine gb_istore (L' := [some (.ref p0), some (.ref p1), some (.int p2), some (.int p3), some (.int p4), some (.int p5), some (.int (0 : Int32)), none]) dX11_runs_22 (by decide) rfl rfl ?_
  refine gb_iconst (v := (0 : Int32)) dX11_runs_24 (by decide) ?_
  refine gb_istore (L' := [some (.ref p0), some (.ref p1), some (.int p2), some (.int p3), some (.int p4), some (.int p5), some (.int (0 : Int32)), some (.int (0 : Int32))]) dX11_runs_25 (by decide) rfl rfl ?_
  exact gb_wk (lpX11_runs_27_ok gb_FU p0 p1 p2 p3 p5 (0 : Int32) (0 : Int32) h7 r hF) (And.intro rfl (And.intro rfl (And.intro rfl (And.intro rfl (And.intro rfl (And.intro rfl (And.intro rfl trivial)))))))
def fbX11_way_39 (h : gb_H) : Option (Int32 × gb_H) :=
  some ((-2000000000 : Int32), h)
theorem fbX11_way_39_ok {X : gb_X} (h : gb_H) (r : Int32 × gb_H) (hF : fbX11_way_39 h = some r) : gb_Ev X 6 mX11_way 39 [none, none, none, none, none, none] [] h (gb_wI r) := by
  unfold fbX11_way_39 at hF
  refine gb_ldcw (v := (-2000000000 : Int32)) dX11_way_39 kX11_278 ?_
  cases hF
  exact gb_iret dX11_way_42 rfl
def fnX11_way (p0 : Nat) (p1 : Int32) (p2 : Int32) (p3 : Int32) (p4 : Int32) (h : gb_H) : Option (Int32 × gb_H) :=
  gb_bd (fnX11_in p1 (0 : Int32) (3 : Int32) h) fun x1 h2 =>
  if x1 = 0 then
    fbX11_way_39 h2
  else
    gb_bd (fnX11_in p2 (0 : Int32) (9 : Int32) h2) fun x4 h5 =>
    if x4 = 0 then
      fbX11_way_39 h5
    else
      gb_bd (fnX11_in p3 (0 : Int32) (9 : Int32) h5) fun x7 h8 =>
      if x7 = 0 then
        fbX11_way_39 h8
      else
        gb_bd (fnX11_in p4 (0 : Int32) (4 : Int32) h8) fun x10 h11 =>
        if x10 = 0 then
          fbX11_way_39 h11
        else
          gb_gd (gb_k h11 p0 11) <|
          gb_rd (gb_R h11 p0 3) fun a14 =>
          gb_gd (gb_k h11 p0 11) <|
          gb_rd (gb_R h11 p0 4) fun a16 =>
          gb_gd (gb_k h11 a16 20) <|
          gb_gd (gb_in h11 a16 p1) <|
          gb_bd (fnX11_deepOf a14 ((128 : Int32) * p1) (gb_I h11 a16 p1.toNatClampNeg) (1 : Int32) h11) fun x19 h20 =>
          if x19 ≤ (300000 : Int32) then
            if p4 = (4 : Int32) then
              some (x19, h20)
            else
              gb_gd (gb_k h20 p0 11) <|
              gb_rd (gb_R h20 p0 3) fun a24 =>
              gb_gd (gb_k h20 p0 11) <|
              gb_rd (gb_R h20 p0 4) fun a26 =>
              gb_gd (gb_k h20 a26 20) <|
              gb_gd (gb_in h20 a26 p1) <|
              gb_gd (gb_k h20 p0 11) <|
              gb_bd (fnX11_runs p0 a24 ((128 : Int32) * p1) (gb_I h20 a26 p1.toNatClampNeg) (1 : Int32) p2 h20) fun _ h31 =>
              gb_gd (gb_k h31 p0 11) <|
              gb_rd (gb_R h31 p0 20) fun a33 =>
              gb_lt (((4 : Int32) * p3) + p4) fun x34 =>
              gb_gd (gb_k h31 a33 23) <|
              gb_gd (gb_in h31 a33 x34) <|
              some ((gb_L h31 a33 x34.toNatClampNeg).toInt32, h31)
          else
            some ((-2000000000 : Int32), h20)
theorem fnX11_way_ok {X : gb_X}  {p0 : Nat} {p1 : Int32} {p2 : Int32} {p3 : Int32} {p4 : Int32} (h : gb_H) (r : Int32 × gb_H) (hF : fnX11_way p0 p1 p2 p3 p4 h = some r) : gb_Ev X 6 mX11_way 0 (gb_L0 [.ref p0, .int p1, .int p2, .int p3, .int p4]) [] h (gb_wI r) := by
  unfold fnX11_way at hF
  refine gb_weak (L' := [some (.ref p0), some (.int p1), some (.int p2), some (.int p3), some (.int p4), none]) (And.intro rfl (And.intro rfl (And.intro rfl (And.intro rfl (And.intro rfl trivial))))) ?_
  refine gb_iload_n dX11_way_0 rfl rfl ?_
  refine gb_iconst (v := (0 : Int32)) dX11_way_1 (by decide) ?_
  refine gb_iconst (v := (3 : Int32)) dX11_way_2 (by decide) ?_
  obtain ⟨x1, h2, cx1, hF⟩ := gb_bdE hF
  refine gb_cS (As := [.int p1, .int (0 : Int32), .int (3 : Int32)]) (S := []) (v := some (.int x1)) (h1 := h2) (S2 := [.int x1]) dX11_way_3 mtX11_in lX11_104 stX11_in (fnX11_in_ok _ _ cx1) (by decide) rfl (Nat.le_of_ble_eq_true rfl) (Nat.le_of_ble_eq_true rfl) rfl rfl ?_
  refine gb_if_eq (tgt := 39) dX11_way_6 (by decide) (fun c3 => ?_) (fun c3 => ?_)
  · replace hF := gb_ifT c3 hF
    exact gb_wk (fbX11_way_39_ok h2 r hF) trivial
  · replace hF := gb_ifF c3 hF
    refine gb_iload_n dX11_way_9 rfl rfl ?_
    refine gb_iconst (v := (0 : Int32)) dX11_way_10 (by decide) ?_
    refine gb_bipush (v := (9 : Int32)) dX11_way_11 (by decide) ?_
    obtain ⟨x4, h5, cx4, hF⟩ := gb_bdE hF
    refine gb_cS (As := [.int p2, .int (0 : Int32), .int (9 : Int32)]) (S := []) (v := some (.int x4)) (h1 := h5) (S2 := [.int x4]) dX11_way_13 mtX11_in lX11_104 stX11_in (fnX11_in_ok _ _ cx4) (by decide) rfl (Nat.le_of_ble_eq_true rfl) (Nat.le_of_ble_eq_true rfl) rfl rfl ?_
    refine gb_if_eq (tgt := 39) dX11_way_16 (by decide) (fun c6 => ?_) (fun c6 => ?_)
    · replace hF := gb_ifT c6 hF
      exact gb_wk (fbX11_way_39_ok h5 r hF) trivial
    · replace hF := gb_ifF c6 hF
      refine gb_iload_n dX11_way_19 rfl rfl ?_
      refine gb_iconst (v := (0 : Int32)) dX11_way_20 (by decide) ?_
      refine gb_bipush (v := (9 : Int32)) dX11_way_21 (by decide) ?_
      obtain ⟨x7, h8, cx7, hF⟩ := gb_bdE hF
      refine gb_cS (As := [.int p3, .int (0 : Int32), .int (9 : Int32)]) (S := []) (v := some (.int x7)) (h1 := h8) (S2 := [.int x7]) dX11_way_23 mtX11_in lX11_104 stX11_in (fnX11_in_ok _ _ cx7) (by decide) rfl (Nat.le_of_ble_eq_true rfl) (Nat.le_of_ble_eq_true rfl) rfl rfl ?_
      refine gb_if_eq (tgt := 39) dX11_way_26 (by decide) (fun c9 => ?_) (fun c9 => ?_)
      · replace hF := gb_ifT c9 hF
        exact gb_wk (fbX11_way_39_ok h8 r hF) trivial
      · replace hF := gb_ifF c9 hF
        refine gb_iload dX11_way_29 rfl ?_
        refine gb_iconst (v := (0 : Int32)) dX11_way_31 (by decide) ?_
        refine gb_iconst (v := (4 : Int32)) dX11_way_32 (by decide) ?_
        obtain ⟨x10, h11, cx10, hF⟩ := gb_bdE hF
        refine gb_cS (As := [.int p4, .int (0 : Int32), .int (4 : Int32)]) (S := []) (v := some (.int x10)) (h1 := h11) (S2 := [.int x10]) dX11_way_33 mtX11_in lX11_104 stX11_in (fnX11_in_ok _ _ cx10) (by decide) rfl (Nat.le_of_ble_eq_true rfl) (Nat.le_of_ble_eq_true rfl) rfl rfl ?_
        refine gb_if_ne (tgt := 43) dX11_way_36 (by decide) (fun c12 => ?_) (fun c12 => ?_)
        · replace hF := gb_ifF c12 hF
          refine gb_aload_n dX11_way_43 rfl rfl ?_
          obtain ⟨g13, hF⟩ := gb_gdE hF
          obtain ⟨a14, ea14, hF⟩ := gb_rdE hF
          refine gb_getR fX11_13 dX11_way_44 (gb_kE g13) ea14 ?_
          refine gb_sipush (v := (128 : Int32)) dX11_way_47 (by decide) ?_
          refine gb_iload_n dX11_way_50 rfl rfl ?_
          refine gb_imul dX11_way_51 ?_
          refine gb_aload_n dX11_way_52 rfl rfl ?_
          obtain ⟨g15, hF⟩ := gb_gdE hF
          obtain ⟨a16, ea16, hF⟩ := gb_rdE hF
          refine gb_getR fX11_16 dX11_way_53 (gb_kE g15) ea16 ?_
          refine gb_iload_n dX11_way_56 rfl rfl ?_
          obtain ⟨g17, hF⟩ := gb_gdE hF
          obtain ⟨g18, hF⟩ := gb_gdE hF
          refine gb_iald dX11_way_57 (gb_kE g17) (gb_inE g18) ?_
          refine gb_iconst (v := (1 : Int32)) dX11_way_58 (by decide) ?_
          obtain ⟨x19, h20, cx19, hF⟩ := gb_bdE hF
          refine gb_cS (As := [.ref a14, .int ((128 : Int32) * p1), .int (gb_I h11 a16 p1.toNatClampNeg), .int (1 : Int32)]) (S := []) (v := some (.int x19)) (h1 := h20) (S2 := [.int x19]) dX11_way_59 mtX11_deepOf lX11_274 stX11_deepOf (fnX11_deepOf_ok _ _ cx19) (by decide) rfl (Nat.le_of_ble_eq_true rfl) (Nat.le_of_ble_eq_true rfl) rfl rfl ?_
          refine gb_istore (L' := [some (.ref p0), some (.int p1), some (.int p2), some (.int p3), some (.int p4), some (.int x19)]) dX11_way_62 (by decide) rfl rfl ?_
          refine gb_iload dX11_way_64 rfl ?_
          refine gb_ldcw (v := (300000 : Int32)) dX11_way_66 kX11_279 ?_
          refine gb_icmp_le (tgt := 76) dX11_way_69 (by decide) (fun c21 => ?_) (fun c21 => ?_)
          · replace hF := gb_ifT c21 hF
            refine gb_iload dX11_way_76 rfl ?_
            refine gb_iconst (v := (4 : Int32)) dX11_way_78 (by decide) ?_
            refine gb_icmp_ne (tgt := 85) dX11_way_79 (by decide) (fun c22 => ?_) (fun c22 => ?_)
            · replace hF := gb_ifF c22 hF
              refine gb_aload_n dX11_way_85 rfl rfl ?_
              refine gb_aload_n dX11_way_86 rfl rfl ?_
              obtain ⟨g23, hF⟩ := gb_gdE hF
              obtain ⟨a24, ea24, hF⟩ := gb_rdE hF
              refine gb_getR fX11_13 dX11_way_87 (gb_kE g23) ea24 ?_
              refine gb_sipush (v := (128 : Int32)) dX11_way_90 (by decide) ?_
              refine gb_iload_n dX11_way_93 rfl rfl ?_
              refine gb_imul dX11_way_94 ?_
              refine gb_aload_n dX11_way_95 rfl rfl ?_
              obtain ⟨g25, hF⟩ := gb_gdE hF
              obtain ⟨a26, ea26, hF⟩ := gb_rdE hF
              refine gb_getR fX11_16 dX11_way_96 (gb_kE g25) ea26 ?_
              refine gb_iload_n dX11_way_99 rfl rfl ?_
              obtain ⟨g27, hF⟩ := gb_gdE hF
              obtain ⟨g28, hF⟩ := gb_gdE hF
              refine gb_iald dX11_way_100 (gb_kE g27) (gb_inE g28) ?_
              refine gb_iconst (v := (1 : Int32)) dX11_way_101 (by decide) ?_
              refine gb_iload_n dX11_way_102 rfl rfl ?_
              obtain ⟨g29, hF⟩ := gb_gdE hF
              obtain ⟨x30, h31, cx30, hF⟩ := gb_bdE hF
              refine gb_cV (As := [.ref a24, .int ((128 : Int32) * p1), .int (gb_I h20 a26 p1.toNatClampNeg), .int (1 : Int32), .int p2]) (S := []) (v := none) (h1 := h31) (S2 := []) cf11 dX11_way_103 mtX11_runs lX11_280 inX11_runs seX11_runs (gb_kE g29) (fnX11_runs_ok _ _ cx30) (by decide) rfl (Nat.le_of_ble_eq_true rfl) (Nat.le_of_ble_eq_true rfl) rfl rfl ?_
              refine gb_aload_n dX11_way_106 rfl rfl ?_
              obtain ⟨g32, hF⟩ := gb_gdE hF
              obtain ⟨a33, ea33, hF⟩ := gb_rdE hF
              refine gb_getR fX11_43 dX11_way_107 (gb_kE g32) ea33 ?_
              refine gb_iconst (v := (4 : Int32)) dX11_way_110 (by decide) ?_
              refine gb_iload_n dX11_way_111 rfl rfl ?_
              refine gb_imul dX11_way_112 ?_
              refine gb_iload dX11_way_113 rfl ?_
              refine gb_iadd dX11_way_115 ?_
              obtain ⟨x34, ex34, hF⟩ := gb_ltE hF
              refine gb_topI ex34 ?_
              obtain ⟨g35, hF⟩ := gb_gdE hF
              obtain ⟨g36, hF⟩ := gb_gdE hF
              refine gb_lald dX11_way_116 (gb_kE g35) (gb_inE g36) ?_
              refine gb_l2i dX11_way_117 ?_
              cases hF
              exact gb_iret dX11_way_118 rfl
            · replace hF := gb_ifT c22 hF
              refine gb_iload dX11_way_82 rfl ?_
              cases hF
              exact gb_iret dX11_way_84 rfl
          · replace hF := gb_ifF c21 hF
            refine gb_ldcw (v := (-2000000000 : Int32)) dX11_way_72 kX11_278 ?_
            cases hF
            exact gb_iret dX11_way_75 rfl
        · replace hF := gb_ifT c12 hF
          exact gb_wk (fbX11_way_39_ok h11 r hF) trivial
def fbX11_areCounts_51 (s0 : Int32) (h : gb_H) : Option (Int32 × gb_H) :=
  gb_gd (gb_b s0) <|
  some (s0, h)
theorem fbX11_areCounts_51_ok {X : gb_X} (s0 : Int32) (h : gb_H) (r : Int32 × gb_H) (hF : fbX11_areCounts_51 s0 h = some r) : gb_Ev X 2 mX11_areCounts 51 [none, none, none, none, none] [.int s0] h (gb_wI r) := by
  unfold fbX11_areCounts_51 at hF
  obtain ⟨g1, hF⟩ := gb_gdE hF
  cases hF
  exact gb_zret dX11_areCounts_51 rfl (gb_bE g1)
def fbX11_areCounts_50 (h : gb_H) : Option (Int32 × gb_H) :=
  fbX11_areCounts_51 (0 : Int32) h
theorem fbX11_areCounts_50_ok {X : gb_X} (h : gb_H) (r : Int32 × gb_H) (hF : fbX11_areCounts_50 h = some r) : gb_Ev X 2 mX11_areCounts 50 [none, none, none, none, none] [] h (gb_wI r) := by
  unfold fbX11_areCounts_50 at hF
  refine gb_iconst (v := (0 : Int32)) dX11_areCounts_50 (by decide) ?_
  exact gb_wk (fbX11_areCounts_51_ok (0 : Int32) h r hF) trivial
def fnX11_areCounts (p0 : Int32) (p1 : Int32) (p2 : Int32) (p3 : Int32) (p4 : Int32) (h : gb_H) : Option (Int32 × gb_H) :=
  gb_bd (fnX11_in p0 (0 : Int32) (3 : Int32) h) fun x1 h2 =>
  if x1 = 0 then
    fbX11_areCounts_50 h2
  else
    gb_bd (fnX11_in p1 (0 : Int32) (3 : Int32) h2) fun x4 h5 =>
    if x4 = 0 then
      fbX11_areCounts_50 h5
    else
      gb_bd (fnX11_in p2 (0 : Int32) (3 : Int32) h5) fun x7 h8 =>
      if x7 = 0 then
        fbX11_areCounts_50 h8
      else
        gb_bd (fnX11_in p3 (0 : Int32) (3 : Int32) h8) fun x10 h11 =>
        if x10 = 0 then
          fbX11_areCounts_50 h11
        else
          gb_bd (fnX11_in p4 (0 : Int32) (3 : Int32) h11) fun x13 h14 =>
          if x13 = 0 then
            fbX11_areCounts_50 h14
          else
            fbX11_areCounts_51 (1 : Int32) h14
theorem fnX11_areCounts_ok {X : gb_X}  {p0 : Int32} {p1 : Int32} {p2 : Int32} {p3 : Int32} {p4 : Int32} (h : gb_H) (r : Int32 × gb_H) (hF : fnX11_areCounts p0 p1 p2 p3 p4 h = some r) : gb_Ev X 2 mX11_areCounts 0 (gb_L0 [.int p0, .int p1, .int p2, .int p3, .int p4]) [] h (gb_wI r) := by
  unfold fnX11_areCounts at hF
  refine gb_weak (L' := [some (.int p0), some (.int p1), some (.int p2), some (.int p3), some (.int p4)]) (And.intro rfl (And.intro rfl (And.intro rfl (And.intro rfl (And.intro rfl trivial))))) ?_
  refine gb_iload_n dX11_areCounts_0 rfl rfl ?_
  refine gb_iconst (v := (0 : Int32)) dX11_areCounts_1 (by decide) ?_
  refine gb_iconst (v := (3 : Int32)) dX11_areCounts_2 (by decide) ?_
  obtain ⟨x1, h2, cx1, hF⟩ := gb_bdE hF
  refine gb_cS (As := [.int p0, .int (0 : Int32), .int (3 : Int32)]) (S := []) (v := some (.int x1)) (h1 := h2) (S2 := [.int x1]) dX11_areCounts_3 mtX11_in lX11_104 stX11_in (fnX11_in_ok _ _ cx1) (by decide) rfl (Nat.le_of_ble_eq_true rfl) (Nat.le_of_ble_eq_true rfl) rfl rfl ?_
  refine gb_if_eq (tgt := 50) dX11_areCounts_6 (by decide) (fun c3 => ?_) (fun c3 => ?_)
  · replace hF := gb_ifT c3 hF
    exact gb_wk (fbX11_areCounts_50_ok h2 r hF) trivial
  · replace hF := gb_ifF c3 hF
    refine gb_iload_n dX11_areCounts_9 rfl rfl ?_
    refine gb_iconst (v := (0 : Int32)) dX11_areCounts_10 (by decide) ?_
    refine gb_iconst (v := (3 : Int32)) dX11_areCounts_11 (by decide) ?_
    obtain ⟨x4, h5, cx4, hF⟩ := gb_bdE hF
    refine gb_cS (As := [.int p1, .int (0 : Int32), .int (3 : Int32)]) (S := []) (v := some (.int x4)) (h1 := h5) (S2 := [.int x4]) dX11_areCounts_12 mtX11_in lX11_104 stX11_in (fnX11_in_ok _ _ cx4) (by decide) rfl (Nat.le_of_ble_eq_true rfl) (Nat.le_of_ble_eq_true rfl) rfl rfl ?_
    refine gb_if_eq (tgt := 50) dX11_areCounts_15 (by decide) (fun c6 => ?_) (fun c6 => ?_)
    · replace hF := gb_ifT c6 hF
      exact gb_wk (fbX11_areCounts_50_ok h5 r hF) trivial
    · replace hF := gb_ifF c6 hF
      refine gb_iload_n dX11_areCounts_18 rfl rfl ?_
      refine gb_iconst (v := (0 : Int32)) dX11_areCounts_19 (by decide) ?_
      refine gb_iconst (v := (3 : Int32)) dX11_areCounts_20 (by decide) ?_
      obtain ⟨x7, h8, cx7, hF⟩ := gb_bdE hF
      refine gb_cS (As := [.int p2, .int (0 : Int32), .int (3 : Int32)]) (S := []) (v := some (.int x7)) (h1 := h8) (S2 := [.int x7]) dX11_areCounts_21 mtX11_in lX11_104 stX11_in (fnX11_in_ok _ _ cx7) (by decide) rfl (Nat.le_of_ble_eq_true rfl) (Nat.le_of_ble_eq_true rfl) rfl rfl ?_
      refine gb_if_eq (tgt := 50) dX11_areCounts_24 (by decide) (fun c9 => ?_) (fun c9 => ?_)
      · replace hF := gb_ifT c9 hF
        exact gb_wk (fbX11_areCounts_50_ok h8 r hF) trivial
      · replace hF := gb_ifF c9 hF
        refine gb_iload_n dX11_areCounts_27 rfl rfl ?_
        refine gb_iconst (v := (0 : Int32)) dX11_areCounts_28 (by decide) ?_
        refine gb_iconst (v := (3 : Int32)) dX11_areCounts_29 (by decide) ?_
        obtain ⟨x10, h11, cx10, hF⟩ := gb_bdE hF
        refine gb_cS (As := [.int p3, .int (0 : Int32), .int (3 : Int32)]) (S := []) (v := some (.int x10)) (h1 := h11) (S2 := [.int x10]) dX11_areCounts_30 mtX11_in lX11_104 stX11_in (fnX11_in_ok _ _ cx10) (by decide) rfl (Nat.le_of_ble_eq_true rfl) (Nat.le_of_ble_eq_true rfl) rfl rfl ?_
        refine gb_if_eq (tgt := 50) dX11_areCounts_33 (by decide) (fun c12 => ?_) (fun c12 => ?_)
        · replace hF := gb_ifT c12 hF
          exact gb_wk (fbX11_areCounts_50_ok h11 r hF) trivial
        · replace hF := gb_ifF c12 hF
          refine gb_iload dX11_areCounts_36 rfl ?_
          refine gb_iconst (v := (0 : Int32)) dX11_areCounts_38 (by decide) ?_
          refine gb_iconst (v := (3 : Int32)) dX11_areCounts_39 (by decide) ?_
          obtain ⟨x13, h14, cx13, hF⟩ := gb_bdE hF
          refine gb_cS (As := [.int p4, .int (0 : Int32), .int (3 : Int32)]) (S := []) (v := some (.int x13)) (h1 := h14) (S2 := [.int x13]) dX11_areCounts_40 mtX11_in lX11_104 stX11_in (fnX11_in_ok _ _ cx13) (by decide) rfl (Nat.le_of_ble_eq_true rfl) (Nat.le_of_ble_eq_true rfl) rfl rfl ?_
          refine gb_if_eq (tgt := 50) dX11_areCounts_43 (by decide) (fun c15 => ?_) (fun c15 => ?_)
          · replace hF := gb_ifT c15 hF
            exact gb_wk (fbX11_areCounts_50_ok h14 r hF) trivial
          · replace hF := gb_ifF c15 hF
            refine gb_iconst (v := (1 : Int32)) dX11_areCounts_46 (by decide) ?_
            refine gb_goto (tgt := 51) dX11_areCounts_47 (by decide) ?_
            exact gb_wk (fbX11_areCounts_51_ok (1 : Int32) h14 r hF) trivial
def fbX11_times_23 (s0 : Int64) (h : gb_H) : Option (Int64 × gb_H) :=
  some (s0, h)
theorem fbX11_times_23_ok {X : gb_X} (s0 : Int64) (h : gb_H) (r : Int64 × gb_H) (hF : fbX11_times_23 s0 h = some r) : gb_Ev X 1 mX11_times 23 [none] [.long s0] h (gb_wJ r) := by
  unfold fbX11_times_23 at hF
  cases hF
  exact gb_lret dX11_times_23 rfl
def fnX11_times (p0 : Int32) (h : gb_H) : Option (Int64 × gb_H) :=
  if (2 : Int32) ≤ p0 then
    if p0 = (2 : Int32) then
      fbX11_times_23 (2 : Int64) h
    else
      fbX11_times_23 (6 : Int64) h
  else
    fbX11_times_23 (1 : Int64) h
theorem fnX11_times_ok {X : gb_X}  {p0 : Int32} (h : gb_H) (r : Int64 × gb_H) (hF : fnX11_times p0 h = some r) : gb_Ev X 1 mX11_times 0 (gb_L0 [.int p0]) [] h (gb_wJ r) := by
  unfold fnX11_times at hF
  refine gb_weak (L' := [some (.int p0)]) (And.intro rfl trivial) ?_
  refine gb_iload_n dX11_times_0 rfl rfl ?_
  refine gb_iconst (v := (2 : Int32)) dX11_times_1 (by decide) ?_
  refine gb_icmp_ge (tgt := 9) dX11_times_2 (by decide) (fun c1 => ?_) (fun c1 => ?_)
  · replace hF := gb_ifT c1 hF
    refine gb_iload_n dX11_times_9 rfl rfl ?_
    refine gb_iconst (v := (2 : Int32)) dX11_times_10 (by decide) ?_
    refine gb_icmp_ne (tgt := 20) dX11_times_11 (by decide) (fun c2 => ?_) (fun c2 => ?_)
    · replace hF := gb_ifF c2 hF
      refine gb_ldc2 (v := (6 : Int64)) dX11_times_20 kX11_284 ?_
      exact gb_wk (fbX11_times_23_ok (6 : Int64) h r hF) trivial
    · replace hF := gb_ifT c2 hF
      refine gb_ldc2 (v := (2 : Int64)) dX11_times_14 kX11_247 ?_
      refine gb_goto (tgt := 23) dX11_times_17 (by decide) ?_
      exact gb_wk (fbX11_times_23_ok (2 : Int64) h r hF) trivial
  · replace hF := gb_ifF c1 hF
    refine gb_lconst (v := (1 : Int64)) dX11_times_5 (by decide) ?_
    refine gb_goto (tgt := 23) dX11_times_6 (by decide) ?_
    exact gb_wk (fbX11_times_23_ok (1 : Int64) h r hF) trivial
def fbX11_factorials_46 (k5 : Nat → Int32 → Int64 → Int32 → gb_H → Option (Int64 × gb_H)) (k18 : Nat → Int32 → Int64 → Int32 → Int32 → Int32 → gb_H → Option (Int64 × gb_H)) (v0 : Nat) (v1 : Int32) (v2 : Int64) (v4 : Int32) (v6 : Int32) (s0 : Int32) (s1 : Int32) (h : gb_H) : Option (Int64 × gb_H) :=
  gb_lt (s0 + s1) fun x1 =>
  gb_lt (v6 + (1 : Int32)) fun x2 =>
  k18 v0 v1 v2 v4 x1 x2 h
theorem fbX11_factorials_46_ok {X : gb_X} {k5 : Nat → Int32 → Int64 → Int32 → gb_H → Option (Int64 × gb_H)} {k18 : Nat → Int32 → Int64 → Int32 → Int32 → Int32 → gb_H → Option (Int64 × gb_H)} (hk5 : ∀ v0 v1 v2 v4 h r, k5 v0 v1 v2 v4 h = some r → gb_Ev X 2 mX11_factorials 5 [some (.ref v0), some (.int v1), some (.long v2), none, some (.int v4), none, none] [] h (gb_wJ r)) (hk18 : ∀ v0 v1 v2 v4 v5 v6 h r, k18 v0 v1 v2 v4 v5 v6 h = some r → gb_Ev X 2 mX11_factorials 18 [some (.ref v0), some (.int v1), some (.long v2), none, some (.int v4), some (.int v5), some (.int v6)] [] h (gb_wJ r)) (v0 : Nat) (v1 : Int32) (v2 : Int64) (v4 : Int32) (v6 : Int32) (s0 : Int32) (s1 : Int32) (h : gb_H) (r : Int64 × gb_H) (hF : fbX11_factorials_46 k5 k18 v0 v1 v2 v4 v6 s0 s1 h = some r) : gb_Ev X 2 mX11_factorials 46 [some (.ref v0), some (.int v1), some (.long v2), none, some (.int v4), none, some (.int v6)] [.int s1, .int s0] h (gb_wJ r) := by
  unfold fbX11_factorials_46 at hF
  refine gb_iadd dX11_factorials_46 ?_
  obtain ⟨x1, ex1, hF⟩ := gb_ltE hF
  refine gb_topI ex1 ?_
  refine gb_istore (L' := [some (.ref v0), some (.int v1), some (.long v2), none, some (.int v4), some (.int x1), some (.int v6)]) dX11_factorials_47 (by decide) rfl rfl ?_
  obtain ⟨x2, ex2, hF⟩ := gb_ltE hF
  refine gb_iinc (v := x2) (L' := [some (.ref v0), some (.int v1), some (.long v2), none, some (.int v4), some (.int x1), some (.int x2)]) dX11_factorials_49 rfl (by rw [ex2]; rfl) (by decide) rfl rfl ?_
  refine gb_goto (tgt := 18) dX11_factorials_52 (by decide) ?_
  exact gb_wk (hk18 v0 v1 v2 v4 x1 x2 h r hF) (And.intro rfl (And.intro rfl (And.intro rfl (And.intro rfl (And.intro rfl (And.intro rfl trivial))))))
def fbX11_factorials_18 (k5 : Nat → Int32 → Int64 → Int32 → gb_H → Option (Int64 × gb_H)) (k18 : Nat → Int32 → Int64 → Int32 → Int32 → Int32 → gb_H → Option (Int64 × gb_H)) (v0 : Nat) (v1 : Int32) (v2 : Int64) (v4 : Int32) (v5 : Int32) (v6 : Int32) (h : gb_H) : Option (Int64 × gb_H) :=
  gb_gd (gb_k h v0 11) <|
  if (gb_I h v0 23) ≤ v6 then
    gb_bd (fnX11_times v5 h) fun x3 h4 =>
    gb_lt (v2 * x3) fun x5 =>
    gb_lt (v4 + (1 : Int32)) fun x6 =>
    k5 v0 v1 x5 x6 h4
  else
    gb_gd (gb_k h v0 11) <|
    gb_bd (fnX11_modeAt v0 v1 v6 h) fun x8 h9 =>
    if x8 = v4 then
      fbX11_factorials_46 k5 k18 v0 v1 v2 v4 v6 v5 (1 : Int32) h9
    else
      fbX11_factorials_46 k5 k18 v0 v1 v2 v4 v6 v5 (0 : Int32) h9
theorem fbX11_factorials_18_ok {X : gb_X} {k5 : Nat → Int32 → Int64 → Int32 → gb_H → Option (Int64 × gb_H)} {k18 : Nat → Int32 → Int64 → Int32 → Int32 → Int32 → gb_H → Option (Int64 × gb_H)} (hk5 : ∀ v0 v1 v2 v4 h r, k5 v0 v1 v2 v4 h = some r → gb_Ev X 2 mX11_factorials 5 [some (.ref v0), some (.int v1), some (.long v2), none, some (.int v4), none, none] [] h (gb_wJ r)) (hk18 : ∀ v0 v1 v2 v4 v5 v6 h r, k18 v0 v1 v2 v4 v5 v6 h = some r → gb_Ev X 2 mX11_factorials 18 [some (.ref v0), some (.int v1), some (.long v2), none, some (.int v4), some (.int v5), some (.int v6)] [] h (gb_wJ r)) (v0 : Nat) (v1 : Int32) (v2 : Int64) (v4 : Int32) (v5 : Int32) (v6 : Int32) (h : gb_H) (r : Int64 × gb_H) (hF : fbX11_factorials_18 k5 k18 v0 v1 v2 v4 v5 v6 h = some r) : gb_Ev X 2 mX11_factorials 18 [some (.ref v0), some (.int v1), some (.long v2), none, some (.int v4), some (.int v5), some (.int v6)] [] h (gb_wJ r) := by
  unfold fbX11_factorials_18 at hF
  refine gb_iload dX11_factorials_18 rfl ?_
  refine gb_aload_n dX11_factorials_20 rfl rfl ?_
  obtain ⟨g1, hF⟩ := gb_gdE hF
  refine gb_getI fX11_225 dX11_factorials_21 (gb_kE g1) ?_
  refine gb_icmp_ge (tgt := 55) dX11_factorials_24 (by decide) (fun c2 => ?_) (fun c2 => ?_)
  · replace hF := gb_ifT c2 hF
    refine gb_lload_n dX11_factorials_55 rfl rfl ?_
    refine gb_iload dX11_factorials_56 rfl ?_
    obtain ⟨x3, h4, cx3, hF⟩ := gb_bdE hF
    refine gb_cS (As := [.int v5]) (S := [.long v2]) (v := some (.long x3)) (h1 := h4) (S2 := [.long x3, .long v2]) dX11_factorials_58 mtX11_times lX11_286 stX11_times (fnX11_times_ok _ _ cx3) (by decide) rfl (Nat.le_of_ble_eq_true rfl) (Nat.le_of_ble_eq_true rfl) rfl rfl ?_
    refine gb_lmul dX11_factorials_61 ?_
    obtain ⟨x5, ex5, hF⟩ := gb_ltE hF
    refine gb_topJ ex5 ?_
    refine gb_lstore_n (L' := [some (.ref v0), some (.int v1), some (.long x5), none, some (.int v4), some (.int v5), some (.int v6)]) dX11_factorials_62 rfl (by decide) rfl rfl ?_
    obtain ⟨x6, ex6, hF⟩ := gb_ltE hF
    refine gb_iinc (v := x6) (L' := [some (.ref v0), some (.int v1), some (.long x5), none, some (.int x6), some (.int v5), some (.int v6)]) dX11_factorials_63 rfl (by rw [ex6]; rfl) (by decide) rfl rfl ?_
    refine gb_goto (tgt := 5) dX11_factorials_66 (by decide) ?_
    exact gb_wk (hk5 v0 v1 x5 x6 h4 r hF) (And.intro rfl (And.intro rfl (And.intro rfl (And.intro rfl trivial))))
  · replace hF := gb_ifF c2 hF
    refine gb_iload dX11_factorials_27 rfl ?_
    refine gb_aload_n dX11_factorials_29 rfl rfl ?_
    refine gb_iload_n dX11_factorials_30 rfl rfl ?_
    refine gb_iload dX11_factorials_31 rfl ?_
    obtain ⟨g7, hF⟩ := gb_gdE hF
    obtain ⟨x8, h9, cx8, hF⟩ := gb_bdE hF
    refine gb_cV (As := [.int v1, .int v6]) (S := [.int v5]) (v := some (.int x8)) (h1 := h9) (S2 := [.int x8, .int v5]) cf11 dX11_factorials_33 mtX11_modeAt lX11_249 inX11_modeAt seX11_modeAt (gb_kE g7) (fnX11_modeAt_ok _ _ cx8) (by decide) rfl (Nat.le_of_ble_eq_true rfl) (Nat.le_of_ble_eq_true rfl) rfl rfl ?_
    refine gb_iload dX11_factorials_36 rfl ?_
    refine gb_icmp_ne (tgt := 45) dX11_factorials_38 (by decide) (fun c10 => ?_) (fun c10 => ?_)
    · replace hF := gb_ifF c10 hF
      refine gb_iconst (v := (0 : Int32)) dX11_factorials_45 (by decide) ?_
      exact gb_wk (fbX11_factorials_46_ok hk5 hk18 v0 v1 v2 v4 v6 v5 (0 : Int32) h9 r hF) (And.intro rfl (And.intro rfl (And.intro rfl (And.intro rfl (And.intro rfl trivial)))))
    · replace hF := gb_ifT c10 hF
      refine gb_iconst (v := (1 : Int32)) dX11_factorials_41 (by decide) ?_
      refine gb_goto (tgt := 46) dX11_factorials_42 (by decide) ?_
      exact gb_wk (fbX11_factorials_46_ok hk5 hk18 v0 v1 v2 v4 v6 v5 (1 : Int32) h9 r hF) (And.intro rfl (And.intro rfl (And.intro rfl (And.intro rfl (And.intro rfl trivial)))))
def lpX11_factorials_18 (k5 : Nat → Int32 → Int64 → Int32 → gb_H → Option (Int64 × gb_H)) (n : Nat) (v0 : Nat) (v1 : Int32) (v2 : Int64) (v4 : Int32) (v5 : Int32) (v6 : Int32) (h : gb_H) : Option (Int64 × gb_H) := gb_lp (σ := Nat × Int32 × Int64 × Int32 × Int32 × Int32 × gb_H) (fun k s => fbX11_factorials_18 k5 (fun v0 v1 v2 v4 v5 v6 h => k (v0, v1, v2, v4, v5, v6, h)) s.1 s.2.1 s.2.2.1 s.2.2.2.1 s.2.2.2.2.1 s.2.2.2.2.2.1 s.2.2.2.2.2.2) n (v0, v1, v2, v4, v5, v6, h)
theorem lpX11_factorials_18_ok {X : gb_X}  {k5 : Nat → Int32 → Int64 → Int32 → gb_H → Option (Int64 × gb_H)} (hk5 : ∀ v0 v1 v2 v4 h r, k5 v0 v1 v2 v4 h = some r → gb_Ev X 2 mX11_factorials 5 [some (.ref v0), some (.int v1), some (.long v2), none, some (.int v4), none, none] [] h (gb_wJ r)) (n : Nat) (v0 : Nat) (v1 : Int32) (v2 : Int64) (v4 : Int32) (v5 : Int32) (v6 : Int32) (h : gb_H) (r : Int64 × gb_H) (hF : lpX11_factorials_18 k5 n v0 v1 v2 v4 v5 v6 h = some r) : gb_Ev X 2 mX11_factorials 18 [some (.ref v0), some (.int v1), some (.long v2), none, some (.int v4), some (.int v5), some (.int v6)] [] h (gb_wJ r) := by
  exact gb_lpE (σ := Nat × Int32 × Int64 × Int32 × Int32 × Int32 × gb_H) (P := fun s r => gb_Ev X 2 mX11_factorials 18 [some (.ref s.1), some (.int s.2.1), some (.long s.2.2.1), none, some (.int s.2.2.2.1), some (.int s.2.2.2.2.1), some (.int s.2.2.2.2.2.1)] [] s.2.2.2.2.2.2 (gb_wJ r)) (fun k hk s r hs => fbX11_factorials_18_ok hk5 (fun v0 v1 v2 v4 v5 v6 h r e => hk (v0, v1, v2, v4, v5, v6, h) r e) _ _ _ _ _ _ _ r hs) n (v0, v1, v2, v4, v5, v6, h) r hF
def fbX11_factorials_5 (k5 : Nat → Int32 → Int64 → Int32 → gb_H → Option (Int64 × gb_H)) (v0 : Nat) (v1 : Int32) (v2 : Int64) (v4 : Int32) (h : gb_H) : Option (Int64 × gb_H) :=
  if (16 : Int32) ≤ v4 then
    some (v2, h)
  else
    lpX11_factorials_18 k5 gb_FU v0 v1 v2 v4 (0 : Int32) (0 : Int32) h
theorem fbX11_factorials_5_ok {X : gb_X} {k5 : Nat → Int32 → Int64 → Int32 → gb_H → Option (Int64 × gb_H)} (hk5 : ∀ v0 v1 v2 v4 h r, k5 v0 v1 v2 v4 h = some r → gb_Ev X 2 mX11_factorials 5 [some (.ref v0), some (.int v1), some (.long v2), none, some (.int v4), none, none] [] h (gb_wJ r)) (v0 : Nat) (v1 : Int32) (v2 : Int64) (v4 : Int32) (h : gb_H) (r : Int64 × gb_H) (hF : fbX11_factorials_5 k5 v0 v1 v2 v4 h = some r) : gb_Ev X 2 mX11_factorials 5 [some (.ref v0), some (.int v1), some (.long v2), none, some (.int v4), none, none] [] h (gb_wJ r) := by
  unfold fbX11_factorials_5 at hF
  refine gb_iload dX11_factorials_5 rfl ?_
  refine gb_bipush (v := (16 : Int32)) dX11_factorials_7 (by decide) ?_
  refine gb_icmp_ge (tgt := 69) dX11_factorials_9 (by decide) (fun c1 => ?_) (fun c1 => ?_)
  · replace hF := gb_ifT c1 hF
    refine gb_lload_n dX11_factorials_69 rfl rfl ?_
    cases hF
    exact gb_lret dX11_factorials_70 rfl
  · replace hF := gb_ifF c1 hF
    refine gb_iconst (v := (0 : Int32)) dX11_factorials_12 (by decide) ?_
    refine gb_istore (L' := [some (.ref v0), some (.int v1), some (.long v2), none, some (.int v4), some (.int (0 : Int32)), none]) dX11_factorials_13 (by decide) rfl rfl ?_
    refine gb_iconst (v := (0 : Int32)) dX11_factorials_15 (by decide) ?_
    refine gb_istore (L' := [some (.ref v0), some (.int v1), some (.long v2), none, some (.int v4), some (.int (0 : Int32)), some (.int (0 : Int32))]) dX11_factorials_16 (by decide) rfl rfl ?_
    exact gb_wk (lpX11_factorials_18_ok hk5 gb_FU v0 v1 v2 v4 (0 : Int32) (0 : Int32) h r hF) (And.intro rfl (And.intro rfl (And.intro rfl (And.intro rfl (And.intro rfl (And.intro rfl trivial))))))
def lpX11_factorials_5 (n : Nat) (v0 : Nat) (v1 : Int32) (v2 : Int64) (v4 : Int32) (h : gb_H) : Option (Int64 × gb_H) := gb_lp (σ := Nat × Int32 × Int64 × Int32 × gb_H) (fun k s => fbX11_factorials_5 (fun v0 v1 v2 v4 h => k (v0, v1, v2, v4, h)) s.1 s.2.1 s.2.2.1 s.2.2.2.1 s.2.2.2.2) n (v0, v1, v2, v4, h)
theorem lpX11_factorials_5_ok {X : gb_X}  (n : Nat) (v0 : Nat) (v1 : Int32) (v2 : Int64) (v4 : Int32) (h : gb_H) (r : Int64 × gb_H) (hF : lpX11_factorials_5 n v0 v1 v2 v4 h = some r) : gb_Ev X 2 mX11_factorials 5 [some (.ref v0), some (.int v1), some (.long v2), none, some (.int v4), none, none] [] h (gb_wJ r) := by
  exact gb_lpE (σ := Nat × Int32 × Int64 × Int32 × gb_H) (P := fun s r => gb_Ev X 2 mX11_factorials 5 [some (.ref s.1), some (.int s.2.1), some (.long s.2.2.1), none, some (.int s.2.2.2.1), none, none] [] s.2.2.2.2 (gb_wJ r)) (fun k hk s r hs => fbX11_factorials_5_ok (fun v0 v1 v2 v4 h r e => hk (v0, v1, v2, v4, h) r e) _ _ _ _ _ r hs) n (v0, v1, v2, v4, h) r hF
def fnX11_factorials (p0 : Nat) (p1 : Int32) (h : gb_H) : Option (Int64 × gb_H) :=
  lpX11_factorials_5 gb_FU p0 p1 (1 : Int64) (0 : Int32) h
theorem fnX11_factorials_ok {X : gb_X}  {p0 : Nat} {p1 : Int32} (h : gb_H) (r : Int64 × gb_H) (hF : fnX11_factorials p0 p1 h = some r) : gb_Ev X 2 mX11_factorials 0 (gb_L0 [.ref p0, .int p1]) [] h (gb_wJ r) := by
  unfold fnX11_factorials at hF
  refine gb_weak (L' := [some (.ref p0), some (.int p1), none, none, none, none, none]) (And.intro rfl (And.intro rfl trivial)) ?_
  refine gb_lconst (v := (1 : Int64)) dX11_factorials_0 (by decide) ?_
  refine gb_lstore_n (L' := [some (.ref p0), some (.int p1), some (.long (1 : Int64)), none, none, none, none]) dX11_factorials_1 rfl (by decide) rfl rfl ?_
  refine gb_iconst (v := (0 : Int32)) dX11_factorials_2 (by decide) ?_
  refine gb_istore (L' := [some (.ref p0), some (.int p1), some (.long (1 : Int64)), none, some (.int (0 : Int32)), none, none]) dX11_factorials_3 (by decide) rfl rfl ?_
  exact gb_wk (lpX11_factorials_5_ok gb_FU p0 p1 (1 : Int64) (0 : Int32) h r hF) (And.intro rfl (And.intro rfl (And.intro rfl (And.intro rfl trivial))))
def fbX11_isSorted_2 (k2 : Nat → Int32 → Int32 → gb_H → Option (Int32 × gb_H)) (v0 : Nat) (v1 : Int32) (v2 : Int32) (h : gb_H) : Option (Int32 × gb_H) :=
  gb_gd (gb_k h v0 11) <|
  if (gb_I h v0 23) ≤ v2 then
    some ((1 : Int32), h)
  else
    gb_gd (gb_k h v0 11) <|
    gb_bd (fnX11_modeAt v0 v1 v2 h) fun x4 h5 =>
    gb_gd (gb_k h5 v0 11) <|
    gb_bd (fnX11_modeAt v0 v1 (v2 - (1 : Int32)) h5) fun x7 h8 =>
    if x7 ≤ x4 then
      gb_lt (v2 + (1 : Int32)) fun x10 =>
      k2 v0 v1 x10 h8
    else
      some ((0 : Int32), h8)
theorem fbX11_isSorted_2_ok {X : gb_X} {k2 : Nat → Int32 → Int32 → gb_H → Option (Int32 × gb_H)} (hk2 : ∀ v0 v1 v2 h r, k2 v0 v1 v2 h = some r → gb_Ev X 2 mX11_isSorted 2 [some (.ref v0), some (.int v1), some (.int v2)] [] h (gb_wI r)) (v0 : Nat) (v1 : Int32) (v2 : Int32) (h : gb_H) (r : Int32 × gb_H) (hF : fbX11_isSorted_2 k2 v0 v1 v2 h = some r) : gb_Ev X 2 mX11_isSorted 2 [some (.ref v0), some (.int v1), some (.int v2)] [] h (gb_wI r) := by
  unfold fbX11_isSorted_2 at hF
  refine gb_iload_n dX11_isSorted_2 rfl rfl ?_
  refine gb_aload_n dX11_isSorted_3 rfl rfl ?_
  obtain ⟨g1, hF⟩ := gb_gdE hF
  refine gb_getI fX11_225 dX11_isSorted_4 (gb_kE g1) ?_
  refine gb_icmp_ge (tgt := 35) dX11_isSorted_7 (by decide) (fun c2 => ?_) (fun c2 => ?_)
  · replace hF := gb_ifT c2 hF
    refine gb_iconst (v := (1 : Int32)) dX11_isSorted_35 (by decide) ?_
    cases hF
    exact gb_zret dX11_isSorted_36 rfl (by decide)
  · replace hF := gb_ifF c2 hF
    refine gb_aload_n dX11_isSorted_10 rfl rfl ?_
    refine gb_iload_n dX11_isSorted_11 rfl rfl ?_
    refine gb_iload_n dX11_isSorted_12 rfl rfl ?_
    obtain ⟨g3, hF⟩ := gb_gdE hF
    obtain ⟨x4, h5, cx4, hF⟩ := gb_bdE hF
    refine gb_cV (As := [.int v1, .int v2]) (S := []) (v := some (.int x4)) (h1 := h5) (S2 := [.int x4]) cf11 dX11_isSorted_13 mtX11_modeAt lX11_249 inX11_modeAt seX11_modeAt (gb_kE g3) (fnX11_modeAt_ok _ _ cx4) (by decide) rfl (Nat.le_of_ble_eq_true rfl) (Nat.le_of_ble_eq_true rfl) rfl rfl ?_
    refine gb_aload_n dX11_isSorted_16 rfl rfl ?_
    refine gb_iload_n dX11_isSorted_17 rfl rfl ?_
    refine gb_iload_n dX11_isSorted_18 rfl rfl ?_
    refine gb_iconst (v := (1 : Int32)) dX11_isSorted_19 (by decide) ?_
    refine gb_isub dX11_isSorted_20 ?_
    obtain ⟨g6, hF⟩ := gb_gdE hF
    obtain ⟨x7, h8, cx7, hF⟩ := gb_bdE hF
    refine gb_cV (As := [.int v1, .int (v2 - (1 : Int32))]) (S := [.int x4]) (v := some (.int x7)) (h1 := h8) (S2 := [.int x7, .int x4]) cf11 dX11_isSorted_21 mtX11_modeAt lX11_249 inX11_modeAt seX11_modeAt (gb_kE g6) (fnX11_modeAt_ok _ _ cx7) (by decide) rfl (Nat.le_of_ble_eq_true rfl) (Nat.le_of_ble_eq_true rfl) rfl rfl ?_
    refine gb_icmp_ge (tgt := 29) dX11_isSorted_24 (by decide) (fun c9 => ?_) (fun c9 => ?_)
    · replace hF := gb_ifT c9 hF
      obtain ⟨x10, ex10, hF⟩ := gb_ltE hF
      refine gb_iinc (v := x10) (L' := [some (.ref v0), some (.int v1), some (.int x10)]) dX11_isSorted_29 rfl (by rw [ex10]; rfl) (by decide) rfl rfl ?_
      refine gb_goto (tgt := 2) dX11_isSorted_32 (by decide) ?_
      exact gb_wk (hk2 v0 v1 x10 h8 r hF) (And.intro rfl (And.intro rfl (And.intro rfl trivial)))
    · replace hF := gb_ifF c9 hF
      refine gb_iconst (v := (0 : Int32)) dX11_isSorted_27 (by decide) ?_
      cases hF
      exact gb_zret dX11_isSorted_28 rfl (by decide)
def lpX11_isSorted_2 (n : Nat) (v0 : Nat) (v1 : Int32) (v2 : Int32) (h : gb_H) : Option (Int32 × gb_H) := gb_lp (σ := Nat × Int32 × Int32 × gb_H) (fun k s => fbX11_isSorted_2 (fun v0 v1 v2 h => k (v0, v1, v2, h)) s.1 s.2.1 s.2.2.1 s.2.2.2) n (v0, v1, v2, h)
theorem lpX11_isSorted_2_ok {X : gb_X}  (n : Nat) (v0 : Nat) (v1 : Int32) (v2 : Int32) (h : gb_H) (r : Int32 × gb_H) (hF : lpX11_isSorted_2 n v0 v1 v2 h = some r) : gb_Ev X 2 mX11_isSorted 2 [some (.ref v0), some (.int v1), some (.int v2)] [] h (gb_wI r) := by
  exact gb_lpE (σ := Nat × Int32 × Int32 × gb_H) (P := fun s r => gb_Ev X 2 mX11_isSorted 2 [some (.ref s.1), some (.int s.2.1), some (.int s.2.2.1)] [] s.2.2.2 (gb_wI r)) (fun k hk s r hs => fbX11_isSorted_2_ok (fun v0 v1 v2 h r e => hk (v0, v1, v2, h) r e) _ _ _ _ r hs) n (v0, v1, v2, h) r hF
def fnX11_isSorted (p0 : Nat) (p1 : Int32) (h : gb_H) : Option (Int32 × gb_H) :=
  lpX11_isSorted_2 gb_FU p0 p1 (1 : Int32) h
theorem fnX11_isSorted_ok {X : gb_X}  {p0 : Nat} {p1 : Int32} (h : gb_H) (r : Int32 × gb_H) (hF : fnX11_isSorted p0 p1 h = some r) : gb_Ev X 2 mX11_isSorted 0 (gb_L0 [.ref p0, .int p1]) [] h (gb_wI r) := by
  unfold fnX11_isSorted at hF
  refine gb_weak (L' := [some (.ref p0), some (.int p1), none]) (And.intro rfl (And.intro rfl trivial)) ?_
  refine gb_iconst (v := (1 : Int32)) dX11_isSorted_0 (by decide) ?_
  refine gb_istore_n (L' := [some (.ref p0), some (.int p1), some (.int (1 : Int32))]) dX11_isSorted_1 rfl (by decide) rfl rfl ?_
  exact gb_wk (lpX11_isSorted_2_ok gb_FU p0 p1 (1 : Int32) h r hF) (And.intro rfl (And.intro rfl (And.intro rfl trivial)))
def fnX11_changed (p0 : Nat) (p1 : Int32) (p2 : Int32) (p3 : Int32) (h : gb_H) : Option (Int32 × gb_H) :=
  gb_gd (gb_k h p0 11) <|
  gb_bd (fnX11_modeAt p0 p1 p2 h) fun x2 h3 =>
  gb_gd (gb_k h3 p0 11) <|
  gb_bd (fnX11_modeAt p0 p1 p3 h3) fun x5 h6 =>
  gb_gd (gb_k h6 p0 11) <|
  gb_bd (fnX11_placeAt p0 p2 h6) fun x8 h9 =>
  gb_gd (gb_k h9 p0 11) <|
  gb_bd (fnX11_placeAt p0 p3 h9) fun x11 h12 =>
  some ((p1 + ((x5 - x2) * x8)) + ((x2 - x5) * x11), h12)
theorem fnX11_changed_ok {X : gb_X}  {p0 : Nat} {p1 : Int32} {p2 : Int32} {p3 : Int32} (h : gb_H) (r : Int32 × gb_H) (hF : fnX11_changed p0 p1 p2 p3 h = some r) : gb_Ev X 3 mX11_changed 0 (gb_L0 [.ref p0, .int p1, .int p2, .int p3]) [] h (gb_wI r) := by
  unfold fnX11_changed at hF
  refine gb_weak (L' := [some (.ref p0), some (.int p1), some (.int p2), some (.int p3), none, none]) (And.intro rfl (And.intro rfl (And.intro rfl (And.intro rfl trivial)))) ?_
  refine gb_aload_n dX11_changed_0 rfl rfl ?_
  refine gb_iload_n dX11_changed_1 rfl rfl ?_
  refine gb_iload_n dX11_changed_2 rfl rfl ?_
  obtain ⟨g1, hF⟩ := gb_gdE hF
  obtain ⟨x2, h3, cx2, hF⟩ := gb_bdE hF
  refine gb_cV (As := [.int p1, .int p2]) (S := []) (v := some (.int x2)) (h1 := h3) (S2 := [.int x2]) cf11 dX11_changed_3 mtX11_modeAt lX11_249 inX11_modeAt seX11_modeAt (gb_kE g1) (fnX11_modeAt_ok _ _ cx2) (by decide) rfl (Nat.le_of_ble_eq_true rfl) (Nat.le_of_ble_eq_true rfl) rfl rfl ?_
  refine gb_istore (L' := [some (.ref p0), some (.int p1), some (.int p2), some (.int p3), some (.int x2), none]) dX11_changed_6 (by decide) rfl rfl ?_
  refine gb_aload_n dX11_changed_8 rfl rfl ?_
  refine gb_iload_n dX11_changed_9 rfl rfl ?_
  refine gb_iload_n dX11_changed_10 rfl rfl ?_
  obtain ⟨g4, hF⟩ := gb_gdE hF
  obtain ⟨x5, h6, cx5, hF⟩ := gb_bdE hF
  refine gb_cV (As := [.int p1, .int p3]) (S := []) (v := some (.int x5)) (h1 := h6) (S2 := [.int x5]) cf11 dX11_changed_11 mtX11_modeAt lX11_249 inX11_modeAt seX11_modeAt (gb_kE g4) (fnX11_modeAt_ok _ _ cx5) (by decide) rfl (Nat.le_of_ble_eq_true rfl) (Nat.le_of_ble_eq_true rfl) rfl rfl ?_
  refine gb_istore (L' := [some (.ref p0), some (.int p1), some (.int p2), some (.int p3), some (.int x2), some (.int x5)]) dX11_changed_14 (by decide) rfl rfl ?_
  refine gb_iload_n dX11_changed_16 rfl rfl ?_
  refine gb_iload dX11_changed_17 rfl ?_
  refine gb_iload dX11_changed_19 rfl ?_
  refine gb_isub dX11_changed_21 ?_
  refine gb_aload_n dX11_changed_22 rfl rfl ?_
  refine gb_iload_n dX11_changed_23 rfl rfl ?_
  obtain ⟨g7, hF⟩ := gb_gdE hF
  obtain ⟨x8, h9, cx8, hF⟩ := gb_bdE hF
  refine gb_cV (As := [.int p2]) (S := [.int (x5 - x2), .int p1]) (v := some (.int x8)) (h1 := h9) (S2 := [.int x8, .int (x5 - x2), .int p1]) cf11 dX11_changed_24 mtX11_placeAt lX11_259 inX11_placeAt seX11_placeAt (gb_kE g7) (fnX11_placeAt_ok _ _ cx8) (by decide) rfl (Nat.le_of_ble_eq_true rfl) (Nat.le_of_ble_eq_true rfl) rfl rfl ?_
  refine gb_imul dX11_changed_27 ?_
  refine gb_iadd dX11_changed_28 ?_
  refine gb_iload dX11_changed_29 rfl ?_
  refine gb_iload dX11_changed_31 rfl ?_
  refine gb_isub dX11_changed_33 ?_
  refine gb_aload_n dX11_changed_34 rfl rfl ?_
  refine gb_iload_n dX11_changed_35 rfl rfl ?_
  obtain ⟨g10, hF⟩ := gb_gdE hF
  obtain ⟨x11, h12, cx11, hF⟩ := gb_bdE hF
  refine gb_cV (As := [.int p3]) (S := [.int (x2 - x5), .int (p1 + ((x5 - x2) * x8))]) (v := some (.int x11)) (h1 := h12) (S2 := [.int x11, .int (x2 - x5), .int (p1 + ((x5 - x2) * x8))]) cf11 dX11_changed_36 mtX11_placeAt lX11_259 inX11_placeAt seX11_placeAt (gb_kE g10) (fnX11_placeAt_ok _ _ cx11) (by decide) rfl (Nat.le_of_ble_eq_true rfl) (Nat.le_of_ble_eq_true rfl) rfl rfl ?_
  refine gb_imul dX11_changed_39 ?_
  refine gb_iadd dX11_changed_40 ?_
  cases hF
  exact gb_iret dX11_changed_41 rfl
def fbX11_gathers_94 (h : gb_H) : Option (Unit × gb_H) :=
  some ((), h)
theorem fbX11_gathers_94_ok {X : gb_X} (h : gb_H) (r : Unit × gb_H) (hF : fbX11_gathers_94 h = some r) : gb_Ev X 4 mX11_gathers 94 [none, none, none, none, none] [] h (gb_wV r) := by
  unfold fbX11_gathers_94 at hF
  cases hF
  exact gb_vret dX11_gathers_94 rfl
def fbX11_gathers_58 (k58 : Nat → Int32 → Int32 → gb_H → Option (Unit × gb_H)) (v0 : Nat) (v1 : Int32) (v2 : Int32) (h : gb_H) : Option (Unit × gb_H) :=
  if (4 : Int32) ≤ v2 then
    fbX11_gathers_94 h
  else
    gb_gd (gb_k h v0 11) <|
    gb_rd (gb_R h v0 31) fun a3 =>
    gb_gd (gb_k h a3 23) <|
    gb_gd (gb_in h a3 v2) <|
    gb_gd (gb_k h v0 11) <|
    gb_rd (gb_R h v0 20) fun a7 =>
    gb_gd (gb_k h v0 11) <|
    gb_bd (fnX11_changed v0 v1 (0 : Int32) (1 : Int32) h) fun x9 h10 =>
    gb_lt (((4 : Int32) * x9) + v2) fun x11 =>
    gb_gd (gb_k h10 a7 23) <|
    gb_gd (gb_in h10 a7 x11) <|
    gb_gd (gb_k h10 a3 23) <|
    gb_gd (gb_in h10 a3 v2) <|
    gb_lt (gb_sL h10 a3 v2.toNatClampNeg ((gb_L h a3 v2.toNatClampNeg) + (gb_L h10 a7 x11.toNatClampNeg))) fun h16 =>
    gb_lt (v2 + (1 : Int32)) fun x17 =>
    k58 v0 v1 x17 h16
theorem fbX11_gathers_58_ok {X : gb_X} {k58 : Nat → Int32 → Int32 → gb_H → Option (Unit × gb_H)} (hk58 : ∀ v0 v1 v2 h r, k58 v0 v1 v2 h = some r → gb_Ev X 4 mX11_gathers 58 [some (.ref v0), some (.int v1), some (.int v2), none, none] [] h (gb_wV r)) (v0 : Nat) (v1 : Int32) (v2 : Int32) (h : gb_H) (r : Unit × gb_H) (hF : fbX11_gathers_58 k58 v0 v1 v2 h = some r) : gb_Ev X 4 mX11_gathers 58 [some (.ref v0), some (.int v1), some (.int v2), none, none] [] h (gb_wV r) := by
  unfold fbX11_gathers_58 at hF
  refine gb_iload_n dX11_gathers_58 rfl rfl ?_
  refine gb_iconst (v := (4 : Int32)) dX11_gathers_59 (by decide) ?_
  refine gb_icmp_ge (tgt := 94) dX11_gathers_60 (by decide) (fun c1 => ?_) (fun c1 => ?_)
  · replace hF := gb_ifT c1 hF
    exact gb_wk (fbX11_gathers_94_ok h r hF) trivial
  · replace hF := gb_ifF c1 hF
    refine gb_aload_n dX11_gathers_63 rfl rfl ?_
    obtain ⟨g2, hF⟩ := gb_gdE hF
    obtain ⟨a3, ea3, hF⟩ := gb_rdE hF
    refine gb_getR fX11_65 dX11_gathers_64 (gb_kE g2) ea3 ?_
    refine gb_iload_n dX11_gathers_67 rfl rfl ?_
    refine gb_dup2 dX11_gathers_68 rfl rfl ?_
    obtain ⟨g4, hF⟩ := gb_gdE hF
    obtain ⟨g5, hF⟩ := gb_gdE hF
    refine gb_lald dX11_gathers_69 (gb_kE g4) (gb_inE g5) ?_
    refine gb_aload_n dX11_gathers_70 rfl rfl ?_
    obtain ⟨g6, hF⟩ := gb_gdE hF
    obtain ⟨a7, ea7, hF⟩ := gb_rdE hF
    refine gb_getR fX11_43 dX11_gathers_71 (gb_kE g6) ea7 ?_
    refine gb_iconst (v := (4 : Int32)) dX11_gathers_74 (by decide) ?_
    refine gb_aload_n dX11_gathers_75 rfl rfl ?_
    refine gb_iload_n dX11_gathers_76 rfl rfl ?_
    refine gb_iconst (v := (0 : Int32)) dX11_gathers_77 (by decide) ?_
    refine gb_iconst (v := (1 : Int32)) dX11_gathers_78 (by decide) ?_
    obtain ⟨g8, hF⟩ := gb_gdE hF
    obtain ⟨x9, h10, cx9, hF⟩ := gb_bdE hF
    refine gb_cV (As := [.int v1, .int (0 : Int32), .int (1 : Int32)]) (S := [.int (4 : Int32), .ref a7, .long (gb_L h a3 v2.toNatClampNeg), .int v2, .ref a3]) (v := some (.int x9)) (h1 := h10) (S2 := [.int x9, .int (4 : Int32), .ref a7, .long (gb_L h a3 v2.toNatClampNeg), .int v2, .ref a3]) cf11 dX11_gathers_79 mtX11_changed lX11_303 inX11_changed seX11_changed (gb_kE g8) (fnX11_changed_ok _ _ cx9) (by decide) rfl (Nat.le_of_ble_eq_true rfl) (Nat.le_of_ble_eq_true rfl) rfl rfl ?_
    refine gb_imul dX11_gathers_82 ?_
    refine gb_iload_n dX11_gathers_83 rfl rfl ?_
    refine gb_iadd dX11_gathers_84 ?_
    obtain ⟨x11, ex11, hF⟩ := gb_ltE hF
    refine gb_topI ex11 ?_
    obtain ⟨g12, hF⟩ := gb_gdE hF
    obtain ⟨g13, hF⟩ := gb_gdE hF
    refine gb_lald dX11_gathers_85 (gb_kE g12) (gb_inE g13) ?_
    refine gb_ladd dX11_gathers_86 ?_
    obtain ⟨g14, hF⟩ := gb_gdE hF
    obtain ⟨g15, hF⟩ := gb_gdE hF
    obtain ⟨h16, eh16, hF⟩ := gb_ltE hF
    refine gb_last dX11_gathers_87 (gb_kE g14) (gb_inE g15) (gb_hp eh16 ?_)
    obtain ⟨x17, ex17, hF⟩ := gb_ltE hF
    refine gb_iinc (v := x17) (L' := [some (.ref v0), some (.int v1), some (.int x17), none, none]) dX11_gathers_88 rfl (by rw [ex17]; rfl) (by decide) rfl rfl ?_
    refine gb_goto (tgt := 58) dX11_gathers_91 (by decide) ?_
    exact gb_wk (hk58 v0 v1 x17 h16 r hF) (And.intro rfl (And.intro rfl (And.intro rfl trivial)))
def lpX11_gathers_58 (n : Nat) (v0 : Nat) (v1 : Int32) (v2 : Int32) (h : gb_H) : Option (Unit × gb_H) := gb_lp (σ := Nat × Int32 × Int32 × gb_H) (fun k s => fbX11_gathers_58 (fun v0 v1 v2 h => k (v0, v1, v2, h)) s.1 s.2.1 s.2.2.1 s.2.2.2) n (v0, v1, v2, h)
theorem lpX11_gathers_58_ok {X : gb_X}  (n : Nat) (v0 : Nat) (v1 : Int32) (v2 : Int32) (h : gb_H) (r : Unit × gb_H) (hF : lpX11_gathers_58 n v0 v1 v2 h = some r) : gb_Ev X 4 mX11_gathers 58 [some (.ref v0), some (.int v1), some (.int v2), none, none] [] h (gb_wV r) := by
  exact gb_lpE (σ := Nat × Int32 × Int32 × gb_H) (P := fun s r => gb_Ev X 4 mX11_gathers 58 [some (.ref s.1), some (.int s.2.1), some (.int s.2.2.1), none, none] [] s.2.2.2 (gb_wV r)) (fun k hk s r hs => fbX11_gathers_58_ok (fun v0 v1 v2 h r e => hk (v0, v1, v2, h) r e) _ _ _ _ r hs) n (v0, v1, v2, h) r hF
def fbX11_gathers_10 (k10 : Nat → Int32 → Int32 → gb_H → Option (Unit × gb_H)) (v0 : Nat) (v1 : Int32) (v2 : Int32) (h : gb_H) : Option (Unit × gb_H) :=
  if (4 : Int32) ≤ v2 then
    gb_gd (gb_k h v0 11) <|
    if (gb_I h v0 23) = (2 : Int32) then
      gb_gd (gb_k h v0 11) <|
      gb_bd (fnX11_changed v0 v1 (0 : Int32) (1 : Int32) h) fun x5 h6 =>
      if x5 = v1 then
        fbX11_gathers_94 h6
      else
        lpX11_gathers_58 gb_FU v0 v1 (0 : Int32) h6
    else
      fbX11_gathers_94 h
  else
    gb_gd (gb_k h v0 11) <|
    gb_rd (gb_R h v0 31) fun a9 =>
    gb_gd (gb_k h v0 11) <|
    gb_rd (gb_R h v0 20) fun a11 =>
    gb_lt (((4 : Int32) * v1) + v2) fun x12 =>
    gb_gd (gb_k h a11 23) <|
    gb_gd (gb_in h a11 x12) <|
    gb_gd (gb_k h a9 23) <|
    gb_gd (gb_in h a9 v2) <|
    gb_lt (gb_sL h a9 v2.toNatClampNeg (gb_L h a11 x12.toNatClampNeg)) fun h17 =>
    gb_lt (v2 + (1 : Int32)) fun x18 =>
    k10 v0 v1 x18 h17
theorem fbX11_gathers_10_ok {X : gb_X} {k10 : Nat → Int32 → Int32 → gb_H → Option (Unit × gb_H)} (hk10 : ∀ v0 v1 v2 h r, k10 v0 v1 v2 h = some r → gb_Ev X 4 mX11_gathers 10 [some (.ref v0), some (.int v1), some (.int v2), none, none] [] h (gb_wV r)) (v0 : Nat) (v1 : Int32) (v2 : Int32) (h : gb_H) (r : Unit × gb_H) (hF : fbX11_gathers_10 k10 v0 v1 v2 h = some r) : gb_Ev X 4 mX11_gathers 10 [some (.ref v0), some (.int v1), some (.int v2), none, none] [] h (gb_wV r) := by
  unfold fbX11_gathers_10 at hF
  refine gb_iload_n dX11_gathers_10 rfl rfl ?_
  refine gb_iconst (v := (4 : Int32)) dX11_gathers_11 (by decide) ?_
  refine gb_icmp_ge (tgt := 37) dX11_gathers_12 (by decide) (fun c1 => ?_) (fun c1 => ?_)
  · replace hF := gb_ifT c1 hF
    refine gb_aload_n dX11_gathers_37 rfl rfl ?_
    obtain ⟨g2, hF⟩ := gb_gdE hF
    refine gb_getI fX11_225 dX11_gathers_38 (gb_kE g2) ?_
    refine gb_iconst (v := (2 : Int32)) dX11_gathers_41 (by decide) ?_
    refine gb_icmp_ne (tgt := 94) dX11_gathers_42 (by decide) (fun c3 => ?_) (fun c3 => ?_)
    · replace hF := gb_ifF c3 hF
      exact gb_wk (fbX11_gathers_94_ok h r hF) trivial
    · replace hF := gb_ifT c3 hF
      refine gb_aload_n dX11_gathers_45 rfl rfl ?_
      refine gb_iload_n dX11_gathers_46 rfl rfl ?_
      refine gb_iconst (v := (0 : Int32)) dX11_gathers_47 (by decide) ?_
      refine gb_iconst (v := (1 : Int32)) dX11_gathers_48 (by decide) ?_
      obtain ⟨g4, hF⟩ := gb_gdE hF
      obtain ⟨x5, h6, cx5, hF⟩ := gb_bdE hF
      refine gb_cV (As := [.int v1, .int (0 : Int32), .int (1 : Int32)]) (S := []) (v := some (.int x5)) (h1 := h6) (S2 := [.int x5]) cf11 dX11_gathers_49 mtX11_changed lX11_303 inX11_changed seX11_changed (gb_kE g4) (fnX11_changed_ok _ _ cx5) (by decide) rfl (Nat.le_of_ble_eq_true rfl) (Nat.le_of_ble_eq_true rfl) rfl rfl ?_
      refine gb_iload_n dX11_gathers_52 rfl rfl ?_
      refine gb_icmp_eq (tgt := 94) dX11_gathers_53 (by decide) (fun c7 => ?_) (fun c7 => ?_)
      · replace hF := gb_ifT c7 hF
        exact gb_wk (fbX11_gathers_94_ok h6 r hF) trivial
      · replace hF := gb_ifF c7 hF
        refine gb_iconst (v := (0 : Int32)) dX11_gathers_56 (by decide) ?_
        refine gb_istore_n (L' := [some (.ref v0), some (.int v1), some (.int (0 : Int32)), none, none]) dX11_gathers_57 rfl (by decide) rfl rfl ?_
        exact gb_wk (lpX11_gathers_58_ok gb_FU v0 v1 (0 : Int32) h6 r hF) (And.intro rfl (And.intro rfl (And.intro rfl trivial)))
  · replace hF := gb_ifF c1 hF
    refine gb_aload_n dX11_gathers_15 rfl rfl ?_
    obtain ⟨g8, hF⟩ := gb_gdE hF
    obtain ⟨a9, ea9, hF⟩ := gb_rdE hF
    refine gb_getR fX11_65 dX11_gathers_16 (gb_kE g8) ea9 ?_
    refine gb_iload_n dX11_gathers_19 rfl rfl ?_
    refine gb_aload_n dX11_gathers_20 rfl rfl ?_
    obtain ⟨g10, hF⟩ := gb_gdE hF
    obtain ⟨a11, ea11, hF⟩ := gb_rdE hF
    refine gb_getR fX11_43 dX11_gathers_21 (gb_kE g10) ea11 ?_
    refine gb_iconst (v := (4 : Int32)) dX11_gathers_24 (by decide) ?_
    refine gb_iload_n dX11_gathers_25 rfl rfl ?_
    refine gb_imul dX11_gathers_26 ?_
    refine gb_iload_n dX11_gathers_27 rfl rfl ?_
    refine gb_iadd dX11_gathers_28 ?_
    obtain ⟨x12, ex12, hF⟩ := gb_ltE hF
    refine gb_topI ex12 ?_
    obtain ⟨g13, hF⟩ := gb_gdE hF
    obtain ⟨g14, hF⟩ := gb_gdE hF
    refine gb_lald dX11_gathers_29 (gb_kE g13) (gb_inE g14) ?_
    obtain ⟨g15, hF⟩ := gb_gdE hF
    obtain ⟨g16, hF⟩ := gb_gdE hF
    obtain ⟨h17, eh17, hF⟩ := gb_ltE hF
    refine gb_last dX11_gathers_30 (gb_kE g15) (gb_inE g16) (gb_hp eh17 ?_)
    obtain ⟨x18, ex18, hF⟩ := gb_ltE hF
    refine gb_iinc (v := x18) (L' := [some (.ref v0), some (.int v1), some (.int x18), none, none]) dX11_gathers_31 rfl (by rw [ex18]; rfl) (by decide) rfl rfl ?_
    refine gb_goto (tgt := 10) dX11_gathers_34 (by decide) ?_
    exact gb_wk (hk10 v0 v1 x18 h17 r hF) (And.intro rfl (And.intro rfl (And.intro rfl trivial)))
def lpX11_gathers_10 (n : Nat) (v0 : Nat) (v1 : Int32) (v2 : Int32) (h : gb_H) : Option (Unit × gb_H) := gb_lp (σ := Nat × Int32 × Int32 × gb_H) (fun k s => fbX11_gathers_10 (fun v0 v1 v2 h => k (v0, v1, v2, h)) s.1 s.2.1 s.2.2.1 s.2.2.2) n (v0, v1, v2, h)
theorem lpX11_gathers_10_ok {X : gb_X}  (n : Nat) (v0 : Nat) (v1 : Int32) (v2 : Int32) (h : gb_H) (r : Unit × gb_H) (hF : lpX11_gathers_10 n v0 v1 v2 h = some r) : gb_Ev X 4 mX11_gathers 10 [some (.ref v0), some (.int v1), some (.int v2), none, none] [] h (gb_wV r) := by
  exact gb_lpE (σ := Nat × Int32 × Int32 × gb_H) (P := fun s r => gb_Ev X 4 mX11_gathers 10 [some (.ref s.1), some (.int s.2.1), some (.int s.2.2.1), none, none] [] s.2.2.2 (gb_wV r)) (fun k hk s r hs => fbX11_gathers_10_ok (fun v0 v1 v2 h r e => hk (v0, v1, v2, h) r e) _ _ _ _ r hs) n (v0, v1, v2, h) r hF
def fbX11_gathers_241 (k199 : Nat → Int32 → gb_H → Option (Unit × gb_H)) (k210 : Nat → Int32 → Int32 → Int32 → gb_H → Option (Unit × gb_H)) (v0 : Nat) (v2 : Int32) (v4 : Int32) (s0 : Int32) (h : gb_H) : Option (Unit × gb_H) :=
  gb_lt (v4 + (1 : Int32)) fun x1 =>
  k210 v0 v2 s0 x1 h
theorem fbX11_gathers_241_ok {X : gb_X} {k199 : Nat → Int32 → gb_H → Option (Unit × gb_H)} {k210 : Nat → Int32 → Int32 → Int32 → gb_H → Option (Unit × gb_H)} (hk199 : ∀ v0 v2 h r, k199 v0 v2 h = some r → gb_Ev X 4 mX11_gathers 199 [some (.ref v0), none, some (.int v2), none, none] [] h (gb_wV r)) (hk210 : ∀ v0 v2 v3 v4 h r, k210 v0 v2 v3 v4 h = some r → gb_Ev X 4 mX11_gathers 210 [some (.ref v0), none, some (.int v2), some (.int v3), some (.int v4)] [] h (gb_wV r)) (v0 : Nat) (v2 : Int32) (v4 : Int32) (s0 : Int32) (h : gb_H) (r : Unit × gb_H) (hF : fbX11_gathers_241 k199 k210 v0 v2 v4 s0 h = some r) : gb_Ev X 4 mX11_gathers 241 [some (.ref v0), none, some (.int v2), none, some (.int v4)] [.int s0] h (gb_wV r) := by
  unfold fbX11_gathers_241 at hF
  refine gb_istore_n (L' := [some (.ref v0), none, some (.int v2), some (.int s0), some (.int v4)]) dX11_gathers_241 rfl (by decide) rfl rfl ?_
  obtain ⟨x1, ex1, hF⟩ := gb_ltE hF
  refine gb_iinc (v := x1) (L' := [some (.ref v0), none, some (.int v2), some (.int s0), some (.int x1)]) dX11_gathers_242 rfl (by rw [ex1]; rfl) (by decide) rfl rfl ?_
  refine gb_goto (tgt := 210) dX11_gathers_245 (by decide) ?_
  exact gb_wk (hk210 v0 v2 s0 x1 h r hF) (And.intro rfl (And.intro rfl (And.intro rfl (And.intro rfl trivial))))
def fbX11_gathers_240 (k199 : Nat → Int32 → gb_H → Option (Unit × gb_H)) (k210 : Nat → Int32 → Int32 → Int32 → gb_H → Option (Unit × gb_H)) (v0 : Nat) (v2 : Int32) (v4 : Int32) (h : gb_H) : Option (Unit × gb_H) :=
  fbX11_gathers_241 k199 k210 v0 v2 v4 (0 : Int32) h
theorem fbX11_gathers_240_ok {X : gb_X} {k199 : Nat → Int32 → gb_H → Option (Unit × gb_H)} {k210 : Nat → Int32 → Int32 → Int32 → gb_H → Option (Unit × gb_H)} (hk199 : ∀ v0 v2 h r, k199 v0 v2 h = some r → gb_Ev X 4 mX11_gathers 199 [some (.ref v0), none, some (.int v2), none, none] [] h (gb_wV r)) (hk210 : ∀ v0 v2 v3 v4 h r, k210 v0 v2 v3 v4 h = some r → gb_Ev X 4 mX11_gathers 210 [some (.ref v0), none, some (.int v2), some (.int v3), some (.int v4)] [] h (gb_wV r)) (v0 : Nat) (v2 : Int32) (v4 : Int32) (h : gb_H) (r : Unit × gb_H) (hF : fbX11_gathers_240 k199 k210 v0 v2 v4 h = some r) : gb_Ev X 4 mX11_gathers 240 [some (.ref v0), none, some (.int v2), none, some (.int v4)] [] h (gb_wV r) := by
  unfold fbX11_gathers_240 at hF
  refine gb_iconst (v := (0 : Int32)) dX11_gathers_240 (by decide) ?_
  exact gb_wk (fbX11_gathers_241_ok hk199 hk210 v0 v2 v4 (0 : Int32) h r hF) (And.intro rfl (And.intro rfl (And.intro rfl trivial)))
def fbX11_gathers_293 (k199 : Nat → Int32 → gb_H → Option (Unit × gb_H)) (v0 : Nat) (v2 : Int32) (h : gb_H) : Option (Unit × gb_H) :=
  gb_lt (v2 + (1 : Int32)) fun x1 =>
  k199 v0 x1 h
theorem fbX11_gathers_293_ok {X : gb_X} {k199 : Nat → Int32 → gb_H → Option (Unit × gb_H)} (hk199 : ∀ v0 v2 h r, k199 v0 v2 h = some r → gb_Ev X 4 mX11_gathers 199 [some (.ref v0), none, some (.int v2), none, none] [] h (gb_wV r)) (v0 : Nat) (v2 : Int32) (h : gb_H) (r : Unit × gb_H) (hF : fbX11_gathers_293 k199 v0 v2 h = some r) : gb_Ev X 4 mX11_gathers 293 [some (.ref v0), none, some (.int v2), none, none] [] h (gb_wV r) := by
  unfold fbX11_gathers_293 at hF
  obtain ⟨x1, ex1, hF⟩ := gb_ltE hF
  refine gb_iinc (v := x1) (L' := [some (.ref v0), none, some (.int x1), none, none]) dX11_gathers_293 rfl (by rw [ex1]; rfl) (by decide) rfl rfl ?_
  refine gb_goto (tgt := 199) dX11_gathers_296 (by decide) ?_
  exact gb_wk (hk199 v0 x1 h r hF) (And.intro rfl (And.intro rfl trivial))
def fbX11_gathers_255 (k199 : Nat → Int32 → gb_H → Option (Unit × gb_H)) (k255 : Nat → Int32 → Int32 → gb_H → Option (Unit × gb_H)) (v0 : Nat) (v2 : Int32) (v4 : Int32) (h : gb_H) : Option (Unit × gb_H) :=
  if (4 : Int32) ≤ v4 then
    fbX11_gathers_293 k199 v0 v2 h
  else
    gb_gd (gb_k h v0 11) <|
    gb_rd (gb_R h v0 31) fun a3 =>
    gb_gd (gb_k h a3 23) <|
    gb_gd (gb_in h a3 v4) <|
    gb_gd (gb_k h v0 11) <|
    gb_rd (gb_R h v0 20) fun a7 =>
    gb_gd (gb_k h v0 11) <|
    gb_rd (gb_R h v0 32) fun a9 =>
    gb_gd (gb_k h a9 20) <|
    gb_gd (gb_in h a9 v2) <|
    gb_lt (((4 : Int32) * (gb_I h a9 v2.toNatClampNeg)) + v4) fun x12 =>
    gb_gd (gb_k h a7 23) <|
    gb_gd (gb_in h a7 x12) <|
    gb_gd (gb_k h a3 23) <|
    gb_gd (gb_in h a3 v4) <|
    gb_lt (gb_sL h a3 v4.toNatClampNeg ((gb_L h a3 v4.toNatClampNeg) + (gb_L h a7 x12.toNatClampNeg))) fun h17 =>
    gb_lt (v4 + (1 : Int32)) fun x18 =>
    k255 v0 v2 x18 h17
theorem fbX11_gathers_255_ok {X : gb_X} {k199 : Nat → Int32 → gb_H → Option (Unit × gb_H)} {k255 : Nat → Int32 → Int32 → gb_H → Option (Unit × gb_H)} (hk199 : ∀ v0 v2 h r, k199 v0 v2 h = some r → gb_Ev X 4 mX11_gathers 199 [some (.ref v0), none, some (.int v2), none, none] [] h (gb_wV r)) (hk255 : ∀ v0 v2 v4 h r, k255 v0 v2 v4 h = some r → gb_Ev X 4 mX11_gathers 255 [some (.ref v0), none, some (.int v2), none, some (.int v4)] [] h (gb_wV r)) (v0 : Nat) (v2 : Int32) (v4 : Int32) (h : gb_H) (r : Unit × gb_H) (hF : fbX11_gathers_255 k199 k255 v0 v2 v4 h = some r) : gb_Ev X 4 mX11_gathers 255 [some (.ref v0), none, some (.int v2), none, some (.int v4)] [] h (gb_wV r) := by
  unfold fbX11_gathers_255 at hF
  refine gb_iload dX11_gathers_255 rfl ?_
  refine gb_iconst (v := (4 : Int32)) dX11_gathers_257 (by decide) ?_
  refine gb_icmp_ge (tgt := 293) dX11_gathers_258 (by decide) (fun c1 => ?_) (fun c1 => ?_)
  · replace hF := gb_ifT c1 hF
    exact gb_wk (fbX11_gathers_293_ok hk199 v0 v2 h r hF) (And.intro rfl (And.intro rfl trivial))
  · replace hF := gb_ifF c1 hF
    refine gb_aload_n dX11_gathers_261 rfl rfl ?_
    obtain ⟨g2, hF⟩ := gb_gdE hF
    obtain ⟨a3, ea3, hF⟩ := gb_rdE hF
    refine gb_getR fX11_65 dX11_gathers_262 (gb_kE g2) ea3 ?_
    refine gb_iload dX11_gathers_265 rfl ?_
    refine gb_dup2 dX11_gathers_267 rfl rfl ?_
    obtain ⟨g4, hF⟩ := gb_gdE hF
    obtain ⟨g5, hF⟩ := gb_gdE hF
    refine gb_lald dX11_gathers_268 (gb_kE g4) (gb_inE g5) ?_
    refine gb_aload_n dX11_gathers_269 rfl rfl ?_
    obtain ⟨g6, hF⟩ := gb_gdE hF
    obtain ⟨a7, ea7, hF⟩ := gb_rdE hF
    refine gb_getR fX11_43 dX11_gathers_270 (gb_kE g6) ea7 ?_
    refine gb_iconst (v := (4 : Int32)) dX11_gathers_273 (by decide) ?_
    refine gb_aload_n dX11_gathers_274 rfl rfl ?_
    obtain ⟨g8, hF⟩ := gb_gdE hF
    obtain ⟨a9, ea9, hF⟩ := gb_rdE hF
    refine gb_getR fX11_68 dX11_gathers_275 (gb_kE g8) ea9 ?_
    refine gb_iload_n dX11_gathers_278 rfl rfl ?_
    obtain ⟨g10, hF⟩ := gb_gdE hF
    obtain ⟨g11, hF⟩ := gb_gdE hF
    refine gb_iald dX11_gathers_279 (gb_kE g10) (gb_inE g11) ?_
    refine gb_imul dX11_gathers_280 ?_
    refine gb_iload dX11_gathers_281 rfl ?_
    refine gb_iadd dX11_gathers_283 ?_
    obtain ⟨x12, ex12, hF⟩ := gb_ltE hF
    refine gb_topI ex12 ?_
    obtain ⟨g13, hF⟩ := gb_gdE hF
    obtain ⟨g14, hF⟩ := gb_gdE hF
    refine gb_lald dX11_gathers_284 (gb_kE g13) (gb_inE g14) ?_
    refine gb_ladd dX11_gathers_285 ?_
    obtain ⟨g15, hF⟩ := gb_gdE hF
    obtain ⟨g16, hF⟩ := gb_gdE hF
    obtain ⟨h17, eh17, hF⟩ := gb_ltE hF
    refine gb_last dX11_gathers_286 (gb_kE g15) (gb_inE g16) (gb_hp eh17 ?_)
    obtain ⟨x18, ex18, hF⟩ := gb_ltE hF
    refine gb_iinc (v := x18) (L' := [some (.ref v0), none, some (.int v2), none, some (.int x18)]) dX11_gathers_287 rfl (by rw [ex18]; rfl) (by decide) rfl rfl ?_
    refine gb_goto (tgt := 255) dX11_gathers_290 (by decide) ?_
    exact gb_wk (hk255 v0 v2 x18 h17 r hF) (And.intro rfl (And.intro rfl (And.intro rfl trivial)))
def lpX11_gathers_255 (k199 : Nat → Int32 → gb_H → Option (Unit × gb_H)) (n : Nat) (v0 : Nat) (v2 : Int32) (v4 : Int32) (h : gb_H) : Option (Unit × gb_H) := gb_lp (σ := Nat × Int32 × Int32 × gb_H) (fun k s => fbX11_gathers_255 k199 (fun v0 v2 v4 h => k (v0, v2, v4, h)) s.1 s.2.1 s.2.2.1 s.2.2.2) n (v0, v2, v4, h)
theorem lpX11_gathers_255_ok {X : gb_X}  {k199 : Nat → Int32 → gb_H → Option (Unit × gb_H)} (hk199 : ∀ v0 v2 h r, k199 v0 v2 h = some r → gb_Ev X 4 mX11_gathers 199 [some (.ref v0), none, some (.int v2), none, none] [] h (gb_wV r)) (n : Nat) (v0 : Nat) (v2 : Int32) (v4 : Int32) (h : gb_H) (r : Unit × gb_H) (hF : lpX11_gathers_255 k199 n v0 v2 v4 h = some r) : gb_Ev X 4 mX11_gathers 255 [some (.ref v0), none, some (.int v2), none, some (.int v4)] [] h (gb_wV r) := by
  exact gb_lpE (σ := Nat × Int32 × Int32 × gb_H) (P := fun s r => gb_Ev X 4 mX11_gathers 255 [some (.ref s.1), none, some (.int s.2.1), none, some (.int s.2.2.1)] [] s.2.2.2 (gb_wV r)) (fun k hk s r hs => fbX11_gathers_255_ok hk199 (fun v0 v2 v4 h r e => hk (v0, v2, v4, h) r e) _ _ _ _ r hs) n (v0, v2, v4, h) r hF
def fbX11_gathers_210 (k199 : Nat → Int32 → gb_H → Option (Unit × gb_H)) (k210 : Nat → Int32 → Int32 → Int32 → gb_H → Option (Unit × gb_H)) (v0 : Nat) (v2 : Int32) (v3 : Int32) (v4 : Int32) (h : gb_H) : Option (Unit × gb_H) :=
  if v2 ≤ v4 then
    if v3 = 0 then
      fbX11_gathers_293 k199 v0 v2 h
    else
      lpX11_gathers_255 k199 gb_FU v0 v2 (0 : Int32) h
  else
    if v3 = 0 then
      fbX11_gathers_240 k199 k210 v0 v2 v4 h
    else
      gb_gd (gb_k h v0 11) <|
      gb_rd (gb_R h v0 32) fun a5 =>
      gb_gd (gb_k h a5 20) <|
      gb_gd (gb_in h a5 v4) <|
      gb_gd (gb_k h v0 11) <|
      gb_rd (gb_R h v0 32) fun a9 =>
      gb_gd (gb_k h a9 20) <|
      gb_gd (gb_in h a9 v2) <|
      if (gb_I h a5 v4.toNatClampNeg) = (gb_I h a9 v2.toNatClampNeg) then
        fbX11_gathers_240 k199 k210 v0 v2 v4 h
      else
        fbX11_gathers_241 k199 k210 v0 v2 v4 (1 : Int32) h
theorem fbX11_gathers_210_ok {X : gb_X} {k199 : Nat → Int32 → gb_H → Option (Unit × gb_H)} {k210 : Nat → Int32 → Int32 → Int32 → gb_H → Option (Unit × gb_H)} (hk199 : ∀ v0 v2 h r, k199 v0 v2 h = some r → gb_Ev X 4 mX11_gathers 199 [some (.ref v0), none, some (.int v2), none, none] [] h (gb_wV r)) (hk210 : ∀ v0 v2 v3 v4 h r, k210 v0 v2 v3 v4 h = some r → gb_Ev X 4 mX11_gathers 210 [some (.ref v0), none, some (.int v2), some (.int v3), some (.int v4)] [] h (gb_wV r)) (v0 : Nat) (v2 : Int32) (v3 : Int32) (v4 : Int32) (h : gb_H) (r : Unit × gb_H) (hF : fbX11_gathers_210 k199 k210 v0 v2 v3 v4 h = some r) : gb_Ev X 4 mX11_gathers 210 [some (.ref v0), none, some (.int v2), some (.int v3), some (.int v4)] [] h (gb_wV r) := by
  unfold fbX11_gathers_210 at hF
  refine gb_iload dX11_gathers_210 rfl ?_
  refine gb_iload_n dX11_gathers_212 rfl rfl ?_
  refine gb_icmp_ge (tgt := 248) dX11_gathers_213 (by decide) (fun c1 => ?_) (fun c1 => ?_)
  · replace hF := gb_ifT c1 hF
    refine gb_iload_n dX11_gathers_248 rfl rfl ?_
    refine gb_if_eq (tgt := 293) dX11_gathers_249 (by decide) (fun c2 => ?_) (fun c2 => ?_)
    · replace hF := gb_ifT c2 hF
      exact gb_wk (fbX11_gathers_293_ok hk199 v0 v2 h r hF) (And.intro rfl (And.intro rfl trivial))
    · replace hF := gb_ifF c2 hF
      refine gb_iconst (v := (0 : Int32)) dX11_gathers_252 (by decide) ?_
      refine gb_istore (L' := [some (.ref v0), none, some (.int v2), some (.int v3), some (.int (0 : Int32))]) dX11_gathers_253 (by decide) rfl rfl ?_
      exact gb_wk (lpX11_gathers_255_ok hk199 gb_FU v0 v2 (0 : Int32) h r hF) (And.intro rfl (And.intro rfl (And.intro rfl trivial)))
  · replace hF := gb_ifF c1 hF
    refine gb_iload_n dX11_gathers_216 rfl rfl ?_
    refine gb_if_eq (tgt := 240) dX11_gathers_217 (by decide) (fun c3 => ?_) (fun c3 => ?_)
    · replace hF := gb_ifT c3 hF
      exact gb_wk (fbX11_gathers_240_ok hk199 hk210 v0 v2 v4 h r hF) (And.intro rfl (And.intro rfl (And.intro rfl trivial)))
    · replace hF := gb_ifF c3 hF
      refine gb_aload_n dX11_gathers_220 rfl rfl ?_
      obtain ⟨g4, hF⟩ := gb_gdE hF
      obtain ⟨a5, ea5, hF⟩ := gb_rdE hF
      refine gb_getR fX11_68 dX11_gathers_221 (gb_kE g4) ea5 ?_
      refine gb_iload dX11_gathers_224 rfl ?_
      obtain ⟨g6, hF⟩ := gb_gdE hF
      obtain ⟨g7, hF⟩ := gb_gdE hF
      refine gb_iald dX11_gathers_226 (gb_kE g6) (gb_inE g7) ?_
      refine gb_aload_n dX11_gathers_227 rfl rfl ?_
      obtain ⟨g8, hF⟩ := gb_gdE hF
      obtain ⟨a9, ea9, hF⟩ := gb_rdE hF
      refine gb_getR fX11_68 dX11_gathers_228 (gb_kE g8) ea9 ?_
      refine gb_iload_n dX11_gathers_231 rfl rfl ?_
      obtain ⟨g10, hF⟩ := gb_gdE hF
      obtain ⟨g11, hF⟩ := gb_gdE hF
      refine gb_iald dX11_gathers_232 (gb_kE g10) (gb_inE g11) ?_
      refine gb_icmp_eq (tgt := 240) dX11_gathers_233 (by decide) (fun c12 => ?_) (fun c12 => ?_)
      · replace hF := gb_ifT c12 hF
        exact gb_wk (fbX11_gathers_240_ok hk199 hk210 v0 v2 v4 h r hF) (And.intro rfl (And.intro rfl (And.intro rfl trivial)))
      · replace hF := gb_ifF c12 hF
        refine gb_iconst (v := (1 : Int32)) dX11_gathers_236 (by decide) ?_
        refine gb_goto (tgt := 241) dX11_gathers_237 (by decide) ?_
        exact gb_wk (fbX11_gathers_241_ok hk199 hk210 v0 v2 v4 (1 : Int32) h r hF) (And.intro rfl (And.intro rfl (And.intro rfl trivial)))
def lpX11_gathers_210 (k199 : Nat → Int32 → gb_H → Option (Unit × gb_H)) (n : Nat) (v0 : Nat) (v2 : Int32) (v3 : Int32) (v4 : Int32) (h : gb_H) : Option (Unit × gb_H) := gb_lp (σ := Nat × Int32 × Int32 × Int32 × gb_H) (fun k s => fbX11_gathers_210 k199 (fun v0 v2 v3 v4 h => k (v0, v2, v3, v4, h)) s.1 s.2.1 s.2.2.1 s.2.2.2.1 s.2.2.2.2) n (v0, v2, v3, v4, h)
theorem lpX11_gathers_210_ok {X : gb_X}  {k199 : Nat → Int32 → gb_H → Option (Unit × gb_H)} (hk199 : ∀ v0 v2 h r, k199 v0 v2 h = some r → gb_Ev X 4 mX11_gathers 199 [some (.ref v0), none, some (.int v2), none, none] [] h (gb_wV r)) (n : Nat) (v0 : Nat) (v2 : Int32) (v3 : Int32) (v4 : Int32) (h : gb_H) (r : Unit × gb_H) (hF : lpX11_gathers_210 k199 n v0 v2 v3 v4 h = some r) : gb_Ev X 4 mX11_gathers 210 [some (.ref v0), none, some (.int v2), some (.int v3), some (.int v4)] [] h (gb_wV r) := by
  exact gb_lpE (σ := Nat × Int32 × Int32 × Int32 × gb_H) (P := fun s r => gb_Ev X 4 mX11_gathers 210 [some (.ref s.1), none, some (.int s.2.1), some (.int s.2.2.1), some (.int s.2.2.2.1)] [] s.2.2.2.2 (gb_wV r)) (fun k hk s r hs => fbX11_gathers_210_ok hk199 (fun v0 v2 v3 v4 h r e => hk (v0, v2, v3, v4, h) r e) _ _ _ _ _ r hs) n (v0, v2, v3, v4, h) r hF
def fbX11_gathers_199 (k199 : Nat → Int32 → gb_H → Option (Unit × gb_H)) (v0 : Nat) (v2 : Int32) (h : gb_H) : Option (Unit × gb_H) :=
  if (6 : Int32) ≤ v2 then
    some ((), h)
  else
    lpX11_gathers_210 k199 gb_FU v0 v2 (1 : Int32) (0 : Int32) h
theorem fbX11_gathers_199_ok {X : gb_X} {k199 : Nat → Int32 → gb_H → Option (Unit × gb_H)} (hk199 : ∀ v0 v2 h r, k199 v0 v2 h = some r → gb_Ev X 4 mX11_gathers 199 [some (.ref v0), none, some (.int v2), none, none] [] h (gb_wV r)) (v0 : Nat) (v2 : Int32) (h : gb_H) (r : Unit × gb_H) (hF : fbX11_gathers_199 k199 v0 v2 h = some r) : gb_Ev X 4 mX11_gathers 199 [some (.ref v0), none, some (.int v2), none, none] [] h (gb_wV r) := by
  unfold fbX11_gathers_199 at hF
  refine gb_iload_n dX11_gathers_199 rfl rfl ?_
  refine gb_bipush (v := (6 : Int32)) dX11_gathers_200 (by decide) ?_
  refine gb_icmp_ge (tgt := 299) dX11_gathers_202 (by decide) (fun c1 => ?_) (fun c1 => ?_)
  · replace hF := gb_ifT c1 hF
    cases hF
    exact gb_vret dX11_gathers_299 rfl
  · replace hF := gb_ifF c1 hF
    refine gb_iconst (v := (1 : Int32)) dX11_gathers_205 (by decide) ?_
    refine gb_istore_n (L' := [some (.ref v0), none, some (.int v2), some (.int (1 : Int32)), none]) dX11_gathers_206 rfl (by decide) rfl rfl ?_
    refine gb_iconst (v := (0 : Int32)) dX11_gathers_207 (by decide) ?_
    refine gb_istore (L' := [some (.ref v0), none, some (.int v2), some (.int (1 : Int32)), some (.int (0 : Int32))]) dX11_gathers_208 (by decide) rfl rfl ?_
    exact gb_wk (lpX11_gathers_210_ok hk199 gb_FU v0 v2 (1 : Int32) (0 : Int32) h r hF) (And.intro rfl (And.intro rfl (And.intro rfl (And.intro rfl trivial))))
def lpX11_gathers_199 (n : Nat) (v0 : Nat) (v2 : Int32) (h : gb_H) : Option (Unit × gb_H) := gb_lp (σ := Nat × Int32 × gb_H) (fun k s => fbX11_gathers_199 (fun v0 v2 h => k (v0, v2, h)) s.1 s.2.1 s.2.2) n (v0, v2, h)
theorem lpX11_gathers_199_ok {X : gb_X}  (n : Nat) (v0 : Nat) (v2 : Int32) (h : gb_H) (r : Unit × gb_H) (hF : lpX11_gathers_199 n v0 v2 h = some r) : gb_Ev X 4 mX11_gathers 199 [some (.ref v0), none, some (.int v2), none, none] [] h (gb_wV r) := by
  exact gb_lpE (σ := Nat × Int32 × gb_H) (P := fun s r => gb_Ev X 4 mX11_gathers 199 [some (.ref s.1), none, some (.int s.2.1), none, none] [] s.2.2 (gb_wV r)) (fun k hk s r hs => fbX11_gathers_199_ok (fun v0 v2 h r e => hk (v0, v2, h) r e) _ _ _ r hs) n (v0, v2, h) r hF
def fbX11_gathers_179 (k179 : Nat → Int32 → gb_H → Option (Unit × gb_H)) (v0 : Nat) (v2 : Int32) (h : gb_H) : Option (Unit × gb_H) :=
  if (4 : Int32) ≤ v2 then
    lpX11_gathers_199 gb_FU v0 (0 : Int32) h
  else
    gb_gd (gb_k h v0 11) <|
    gb_rd (gb_R h v0 31) fun a3 =>
    gb_gd (gb_k h a3 23) <|
    gb_gd (gb_in h a3 v2) <|
    gb_lt (gb_sL h a3 v2.toNatClampNeg (0 : Int64)) fun h6 =>
    gb_lt (v2 + (1 : Int32)) fun x7 =>
    k179 v0 x7 h6
theorem fbX11_gathers_179_ok {X : gb_X} {k179 : Nat → Int32 → gb_H → Option (Unit × gb_H)} (hk179 : ∀ v0 v2 h r, k179 v0 v2 h = some r → gb_Ev X 4 mX11_gathers 179 [some (.ref v0), none, some (.int v2), none, none] [] h (gb_wV r)) (v0 : Nat) (v2 : Int32) (h : gb_H) (r : Unit × gb_H) (hF : fbX11_gathers_179 k179 v0 v2 h = some r) : gb_Ev X 4 mX11_gathers 179 [some (.ref v0), none, some (.int v2), none, none] [] h (gb_wV r) := by
  unfold fbX11_gathers_179 at hF
  refine gb_iload_n dX11_gathers_179 rfl rfl ?_
  refine gb_iconst (v := (4 : Int32)) dX11_gathers_180 (by decide) ?_
  refine gb_icmp_ge (tgt := 197) dX11_gathers_181 (by decide) (fun c1 => ?_) (fun c1 => ?_)
  · replace hF := gb_ifT c1 hF
    refine gb_iconst (v := (0 : Int32)) dX11_gathers_197 (by decide) ?_
    refine gb_istore_n (L' := [some (.ref v0), none, some (.int (0 : Int32)), none, none]) dX11_gathers_198 rfl (by decide) rfl rfl ?_
    exact gb_wk (lpX11_gathers_199_ok gb_FU v0 (0 : Int32) h r hF) (And.intro rfl (And.intro rfl trivial))
  · replace hF := gb_ifF c1 hF
    refine gb_aload_n dX11_gathers_184 rfl rfl ?_
    obtain ⟨g2, hF⟩ := gb_gdE hF
    obtain ⟨a3, ea3, hF⟩ := gb_rdE hF
    refine gb_getR fX11_65 dX11_gathers_185 (gb_kE g2) ea3 ?_
    refine gb_iload_n dX11_gathers_188 rfl rfl ?_
    refine gb_lconst (v := (0 : Int64)) dX11_gathers_189 (by decide) ?_
    obtain ⟨g4, hF⟩ := gb_gdE hF
    obtain ⟨g5, hF⟩ := gb_gdE hF
    obtain ⟨h6, eh6, hF⟩ := gb_ltE hF
    refine gb_last dX11_gathers_190 (gb_kE g4) (gb_inE g5) (gb_hp eh6 ?_)
    obtain ⟨x7, ex7, hF⟩ := gb_ltE hF
    refine gb_iinc (v := x7) (L' := [some (.ref v0), none, some (.int x7), none, none]) dX11_gathers_191 rfl (by rw [ex7]; rfl) (by decide) rfl rfl ?_
    refine gb_goto (tgt := 179) dX11_gathers_194 (by decide) ?_
    exact gb_wk (hk179 v0 x7 h6 r hF) (And.intro rfl (And.intro rfl trivial))
def lpX11_gathers_179 (n : Nat) (v0 : Nat) (v2 : Int32) (h : gb_H) : Option (Unit × gb_H) := gb_lp (σ := Nat × Int32 × gb_H) (fun k s => fbX11_gathers_179 (fun v0 v2 h => k (v0, v2, h)) s.1 s.2.1 s.2.2) n (v0, v2, h)
theorem lpX11_gathers_179_ok {X : gb_X}  (n : Nat) (v0 : Nat) (v2 : Int32) (h : gb_H) (r : Unit × gb_H) (hF : lpX11_gathers_179 n v0 v2 h = some r) : gb_Ev X 4 mX11_gathers 179 [some (.ref v0), none, some (.int v2), none, none] [] h (gb_wV r) := by
  exact gb_lpE (σ := Nat × Int32 × gb_H) (P := fun s r => gb_Ev X 4 mX11_gathers 179 [some (.ref s.1), none, some (.int s.2.1), none, none] [] s.2.2 (gb_wV r)) (fun k hk s r hs => fbX11_gathers_179_ok (fun v0 v2 h r e => hk (v0, v2, h) r e) _ _ _ r hs) n (v0, v2, h) r hF
def fnX11_gathers (p0 : Nat) (p1 : Int32) (h : gb_H) : Option (Unit × gb_H) :=
  gb_gd (gb_k h p0 11) <|
  if (3 : Int32) ≤ (gb_I h p0 23) then
    gb_gd (gb_k h p0 11) <|
    gb_rd (gb_R h p0 32) fun a4 =>
    gb_gd (gb_k h a4 20) <|
    gb_gd (gb_in h a4 (0 : Int32)) <|
    gb_lt (gb_sI h a4 (0 : Int32).toNatClampNeg p1) fun h7 =>
    gb_gd (gb_k h7 p0 11) <|
    gb_rd (gb_R h7 p0 32) fun a9 =>
    gb_gd (gb_k h7 p0 11) <|
    gb_bd (fnX11_changed p0 p1 (0 : Int32) (1 : Int32) h7) fun x11 h12 =>
    gb_gd (gb_k h12 a9 20) <|
    gb_gd (gb_in h12 a9 (1 : Int32)) <|
    gb_lt (gb_sI h12 a9 (1 : Int32).toNatClampNeg x11) fun h15 =>
    gb_gd (gb_k h15 p0 11) <|
    gb_rd (gb_R h15 p0 32) fun a17 =>
    gb_gd (gb_k h15 p0 11) <|
    gb_bd (fnX11_changed p0 p1 (0 : Int32) (2 : Int32) h15) fun x19 h20 =>
    gb_gd (gb_k h20 a17 20) <|
    gb_gd (gb_in h20 a17 (2 : Int32)) <|
    gb_lt (gb_sI h20 a17 (2 : Int32).toNatClampNeg x19) fun h23 =>
    gb_gd (gb_k h23 p0 11) <|
    gb_rd (gb_R h23 p0 32) fun a25 =>
    gb_gd (gb_k h23 p0 11) <|
    gb_bd (fnX11_changed p0 p1 (1 : Int32) (2 : Int32) h23) fun x27 h28 =>
    gb_gd (gb_k h28 a25 20) <|
    gb_gd (gb_in h28 a25 (3 : Int32)) <|
    gb_lt (gb_sI h28 a25 (3 : Int32).toNatClampNeg x27) fun h31 =>
    gb_gd (gb_k h31 p0 11) <|
    gb_rd (gb_R h31 p0 32) fun a33 =>
    gb_gd (gb_k h31 p0 11) <|
    gb_rd (gb_R h31 p0 32) fun a35 =>
    gb_gd (gb_k h31 a35 20) <|
    gb_gd (gb_in h31 a35 (1 : Int32)) <|
    gb_gd (gb_k h31 p0 11) <|
    gb_bd (fnX11_changed p0 (gb_I h31 a35 (1 : Int32).toNatClampNeg) (0 : Int32) (2 : Int32) h31) fun x39 h40 =>
    gb_gd (gb_k h40 a33 20) <|
    gb_gd (gb_in h40 a33 (4 : Int32)) <|
    gb_lt (gb_sI h40 a33 (4 : Int32).toNatClampNeg x39) fun h43 =>
    gb_gd (gb_k h43 p0 11) <|
    gb_rd (gb_R h43 p0 32) fun a45 =>
    gb_gd (gb_k h43 p0 11) <|
    gb_rd (gb_R h43 p0 32) fun a47 =>
    gb_gd (gb_k h43 a47 20) <|
    gb_gd (gb_in h43 a47 (1 : Int32)) <|
    gb_gd (gb_k h43 p0 11) <|
    gb_bd (fnX11_changed p0 (gb_I h43 a47 (1 : Int32).toNatClampNeg) (1 : Int32) (2 : Int32) h43) fun x51 h52 =>
    gb_gd (gb_k h52 a45 20) <|
    gb_gd (gb_in h52 a45 (5 : Int32)) <|
    gb_lt (gb_sI h52 a45 (5 : Int32).toNatClampNeg x51) fun h55 =>
    lpX11_gathers_179 gb_FU p0 (0 : Int32) h55
  else
    lpX11_gathers_10 gb_FU p0 p1 (0 : Int32) h
theorem fnX11_gathers_ok {X : gb_X}  {p0 : Nat} {p1 : Int32} (h : gb_H) (r : Unit × gb_H) (hF : fnX11_gathers p0 p1 h = some r) : gb_Ev X 4 mX11_gathers 0 (gb_L0 [.ref p0, .int p1]) [] h (gb_wV r) := by
  unfold fnX11_gathers at hF
  refine gb_weak (L' := [some (.ref p0), some (.int p1), none, none, none]) (And.intro rfl (And.intro rfl trivial)) ?_
  refine gb_aload_n dX11_gathers_0 rfl rfl ?_
  obtain ⟨g1, hF⟩ := gb_gdE hF
  refine gb_getI fX11_225 dX11_gathers_1 (gb_kE g1) ?_
  refine gb_iconst (v := (3 : Int32)) dX11_gathers_4 (by decide) ?_
  refine gb_icmp_ge (tgt := 95) dX11_gathers_5 (by decide) (fun c2 => ?_) (fun c2 => ?_)
  · replace hF := gb_ifT c2 hF
    refine gb_aload_n dX11_gathers_95 rfl rfl ?_
    obtain ⟨g3, hF⟩ := gb_gdE hF
    obtain ⟨a4, ea4, hF⟩ := gb_rdE hF
    refine gb_getR fX11_68 dX11_gathers_96 (gb_kE g3) ea4 ?_
    refine gb_iconst (v := (0 : Int32)) dX11_gathers_99 (by decide) ?_
    refine gb_iload_n dX11_gathers_100 rfl rfl ?_
    obtain ⟨g5, hF⟩ := gb_gdE hF
    obtain ⟨g6, hF⟩ := gb_gdE hF
    obtain ⟨h7, eh7, hF⟩ := gb_ltE hF
    refine gb_iast dX11_gathers_101 (gb_kE g5) (gb_inE g6) (gb_hp eh7 ?_)
    refine gb_aload_n dX11_gathers_102 rfl rfl ?_
    obtain ⟨g8, hF⟩ := gb_gdE hF
    obtain ⟨a9, ea9, hF⟩ := gb_rdE hF
    refine gb_getR fX11_68 dX11_gathers_103 (gb_kE g8) ea9 ?_
    refine gb_iconst (v := (1 : Int32)) dX11_gathers_106 (by decide) ?_
    refine gb_aload_n dX11_gathers_107 rfl rfl ?_
    refine gb_iload_n dX11_gathers_108 rfl rfl ?_
    refine gb_iconst (v := (0 : Int32)) dX11_gathers_109 (by decide) ?_
    refine gb_iconst (v := (1 : Int32)) dX11_gathers_110 (by decide) ?_
    obtain ⟨g10, hF⟩ := gb_gdE hF
    obtain ⟨x11, h12, cx11, hF⟩ := gb_bdE hF
    refine gb_cV (As := [.int p1, .int (0 : Int32), .int (1 : Int32)]) (S := [.int (1 : Int32), .ref a9]) (v := some (.int x11)) (h1 := h12) (S2 := [.int x11, .int (1 : Int32), .ref a9]) cf11 dX11_gathers_111 mtX11_changed lX11_303 inX11_changed seX11_changed (gb_kE g10) (fnX11_changed_ok _ _ cx11) (by decide) rfl (Nat.le_of_ble_eq_true rfl) (Nat.le_of_ble_eq_true rfl) rfl rfl ?_
    obtain ⟨g13, hF⟩ := gb_gdE hF
    obtain ⟨g14, hF⟩ := gb_gdE hF
    obtain ⟨h15, eh15, hF⟩ := gb_ltE hF
    refine gb_iast dX11_gathers_114 (gb_kE g13) (gb_inE g14) (gb_hp eh15 ?_)
    refine gb_aload_n dX11_gathers_115 rfl rfl ?_
    obtain ⟨g16, hF⟩ := gb_gdE hF
    obtain ⟨a17, ea17, hF⟩ := gb_rdE hF
    refine gb_getR fX11_68 dX11_gathers_116 (gb_kE g16) ea17 ?_
    refine gb_iconst (v := (2 : Int32)) dX11_gathers_119 (by decide) ?_
    refine gb_aload_n dX11_gathers_120 rfl rfl ?_
    refine gb_iload_n dX11_gathers_121 rfl rfl ?_
    refine gb_iconst (v := (0 : Int32)) dX11_gathers_122 (by decide) ?_
    refine gb_iconst (v := (2 : Int32)) dX11_gathers_123 (by decide) ?_
    obtain ⟨g18, hF⟩ := gb_gdE hF
    obtain ⟨x19, h20, cx19, hF⟩ := gb_bdE hF
    refine gb_cV (As := [.int p1, .int (0 : Int32), .int (2 : Int32)]) (S := [.int (2 : Int32), .ref a17]) (v := some (.int x19)) (h1 := h20) (S2 := [.int x19, .int (2 : Int32), .ref a17]) cf11 dX11_gathers_124 mtX11_changed lX11_303 inX11_changed seX11_changed (gb_kE g18) (fnX11_changed_ok _ _ cx19) (by decide) rfl (Nat.le_of_ble_eq_true rfl) (Nat.le_of_ble_eq_true rfl) rfl rfl ?_
    obtain ⟨g21, hF⟩ := gb_gdE hF
    obtain ⟨g22, hF⟩ := gb_gdE hF
    obtain ⟨h23, eh23, hF⟩ := gb_ltE hF
    refine gb_iast dX11_gathers_127 (gb_kE g21) (gb_inE g22) (gb_hp eh23 ?_)
    refine gb_aload_n dX11_gathers_128 rfl rfl ?_
    obtain ⟨g24, hF⟩ := gb_gdE hF
    obtain ⟨a25, ea25, hF⟩ := gb_rdE hF
    refine gb_getR fX11_68 dX11_gathers_129 (gb_kE g24) ea25 ?_
    refine gb_iconst (v := (3 : Int32)) dX11_gathers_132 (by decide) ?_
    refine gb_aload_n dX11_gathers_133 rfl rfl ?_
    refine gb_iload_n dX11_gathers_134 rfl rfl ?_
    refine gb_iconst (v := (1 : Int32)) dX11_gathers_135 (by decide) ?_
    refine gb_iconst (v := (2 : Int32)) dX11_gathers_136 (by decide) ?_
    obtain ⟨g26, hF⟩ := gb_gdE hF
    obtain ⟨x27, h28, cx27, hF⟩ := gb_bdE hF
    refine gb_cV (As := [.int p1, .int (1 : Int32), .int (2 : Int32)]) (S := [.int (3 : Int32), .ref a25]) (v := some (.int x27)) (h1 := h28) (S2 := [.int x27, .int (3 : Int32), .ref a25]) cf11 dX11_gathers_137 mtX11_changed lX11_303 inX11_changed seX11_changed (gb_kE g26) (fnX11_changed_ok _ _ cx27) (by decide) rfl (Nat.le_of_ble_eq_true rfl) (Nat.le_of_ble_eq_true rfl) rfl rfl ?_
    obtain ⟨g29, hF⟩ := gb_gdE hF
    obtain ⟨g30, hF⟩ := gb_gdE hF
    obtain ⟨h31, eh31, hF⟩ := gb_ltE hF
    refine gb_iast dX11_gathers_140 (gb_kE g29) (gb_inE g30) (gb_hp eh31 ?_)
    refine gb_aload_n dX11_gathers_141 rfl rfl ?_
    obtain ⟨g32, hF⟩ := gb_gdE hF
    obtain ⟨a33, ea33, hF⟩ := gb_rdE hF
    refine gb_getR fX11_68 dX11_gathers_142 (gb_kE g32) ea33 ?_
    refine gb_iconst (v := (4 : Int32)) dX11_gathers_145 (by decide) ?_
    refine gb_aload_n dX11_gathers_146 rfl rfl ?_
    refine gb_aload_n dX11_gathers_147 rfl rfl ?_
    obtain ⟨g34, hF⟩ := gb_gdE hF
    obtain ⟨a35, ea35, hF⟩ := gb_rdE hF
    refine gb_getR fX11_68 dX11_gathers_148 (gb_kE g34) ea35 ?_
    refine gb_iconst (v := (1 : Int32)) dX11_gathers_151 (by decide) ?_
    obtain ⟨g36, hF⟩ := gb_gdE hF
    obtain ⟨g37, hF⟩ := gb_gdE hF
    refine gb_iald dX11_gathers_152 (gb_kE g36) (gb_inE g37) ?_
    refine gb_iconst (v := (0 : Int32)) dX11_gathers_153 (by decide) ?_
    refine gb_iconst (v := (2 : Int32)) dX11_gathers_154 (by decide) ?_
    obtain ⟨g38, hF⟩ := gb_gdE hF
    obtain ⟨x39, h40, cx39, hF⟩ := gb_bdE hF
    refine gb_cV (As := [.int (gb_I h31 a35 (1 : Int32).toNatClampNeg), .int (0 : Int32), .int (2 : Int32)]) (S := [.int (4 : Int32), .ref a33]) (v := some (.int x39)) (h1 := h40) (S2 := [.int x39, .int (4 : Int32), .ref a33]) cf11 dX11_gathers_155 mtX11_changed lX11_303 inX11_changed seX11_changed (gb_kE g38) (fnX11_changed_ok _ _ cx39) (by decide) rfl (Nat.le_of_ble_eq_true rfl) (Nat.le_of_ble_eq_true rfl) rfl rfl ?_
    obtain ⟨g41, hF⟩ := gb_gdE hF
    obtain ⟨g42, hF⟩ := gb_gdE hF
    obtain ⟨h43, eh43, hF⟩ := gb_ltE hF
    refine gb_iast dX11_gathers_158 (gb_kE g41) (gb_inE g42) (gb_hp eh43 ?_)
    refine gb_aload_n dX11_gathers_159 rfl rfl ?_
    obtain ⟨g44, hF⟩ := gb_gdE hF
    obtain ⟨a45, ea45, hF⟩ := gb_rdE hF
    refine gb_getR fX11_68 dX11_gathers_160 (gb_kE g44) ea45 ?_
    refine gb_iconst (v := (5 : Int32)) dX11_gathers_163 (by decide) ?_
    refine gb_aload_n dX11_gathers_164 rfl rfl ?_
    refine gb_aload_n dX11_gathers_165 rfl rfl ?_
    obtain ⟨g46, hF⟩ := gb_gdE hF
    obtain ⟨a47, ea47, hF⟩ := gb_rdE hF
    refine gb_getR fX11_68 dX11_gathers_166 (gb_kE g46) ea47 ?_
    refine gb_iconst (v := (1 : Int32)) dX11_gathers_169 (by decide) ?_
    obtain ⟨g48, hF⟩ := gb_gdE hF
    obtain ⟨g49, hF⟩ := gb_gdE hF
    refine gb_iald dX11_gathers_170 (gb_kE g48) (gb_inE g49) ?_
    refine gb_iconst (v := (1 : Int32)) dX11_gathers_171 (by decide) ?_
    refine gb_iconst (v := (2 : Int32)) dX11_gathers_172 (by decide) ?_
    obtain ⟨g50, hF⟩ := gb_gdE hF
    obtain ⟨x51, h52, cx51, hF⟩ := gb_bdE hF
    refine gb_cV (As := [.int (gb_I h43 a47 (1 : Int32).toNatClampNeg), .int (1 : Int32), .int (2 : Int32)]) (S := [.int (5 : Int32), .ref a45]) (v := some (.int x51)) (h1 := h52) (S2 := [.int x51, .int (5 : Int32), .ref a45]) cf11 dX11_gathers_173 mtX11_changed lX11_303 inX11_changed seX11_changed (gb_kE g50) (fnX11_changed_ok _ _ cx51) (by decide) rfl (Nat.le_of_ble_eq_true rfl) (Nat.le_of_ble_eq_true rfl) rfl rfl ?_
    obtain ⟨g53, hF⟩ := gb_gdE hF
    obtain ⟨g54, hF⟩ := gb_gdE hF
    obtain ⟨h55, eh55, hF⟩ := gb_ltE hF
    refine gb_iast dX11_gathers_176 (gb_kE g53) (gb_inE g54) (gb_hp eh55 ?_)
    refine gb_iconst (v := (0 : Int32)) dX11_gathers_177 (by decide) ?_
    refine gb_istore_n (L' := [some (.ref p0), some (.int p1), some (.int (0 : Int32)), none, none]) dX11_gathers_178 rfl (by decide) rfl rfl ?_
    exact gb_wk (lpX11_gathers_179_ok gb_FU p0 (0 : Int32) h55 r hF) (And.intro rfl (And.intro rfl trivial))
  · replace hF := gb_ifF c2 hF
    refine gb_iconst (v := (0 : Int32)) dX11_gathers_8 (by decide) ?_
    refine gb_istore_n (L' := [some (.ref p0), some (.int p1), some (.int (0 : Int32)), none, none]) dX11_gathers_9 rfl (by decide) rfl rfl ?_
    exact gb_wk (lpX11_gathers_10_ok gb_FU p0 p1 (0 : Int32) h r hF) (And.intro rfl (And.intro rfl (And.intro rfl trivial)))
def fbX11_lays_336 (k102 : Nat → Int32 → gb_H → Option (Unit × gb_H)) (v0 : Nat) (v6 : Int32) (h : gb_H) : Option (Unit × gb_H) :=
  gb_lt (v6 + (1 : Int32)) fun x1 =>
  k102 v0 x1 h
theorem fbX11_lays_336_ok {X : gb_X} {k102 : Nat → Int32 → gb_H → Option (Unit × gb_H)} (hk102 : ∀ v0 v6 h r, k102 v0 v6 h = some r → gb_Ev X 6 mX11_lays 102 [some (.ref v0), none, none, none, none, none, some (.int v6), none, none, none, none] [] h (gb_wV r)) (v0 : Nat) (v6 : Int32) (h : gb_H) (r : Unit × gb_H) (hF : fbX11_lays_336 k102 v0 v6 h = some r) : gb_Ev X 6 mX11_lays 336 [some (.ref v0), none, none, none, none, none, some (.int v6), none, none, none, none] [] h (gb_wV r) := by
  unfold fbX11_lays_336 at hF
  obtain ⟨x1, ex1, hF⟩ := gb_ltE hF
  refine gb_iinc (v := x1) (L' := [some (.ref v0), none, none, none, none, none, some (.int x1), none, none, none, none]) dX11_lays_336 rfl (by rw [ex1]; rfl) (by decide) rfl rfl ?_
  refine gb_goto (tgt := 102) dX11_lays_339 (by decide) ?_
  exact gb_wk (hk102 v0 x1 h r hF) (And.intro rfl (And.intro rfl trivial))
def fbX11_lays_190 (k102 : Nat → Int32 → gb_H → Option (Unit × gb_H)) (k190 : Nat → Int32 → Int64 → Int32 → Int32 → gb_H → Option (Unit × gb_H)) (v0 : Nat) (v6 : Int32) (v7 : Int64) (v9 : Int32) (v10 : Int32) (h : gb_H) : Option (Unit × gb_H) :=
  if v10 < 0 then
    gb_gd (gb_k h v0 11) <|
    gb_rd (gb_R h v0 28) fun a3 =>
    gb_gd (gb_k h a3 23) <|
    gb_gd (gb_in h a3 v9) <|
    gb_gd (gb_k h v0 11) <|
    gb_rd (gb_R h v0 31) fun a7 =>
    gb_gd (gb_k h a7 23) <|
    gb_gd (gb_in h a7 (0 : Int32)) <|
    gb_gd (gb_k h v0 11) <|
    gb_rd (gb_R h v0 31) fun a11 =>
    gb_gd (gb_k h a11 23) <|
    gb_gd (gb_in h a11 (0 : Int32)) <|
    gb_gd (gb_k h v0 11) <|
    gb_rd (gb_R h v0 31) fun a15 =>
    gb_gd (gb_k h a15 23) <|
    gb_gd (gb_in h a15 (1 : Int32)) <|
    gb_gd (gb_k h v0 11) <|
    gb_rd (gb_R h v0 31) fun a19 =>
    gb_gd (gb_k h a19 23) <|
    gb_gd (gb_in h a19 (1 : Int32)) <|
    gb_gd (gb_k h v0 11) <|
    gb_rd (gb_R h v0 31) fun a23 =>
    gb_gd (gb_k h a23 23) <|
    gb_gd (gb_in h a23 (2 : Int32)) <|
    gb_gd (gb_k h v0 11) <|
    gb_rd (gb_R h v0 31) fun a27 =>
    gb_gd (gb_k h a27 23) <|
    gb_gd (gb_in h a27 (2 : Int32)) <|
    gb_gd (gb_k h v0 11) <|
    gb_rd (gb_R h v0 31) fun a31 =>
    gb_gd (gb_k h a31 23) <|
    gb_gd (gb_in h a31 (3 : Int32)) <|
    gb_gd (gb_k h v0 11) <|
    gb_rd (gb_R h v0 31) fun a35 =>
    gb_gd (gb_k h a35 23) <|
    gb_gd (gb_in h a35 (3 : Int32)) <|
    gb_gd (gb_k h a3 23) <|
    gb_gd (gb_in h a3 v9) <|
    gb_lt (gb_sL h a3 v9.toNatClampNeg ((gb_L h a3 v9.toNatClampNeg) + (v7 * (((((gb_L h a7 (0 : Int32).toNatClampNeg) * (gb_L h a11 (0 : Int32).toNatClampNeg)) + (((2 : Int64) * (gb_L h a15 (1 : Int32).toNatClampNeg)) * (gb_L h a19 (1 : Int32).toNatClampNeg))) + ((gb_L h a23 (2 : Int32).toNatClampNeg) * (gb_L h a27 (2 : Int32).toNatClampNeg))) + (((2 : Int64) * (gb_L h a31 (3 : Int32).toNatClampNeg)) * (gb_L h a35 (3 : Int32).toNatClampNeg)))))) fun h40 =>
    gb_gd (gb_k h40 v0 11) <|
    gb_rd (gb_R h40 v0 29) fun a42 =>
    gb_gd (gb_k h40 a42 23) <|
    gb_gd (gb_in h40 a42 v9) <|
    gb_gd (gb_k h40 v0 11) <|
    gb_rd (gb_R h40 v0 31) fun a46 =>
    gb_gd (gb_k h40 a46 23) <|
    gb_gd (gb_in h40 a46 (0 : Int32)) <|
    gb_gd (gb_k h40 v0 11) <|
    gb_rd (gb_R h40 v0 31) fun a50 =>
    gb_gd (gb_k h40 a50 23) <|
    gb_gd (gb_in h40 a50 (1 : Int32)) <|
    gb_gd (gb_k h40 v0 11) <|
    gb_rd (gb_R h40 v0 31) fun a54 =>
    gb_gd (gb_k h40 a54 23) <|
    gb_gd (gb_in h40 a54 (2 : Int32)) <|
    gb_gd (gb_k h40 v0 11) <|
    gb_rd (gb_R h40 v0 31) fun a58 =>
    gb_gd (gb_k h40 a58 23) <|
    gb_gd (gb_in h40 a58 (3 : Int32)) <|
    gb_gd (gb_k h40 a42 23) <|
    gb_gd (gb_in h40 a42 v9) <|
    gb_lt (gb_sL h40 a42 v9.toNatClampNeg ((gb_L h40 a42 v9.toNatClampNeg) + ((v7 * (2 : Int64)) * (((gb_L h40 a46 (0 : Int32).toNatClampNeg) * (gb_L h40 a50 (1 : Int32).toNatClampNeg)) + ((gb_L h40 a54 (2 : Int32).toNatClampNeg) * (gb_L h40 a58 (3 : Int32).toNatClampNeg)))))) fun h63 =>
    fbX11_lays_336 k102 v0 v6 h63
  else
    gb_gd (gb_k h v0 11) <|
    gb_bd (fnX11_inPath v0 v6 v10 h) fun x65 h66 =>
    gb_lt (((4 : Int32) * v9) + x65) fun x67 =>
    gb_lt (v10 + (-1 : Int32)) fun x68 =>
    k190 v0 v6 v7 x67 x68 h66
theorem fbX11_lays_190_ok {X : gb_X} {k102 : Nat → Int32 → gb_H → Option (Unit × gb_H)} {k190 : Nat → Int32 → Int64 → Int32 → Int32 → gb_H → Option (Unit × gb_H)} (hk102 : ∀ v0 v6 h r, k102 v0 v6 h = some r → gb_Ev X 6 mX11_lays 102 [some (.ref v0), none, none, none, none, none, some (.int v6), none, none, none, none] [] h (gb_wV r)) (hk190 : ∀ v0 v6 v7 v9 v10 h r, k190 v0 v6 v7 v9 v10 h = some r → gb_Ev X 6 mX11_lays 190 [some (.ref v0), none, none, none, none, none, some (.int v6), some (.long v7), none, some (.int v9), some (.int v10)] [] h (gb_wV r)) (v0 : Nat) (v6 : Int32) (v7 : Int64) (v9 : Int32) (v10 : Int32) (h : gb_H) (r : Unit × gb_H) (hF : fbX11_lays_190 k102 k190 v0 v6 v7 v9 v10 h = some r) : gb_Ev X 6 mX11_lays 190 [some (.ref v0), none, none, none, none, none, some (.int v6), some (.long v7), none, some (.int v9), some (.int v10)] [] h (gb_wV r) := by
  unfold fbX11_lays_190 at hF
  refine gb_iload dX11_lays_190 rfl ?_
  refine gb_if_lt (tgt := 216) dX11_lays_192 (by decide) (fun c1 => ?_) (fun c1 => ?_)
  · replace hF := gb_ifT c1 hF
    refine gb_aload_n dX11_lays_216 rfl rfl ?_
    obtain ⟨g2, hF⟩ := gb_gdE hF
    obtain ⟨a3, ea3, hF⟩ := gb_rdE hF
    refine gb_getR fX11_59 dX11_lays_217 (gb_kE g2) ea3 ?_
    refine gb_iload dX11_lays_220 rfl ?_
    refine gb_dup2 dX11_lays_222 rfl rfl ?_
    obtain ⟨g4, hF⟩ := gb_gdE hF
    obtain ⟨g5, hF⟩ := gb_gdE hF
    refine gb_lald dX11_lays_223 (gb_kE g4) (gb_inE g5) ?_
    refine gb_lload dX11_lays_224 rfl ?_
    refine gb_aload_n dX11_lays_226 rfl rfl ?_
    obtain ⟨g6, hF⟩ := gb_gdE hF
    obtain ⟨a7, ea7, hF⟩ := gb_rdE hF
    refine gb_getR fX11_65 dX11_lays_227 (gb_kE g6) ea7 ?_
    refine gb_iconst (v := (0 : Int32)) dX11_lays_230 (by decide) ?_
    obtain ⟨g8, hF⟩ := gb_gdE hF
    obtain ⟨g9, hF⟩ := gb_gdE hF
    refine gb_lald dX11_lays_231 (gb_kE g8) (gb_inE g9) ?_
    refine gb_aload_n dX11_lays_232 rfl rfl ?_
    obtain ⟨g10, hF⟩ := gb_gdE hF
    obtain ⟨a11, ea11, hF⟩ := gb_rdE hF
    refine gb_getR fX11_65 dX11_lays_233 (gb_kE g10) ea11 ?_
    refine gb_iconst (v := (0 : Int32)) dX11_lays_236 (by decide) ?_
    obtain ⟨g12, hF⟩ := gb_gdE hF
    obtain ⟨g13, hF⟩ := gb_gdE hF
    refine gb_lald dX11_lays_237 (gb_kE g12) (gb_inE g13) ?_
    refine gb_lmul dX11_lays_238 ?_
    refine gb_ldc2 (v := (2 : Int64)) dX11_lays_239 kX11_247 ?_
    refine gb_aload_n dX11_lays_242 rfl rfl ?_
    obtain ⟨g14, hF⟩ := gb_gdE hF
    obtain ⟨a15, ea15, hF⟩ := gb_rdE hF
    refine gb_getR fX11_65 dX11_lays_243 (gb_kE g14) ea15 ?_
    refine gb_iconst (v := (1 : Int32)) dX11_lays_246 (by decide) ?_
    obtain ⟨g16, hF⟩ := gb_gdE hF
    obtain ⟨g17, hF⟩ := gb_gdE hF
    refine gb_lald dX11_lays_247 (gb_kE g16) (gb_inE g17) ?_
    refine gb_lmul dX11_lays_248 ?_
    refine gb_aload_n dX11_lays_249 rfl rfl ?_
    obtain ⟨g18, hF⟩ := gb_gdE hF
    obtain ⟨a19, ea19, hF⟩ := gb_rdE hF
    refine gb_getR fX11_65 dX11_lays_250 (gb_kE g18) ea19 ?_
    refine gb_iconst (v := (1 : Int32)) dX11_lays_253 (by decide) ?_
    obtain ⟨g20, hF⟩ := gb_gdE hF
    obtain ⟨g21, hF⟩ := gb_gdE hF
    refine gb_lald dX11_lays_254 (gb_kE g20) (gb_inE g21) ?_
    refine gb_lmul dX11_lays_255 ?_
    refine gb_ladd dX11_lays_256 ?_
    refine gb_aload_n dX11_lays_257 rfl rfl ?_
    obtain ⟨g22, hF⟩ := gb_gdE hF
    obtain ⟨a23, ea23, hF⟩ := gb_rdE hF
    refine gb_getR fX11_65 dX11_lays_258 (gb_kE g22) ea23 ?_
    refine gb_iconst (v := (2 : Int32)) dX11_lays_261 (by decide) ?_
    obtain ⟨g24, hF⟩ := gb_gdE hF
    obtain ⟨g25, hF⟩ := gb_gdE hF
    refine gb_lald dX11_lays_262 (gb_kE g24) (gb_inE g25) ?_
    refine gb_aload_n dX11_lays_263 rfl rfl ?_
    obtain ⟨g26, hF⟩ := gb_gdE hF
    obtain ⟨a27, ea27, hF⟩ := gb_rdE hF
    refine gb_getR fX11_65 dX11_lays_264 (gb_kE g26) ea27 ?_
    refine gb_iconst (v := (2 : Int32)) dX11_lays_267 (by decide) ?_
    obtain ⟨g28, hF⟩ := gb_gdE hF
    obtain ⟨g29, hF⟩ := gb_gdE hF
    refine gb_lald dX11_lays_268 (gb_kE g28) (gb_inE g29) ?_
    refine gb_lmul dX11_lays_269 ?_
    refine gb_ladd dX11_lays_270 ?_
    refine gb_ldc2 (v := (2 : Int64)) dX11_lays_271 kX11_247 ?_
    refine gb_aload_n dX11_lays_274 rfl rfl ?_
    obtain ⟨g30, hF⟩ := gb_gdE hF
    obtain ⟨a31, ea31, hF⟩ := gb_rdE hF
    refine gb_getR fX11_65 dX11_lays_275 (gb_kE g30) ea31 ?_
    refine gb_iconst (v := (3 : Int32)) dX11_lays_278 (by decide) ?_
    obtain ⟨g32, hF⟩ := gb_gdE hF
    obtain ⟨g33, hF⟩ := gb_gdE hF
    refine gb_lald dX11_lays_279 (gb_kE g32) (gb_inE g33) ?_
    refine gb_lmul dX11_lays_280 ?_
    refine gb_aload_n dX11_lays_281 rfl rfl ?_
    obtain ⟨g34, hF⟩ := gb_gdE hF
    obtain ⟨a35, ea35, hF⟩ := gb_rdE hF
    refine gb_getR fX11_65 dX11_lays_282 (gb_kE g34) ea35 ?_
    refine gb_iconst (v := (3 : Int32)) dX11_lays_285 (by decide) ?_
    obtain ⟨g36, hF⟩ := gb_gdE hF
    obtain ⟨g37, hF⟩ := gb_gdE hF
    refine gb_lald dX11_lays_286 (gb_kE g36) (gb_inE g37) ?_
    refine gb_lmul dX11_lays_287 ?_
    refine gb_ladd dX11_lays_288 ?_
    refine gb_lmul dX11_lays_289 ?_
    refine gb_ladd dX11_lays_290 ?_
    obtain ⟨g38, hF⟩ := gb_gdE hF
    obtain ⟨g39, hF⟩ := gb_gdE hF
    obtain ⟨h40, eh40, hF⟩ := gb_ltE hF
    refine gb_last dX11_lays_291 (gb_kE g38) (gb_inE g39) (gb_hp eh40 ?_)
    refine gb_aload_n dX11_lays_292 rfl rfl ?_
    obtain ⟨g41, hF⟩ := gb_gdE hF
    obtain ⟨a42, ea42, hF⟩ := gb_rdE hF
    refine gb_getR fX11_62 dX11_lays_293 (gb_kE g41) ea42 ?_
    refine gb_iload dX11_lays_296 rfl ?_
    refine gb_dup2 dX11_lays_298 rfl rfl ?_
    obtain ⟨g43, hF⟩ := gb_gdE hF
    obtain ⟨g44, hF⟩ := gb_gdE hF
    refine gb_lald dX11_lays_299 (gb_kE g43) (gb_inE g44) ?_
    refine gb_lload dX11_lays_300 rfl ?_
    refine gb_ldc2 (v := (2 : Int64)) dX11_lays_302 kX11_247 ?_
    refine gb_lmul dX11_lays_305 ?_
    refine gb_aload_n dX11_lays_306 rfl rfl ?_
    obtain ⟨g45, hF⟩ := gb_gdE hF
    obtain ⟨a46, ea46, hF⟩ := gb_rdE hF
    refine gb_getR fX11_65 dX11_lays_307 (gb_kE g45) ea46 ?_
    refine gb_iconst (v := (0 : Int32)) dX11_lays_310 (by decide) ?_
    obtain ⟨g47, hF⟩ := gb_gdE hF
    obtain ⟨g48, hF⟩ := gb_gdE hF
    refine gb_lald dX11_lays_311 (gb_kE g47) (gb_inE g48) ?_
    refine gb_aload_n dX11_lays_312 rfl rfl ?_
    obtain ⟨g49, hF⟩ := gb_gdE hF
    obtain ⟨a50, ea50, hF⟩ := gb_rdE hF
    refine gb_getR fX11_65 dX11_lays_313 (gb_kE g49) ea50 ?_
    refine gb_iconst (v := (1 : Int32)) dX11_lays_316 (by decide) ?_
    obtain ⟨g51, hF⟩ := gb_gdE hF
    obtain ⟨g52, hF⟩ := gb_gdE hF
    refine gb_lald dX11_lays_317 (gb_kE g51) (gb_inE g52) ?_
    refine gb_lmul dX11_lays_318 ?_
    refine gb_aload_n dX11_lays_319 rfl rfl ?_
    obtain ⟨g53, hF⟩ := gb_gdE hF
    obtain ⟨a54, ea54, hF⟩ := gb_rdE hF
    refine gb_getR fX11_65 dX11_lays_320 (gb_kE g53) ea54 ?_
    refine gb_iconst (v := (2 : Int32)) dX11_lays_323 (by decide) ?_
    obtain ⟨g55, hF⟩ := gb_gdE hF
    obtain ⟨g56, hF⟩ := gb_gdE hF
    refine gb_lald dX11_lays_324 (gb_kE g55) (gb_inE g56) ?_
    refine gb_aload_n dX11_lays_325 rfl rfl ?_
    obtain ⟨g57, hF⟩ := gb_gdE hF
    obtain ⟨a58, ea58, hF⟩ := gb_rdE hF
    refine gb_getR fX11_65 dX11_lays_326 (gb_kE g57) ea58 ?_
    refine gb_iconst (v := (3 : Int32)) dX11_lays_329 (by decide) ?_
    obtain ⟨g59, hF⟩ := gb_gdE hF
    obtain ⟨g60, hF⟩ := gb_gdE hF
    refine gb_lald dX11_lays_330 (gb_kE g59) (gb_inE g60) ?_
    refine gb_lmul dX11_lays_331 ?_
    refine gb_ladd dX11_lays_332 ?_
    refine gb_lmul dX11_lays_333 ?_
    refine gb_ladd dX11_lays_334 ?_
    obtain ⟨g61, hF⟩ := gb_gdE hF
    obtain ⟨g62, hF⟩ := gb_gdE hF
    obtain ⟨h63, eh63, hF⟩ := gb_ltE hF
    refine gb_last dX11_lays_335 (gb_kE g61) (gb_inE g62) (gb_hp eh63 ?_)
    exact gb_wk (fbX11_lays_336_ok hk102 v0 v6 h63 r hF) (And.intro rfl (And.intro rfl trivial))
  · replace hF := gb_ifF c1 hF
    refine gb_iconst (v := (4 : Int32)) dX11_lays_195 (by decide) ?_
    refine gb_iload dX11_lays_196 rfl ?_
    refine gb_imul dX11_lays_198 ?_
    refine gb_aload_n dX11_lays_199 rfl rfl ?_
    refine gb_iload dX11_lays_200 rfl ?_
    refine gb_iload dX11_lays_202 rfl ?_
    obtain ⟨g64, hF⟩ := gb_gdE hF
    obtain ⟨x65, h66, cx65, hF⟩ := gb_bdE hF
    refine gb_cV (As := [.int v6, .int v10]) (S := [.int ((4 : Int32) * v9)]) (v := some (.int x65)) (h1 := h66) (S2 := [.int x65, .int ((4 : Int32) * v9)]) cf11 dX11_lays_204 mtX11_inPath lX11_256 inX11_inPath seX11_inPath (gb_kE g64) (fnX11_inPath_ok _ _ cx65) (by decide) rfl (Nat.le_of_ble_eq_true rfl) (Nat.le_of_ble_eq_true rfl) rfl rfl ?_
    refine gb_iadd dX11_lays_207 ?_
    obtain ⟨x67, ex67, hF⟩ := gb_ltE hF
    refine gb_topI ex67 ?_
    refine gb_istore (L' := [some (.ref v0), none, none, none, none, none, some (.int v6), some (.long v7), none, some (.int x67), some (.int v10)]) dX11_lays_208 (by decide) rfl rfl ?_
    obtain ⟨x68, ex68, hF⟩ := gb_ltE hF
    refine gb_iinc (v := x68) (L' := [some (.ref v0), none, none, none, none, none, some (.int v6), some (.long v7), none, some (.int x67), some (.int x68)]) dX11_lays_210 rfl (by rw [ex68]; rfl) (by decide) rfl rfl ?_
    refine gb_goto (tgt := 190) dX11_lays_213 (by decide) ?_
    exact gb_wk (hk190 v0 v6 v7 x67 x68 h66 r hF) (And.intro rfl (And.intro rfl (And.intro rfl (And.intro rfl (And.intro rfl trivial)))))
def lpX11_lays_190 (k102 : Nat → Int32 → gb_H → Option (Unit × gb_H)) (n : Nat) (v0 : Nat) (v6 : Int32) (v7 : Int64) (v9 : Int32) (v10 : Int32) (h : gb_H) : Option (Unit × gb_H) := gb_lp (σ := Nat × Int32 × Int64 × Int32 × Int32 × gb_H) (fun k s => fbX11_lays_190 k102 (fun v0 v6 v7 v9 v10 h => k (v0, v6, v7, v9, v10, h)) s.1 s.2.1 s.2.2.1 s.2.2.2.1 s.2.2.2.2.1 s.2.2.2.2.2) n (v0, v6, v7, v9, v10, h)
theorem lpX11_lays_190_ok {X : gb_X}  {k102 : Nat → Int32 → gb_H → Option (Unit × gb_H)} (hk102 : ∀ v0 v6 h r, k102 v0 v6 h = some r → gb_Ev X 6 mX11_lays 102 [some (.ref v0), none, none, none, none, none, some (.int v6), none, none, none, none] [] h (gb_wV r)) (n : Nat) (v0 : Nat) (v6 : Int32) (v7 : Int64) (v9 : Int32) (v10 : Int32) (h : gb_H) (r : Unit × gb_H) (hF : lpX11_lays_190 k102 n v0 v6 v7 v9 v10 h = some r) : gb_Ev X 6 mX11_lays 190 [some (.ref v0), none, none, none, none, none, some (.int v6), some (.long v7), none, some (.int v9), some (.int v10)] [] h (gb_wV r) := by
  exact gb_lpE (σ := Nat × Int32 × Int64 × Int32 × Int32 × gb_H) (P := fun s r => gb_Ev X 6 mX11_lays 190 [some (.ref s.1), none, none, none, none, none, some (.int s.2.1), some (.long s.2.2.1), none, some (.int s.2.2.2.1), some (.int s.2.2.2.2.1)] [] s.2.2.2.2.2 (gb_wV r)) (fun k hk s r hs => fbX11_lays_190_ok hk102 (fun v0 v6 v7 v9 v10 h r e => hk (v0, v6, v7, v9, v10, h) r e) _ _ _ _ _ _ r hs) n (v0, v6, v7, v9, v10, h) r hF
def fbX11_lays_176 (k102 : Nat → Int32 → gb_H → Option (Unit × gb_H)) (v0 : Nat) (v6 : Int32) (h : gb_H) : Option (Unit × gb_H) :=
  gb_gd (gb_k h v0 11) <|
  gb_bd (fnX11_factorials v0 v6 h) fun x2 h3 =>
  lpX11_lays_190 k102 gb_FU v0 v6 x2 (0 : Int32) (4 : Int32) h3
theorem fbX11_lays_176_ok {X : gb_X} {k102 : Nat → Int32 → gb_H → Option (Unit × gb_H)} (hk102 : ∀ v0 v6 h r, k102 v0 v6 h = some r → gb_Ev X 6 mX11_lays 102 [some (.ref v0), none, none, none, none, none, some (.int v6), none, none, none, none] [] h (gb_wV r)) (v0 : Nat) (v6 : Int32) (h : gb_H) (r : Unit × gb_H) (hF : fbX11_lays_176 k102 v0 v6 h = some r) : gb_Ev X 6 mX11_lays 176 [some (.ref v0), none, none, none, none, none, some (.int v6), none, none, none, none] [] h (gb_wV r) := by
  unfold fbX11_lays_176 at hF
  refine gb_aload_n dX11_lays_176 rfl rfl ?_
  refine gb_iload dX11_lays_177 rfl ?_
  obtain ⟨g1, hF⟩ := gb_gdE hF
  obtain ⟨x2, h3, cx2, hF⟩ := gb_bdE hF
  refine gb_cV (As := [.int v6]) (S := []) (v := some (.long x2)) (h1 := h3) (S2 := [.long x2]) cf11 dX11_lays_179 mtX11_factorials lX11_290 inX11_factorials seX11_factorials (gb_kE g1) (fnX11_factorials_ok _ _ cx2) (by decide) rfl (Nat.le_of_ble_eq_true rfl) (Nat.le_of_ble_eq_true rfl) rfl rfl ?_
  refine gb_lstore (L' := [some (.ref v0), none, none, none, none, none, some (.int v6), some (.long x2), none, none, none]) dX11_lays_182 (by decide) rfl rfl ?_
  refine gb_iconst (v := (0 : Int32)) dX11_lays_184 (by decide) ?_
  refine gb_istore (L' := [some (.ref v0), none, none, none, none, none, some (.int v6), some (.long x2), none, some (.int (0 : Int32)), none]) dX11_lays_185 (by decide) rfl rfl ?_
  refine gb_iconst (v := (4 : Int32)) dX11_lays_187 (by decide) ?_
  refine gb_istore (L' := [some (.ref v0), none, none, none, none, none, some (.int v6), some (.long x2), none, some (.int (0 : Int32)), some (.int (4 : Int32))]) dX11_lays_188 (by decide) rfl rfl ?_
  exact gb_wk (lpX11_lays_190_ok hk102 gb_FU v0 v6 x2 (0 : Int32) (4 : Int32) h3 r hF) (And.intro rfl (And.intro rfl (And.intro rfl (And.intro rfl (And.intro rfl trivial)))))
def fbX11_lays_102 (k102 : Nat → Int32 → gb_H → Option (Unit × gb_H)) (v0 : Nat) (v6 : Int32) (h : gb_H) : Option (Unit × gb_H) :=
  gb_gd (gb_k h v0 11) <|
  if (gb_I h v0 24) ≤ v6 then
    some ((), h)
  else
    gb_gd (gb_k h v0 11) <|
    gb_bd (fnX11_isSorted v0 v6 h) fun x4 h5 =>
    if x4 = 0 then
      fbX11_lays_336 k102 v0 v6 h5
    else
      gb_gd (gb_k h5 v0 11) <|
      gb_bd (fnX11_gathers v0 v6 h5) fun _ h9 =>
      gb_gd (gb_k h9 v0 11) <|
      gb_rd (gb_R h9 v0 31) fun a11 =>
      gb_gd (gb_k h9 a11 23) <|
      gb_gd (gb_in h9 a11 (0 : Int32)) <|
      if (gb_L h9 a11 (0 : Int32).toNatClampNeg) = (0 : Int64) then
        gb_gd (gb_k h9 v0 11) <|
        gb_rd (gb_R h9 v0 31) fun a16 =>
        gb_gd (gb_k h9 a16 23) <|
        gb_gd (gb_in h9 a16 (1 : Int32)) <|
        if (gb_L h9 a16 (1 : Int32).toNatClampNeg) = (0 : Int64) then
          gb_gd (gb_k h9 v0 11) <|
          gb_rd (gb_R h9 v0 31) fun a21 =>
          gb_gd (gb_k h9 a21 23) <|
          gb_gd (gb_in h9 a21 (2 : Int32)) <|
          if (gb_L h9 a21 (2 : Int32).toNatClampNeg) = (0 : Int64) then
            gb_gd (gb_k h9 v0 11) <|
            gb_rd (gb_R h9 v0 31) fun a26 =>
            gb_gd (gb_k h9 a26 23) <|
            gb_gd (gb_in h9 a26 (3 : Int32)) <|
            if (gb_L h9 a26 (3 : Int32).toNatClampNeg) = (0 : Int64) then
              fbX11_lays_336 k102 v0 v6 h9
            else
              fbX11_lays_176 k102 v0 v6 h9
          else
            fbX11_lays_176 k102 v0 v6 h9
        else
          fbX11_lays_176 k102 v0 v6 h9
      else
        fbX11_lays_176 k102 v0 v6 h9
theorem fbX11_lays_102_ok {X : gb_X} {k102 : Nat → Int32 → gb_H → Option (Unit × gb_H)} (hk102 : ∀ v0 v6 h r, k102 v0 v6 h = some r → gb_Ev X 6 mX11_lays 102 [some (.ref v0), none, none, none, none, none, some (.int v6), none, none, none, none] [] h (gb_wV r)) (v0 : Nat) (v6 : Int32) (h : gb_H) (r : Unit × gb_H) (hF : fbX11_lays_102 k102 v0 v6 h = some r) : gb_Ev X 6 mX11_lays 102 [some (.ref v0), none, none, none, none, none, some (.int v6), none, none, none, none] [] h (gb_wV r) := by
  unfold fbX11_lays_102 at hF
  refine gb_iload dX11_lays_102 rfl ?_
  refine gb_aload_n dX11_lays_104 rfl rfl ?_
  obtain ⟨g1, hF⟩ := gb_gdE hF
  refine gb_getI fX11_253 dX11_lays_105 (gb_kE g1) ?_
  refine gb_icmp_ge (tgt := 342) dX11_lays_108 (by decide) (fun c2 => ?_) (fun c2 => ?_)
  · replace hF := gb_ifT c2 hF
    cases hF
    exact gb_vret dX11_lays_342 rfl
  · replace hF := gb_ifF c2 hF
    refine gb_aload_n dX11_lays_111 rfl rfl ?_
    refine gb_iload dX11_lays_112 rfl ?_
    obtain ⟨g3, hF⟩ := gb_gdE hF
    obtain ⟨x4, h5, cx4, hF⟩ := gb_bdE hF
    refine gb_cV (As := [.int v6]) (S := []) (v := some (.int x4)) (h1 := h5) (S2 := [.int x4]) cf11 dX11_lays_114 mtX11_isSorted lX11_297 inX11_isSorted seX11_isSorted (gb_kE g3) (fnX11_isSorted_ok _ _ cx4) (by decide) rfl (Nat.le_of_ble_eq_true rfl) (Nat.le_of_ble_eq_true rfl) rfl rfl ?_
    refine gb_if_ne (tgt := 123) dX11_lays_117 (by decide) (fun c6 => ?_) (fun c6 => ?_)
    · replace hF := gb_ifF c6 hF
      refine gb_aload_n dX11_lays_123 rfl rfl ?_
      refine gb_iload dX11_lays_124 rfl ?_
      obtain ⟨g7, hF⟩ := gb_gdE hF
      obtain ⟨x8, h9, cx8, hF⟩ := gb_bdE hF
      refine gb_cV (As := [.int v6]) (S := []) (v := none) (h1 := h9) (S2 := []) cf11 dX11_lays_126 mtX11_gathers lX11_300 inX11_gathers seX11_gathers (gb_kE g7) (fnX11_gathers_ok _ _ cx8) (by decide) rfl (Nat.le_of_ble_eq_true rfl) (Nat.le_of_ble_eq_true rfl) rfl rfl ?_
      refine gb_aload_n dX11_lays_129 rfl rfl ?_
      obtain ⟨g10, hF⟩ := gb_gdE hF
      obtain ⟨a11, ea11, hF⟩ := gb_rdE hF
      refine gb_getR fX11_65 dX11_lays_130 (gb_kE g10) ea11 ?_
      refine gb_iconst (v := (0 : Int32)) dX11_lays_133 (by decide) ?_
      obtain ⟨g12, hF⟩ := gb_gdE hF
      obtain ⟨g13, hF⟩ := gb_gdE hF
      refine gb_lald dX11_lays_134 (gb_kE g12) (gb_inE g13) ?_
      refine gb_lconst (v := (0 : Int64)) dX11_lays_135 (by decide) ?_
      refine gb_lc_ne (tgt := 176) dX11_lays_136 dX11_lays_137 (by decide) (fun c14 => ?_) (fun c14 => ?_)
      · replace hF := gb_ifF c14 hF
        exact gb_wk (fbX11_lays_176_ok hk102 v0 v6 h9 r hF) (And.intro rfl (And.intro rfl trivial))
      · replace hF := gb_ifT c14 hF
        refine gb_aload_n dX11_lays_140 rfl rfl ?_
        obtain ⟨g15, hF⟩ := gb_gdE hF
        obtain ⟨a16, ea16, hF⟩ := gb_rdE hF
        refine gb_getR fX11_65 dX11_lays_141 (gb_kE g15) ea16 ?_
        refine gb_iconst (v := (1 : Int32)) dX11_lays_144 (by decide) ?_
        obtain ⟨g17, hF⟩ := gb_gdE hF
        obtain ⟨g18, hF⟩ := gb_gdE hF
        refine gb_lald dX11_lays_145 (gb_kE g17) (gb_inE g18) ?_
        refine gb_lconst (v := (0 : Int64)) dX11_lays_146 (by decide) ?_
        refine gb_lc_ne (tgt := 176) dX11_lays_147 dX11_lays_148 (by decide) (fun c19 => ?_) (fun c19 => ?_)
        · replace hF := gb_ifF c19 hF
          exact gb_wk (fbX11_lays_176_ok hk102 v0 v6 h9 r hF) (And.intro rfl (And.intro rfl trivial))
        · replace hF := gb_ifT c19 hF
          refine gb_aload_n dX11_lays_151 rfl rfl ?_
          obtain ⟨g20, hF⟩ := gb_gdE hF
          obtain ⟨a21, ea21, hF⟩ := gb_rdE hF
          refine gb_getR fX11_65 dX11_lays_152 (gb_kE g20) ea21 ?_
          refine gb_iconst (v := (2 : Int32)) dX11_lays_155 (by decide) ?_
          obtain ⟨g22, hF⟩ := gb_gdE hF
          obtain ⟨g23, hF⟩ := gb_gdE hF
          refine gb_lald dX11_lays_156 (gb_kE g22) (gb_inE g23) ?_
          refine gb_lconst (v := (0 : Int64)) dX11_lays_157 (by decide) ?_
          refine gb_lc_ne (tgt := 176) dX11_lays_158 dX11_lays_159 (by decide) (fun c24 => ?_) (fun c24 => ?_)
          · replace hF := gb_ifF c24 hF
            exact gb_wk (fbX11_lays_176_ok hk102 v0 v6 h9 r hF) (And.intro rfl (And.intro rfl trivial))
          · replace hF := gb_ifT c24 hF
            refine gb_aload_n dX11_lays_162 rfl rfl ?_
            obtain ⟨g25, hF⟩ := gb_gdE hF
            obtain ⟨a26, ea26, hF⟩ := gb_rdE hF
            refine gb_getR fX11_65 dX11_lays_163 (gb_kE g25) ea26 ?_
            refine gb_iconst (v := (3 : Int32)) dX11_lays_166 (by decide) ?_
            obtain ⟨g27, hF⟩ := gb_gdE hF
            obtain ⟨g28, hF⟩ := gb_gdE hF
            refine gb_lald dX11_lays_167 (gb_kE g27) (gb_inE g28) ?_
            refine gb_lconst (v := (0 : Int64)) dX11_lays_168 (by decide) ?_
            refine gb_lc_ne (tgt := 176) dX11_lays_169 dX11_lays_170 (by decide) (fun c29 => ?_) (fun c29 => ?_)
            · replace hF := gb_ifF c29 hF
              exact gb_wk (fbX11_lays_176_ok hk102 v0 v6 h9 r hF) (And.intro rfl (And.intro rfl trivial))
            · replace hF := gb_ifT c29 hF
              refine gb_goto (tgt := 336) dX11_lays_173 (by decide) ?_
              exact gb_wk (fbX11_lays_336_ok hk102 v0 v6 h9 r hF) (And.intro rfl (And.intro rfl trivial))
    · replace hF := gb_ifT c6 hF
      refine gb_goto (tgt := 336) dX11_lays_120 (by decide) ?_
      exact gb_wk (fbX11_lays_336_ok hk102 v0 v6 h5 r hF) (And.intro rfl (And.intro rfl trivial))
def lpX11_lays_102 (n : Nat) (v0 : Nat) (v6 : Int32) (h : gb_H) : Option (Unit × gb_H) := gb_lp (σ := Nat × Int32 × gb_H) (fun k s => fbX11_lays_102 (fun v0 v6 h => k (v0, v6, h)) s.1 s.2.1 s.2.2) n (v0, v6, h)
theorem lpX11_lays_102_ok {X : gb_X}  (n : Nat) (v0 : Nat) (v6 : Int32) (h : gb_H) (r : Unit × gb_H) (hF : lpX11_lays_102 n v0 v6 h = some r) : gb_Ev X 6 mX11_lays 102 [some (.ref v0), none, none, none, none, none, some (.int v6), none, none, none, none] [] h (gb_wV r) := by
  exact gb_lpE (σ := Nat × Int32 × gb_H) (P := fun s r => gb_Ev X 6 mX11_lays 102 [some (.ref s.1), none, none, none, none, none, some (.int s.2.1), none, none, none, none] [] s.2.2 (gb_wV r)) (fun k hk s r hs => fbX11_lays_102_ok (fun v0 v6 h r e => hk (v0, v6, h) r e) _ _ _ r hs) n (v0, v6, h) r hF
def fbX11_lays_51 (k51 : Nat → Int32 → Int32 → Int32 → gb_H → Option (Unit × gb_H)) (v0 : Nat) (v4 : Int32) (v5 : Int32) (v6 : Int32) (h : gb_H) : Option (Unit × gb_H) :=
  gb_gd (gb_k h v0 11) <|
  if (gb_I h v0 23) ≤ v6 then
    gb_gd (gb_k h v0 11) <|
    gb_bd (fnX11_factorials v0 v5 h) fun x4 h5 =>
    gb_gd (gb_k h5 v0 11) <|
    gb_lt (gb_sL h5 v0 30 (((v4.toInt64) * (v4.toInt64)) * x4)) fun h7 =>
    lpX11_lays_102 gb_FU v0 (0 : Int32) h7
  else
    gb_gd (gb_k h v0 11) <|
    gb_rd (gb_R h v0 2) fun a9 =>
    gb_gd (gb_k h a9 20) <|
    gb_gd (gb_in h a9 v6) <|
    gb_lt (((16 : Int32) * v5) + (gb_I h a9 v6.toNatClampNeg)) fun x12 =>
    gb_lt (v6 + (1 : Int32)) fun x13 =>
    k51 v0 v4 x12 x13 h
theorem fbX11_lays_51_ok {X : gb_X} {k51 : Nat → Int32 → Int32 → Int32 → gb_H → Option (Unit × gb_H)} (hk51 : ∀ v0 v4 v5 v6 h r, k51 v0 v4 v5 v6 h = some r → gb_Ev X 6 mX11_lays 51 [some (.ref v0), none, none, none, some (.int v4), some (.int v5), some (.int v6), none, none, none, none] [] h (gb_wV r)) (v0 : Nat) (v4 : Int32) (v5 : Int32) (v6 : Int32) (h : gb_H) (r : Unit × gb_H) (hF : fbX11_lays_51 k51 v0 v4 v5 v6 h = some r) : gb_Ev X 6 mX11_lays 51 [some (.ref v0), none, none, none, some (.int v4), some (.int v5), some (.int v6), none, none, none, none] [] h (gb_wV r) := by
  unfold fbX11_lays_51 at hF
  refine gb_iload dX11_lays_51 rfl ?_
  refine gb_aload_n dX11_lays_53 rfl rfl ?_
  obtain ⟨g1, hF⟩ := gb_gdE hF
  refine gb_getI fX11_225 dX11_lays_54 (gb_kE g1) ?_
  refine gb_icmp_ge (tgt := 81) dX11_lays_57 (by decide) (fun c2 => ?_) (fun c2 => ?_)
  · replace hF := gb_ifT c2 hF
    refine gb_aload_n dX11_lays_81 rfl rfl ?_
    refine gb_iload dX11_lays_82 rfl ?_
    refine gb_i2l dX11_lays_84 ?_
    refine gb_iload dX11_lays_85 rfl ?_
    refine gb_i2l dX11_lays_87 ?_
    refine gb_lmul dX11_lays_88 ?_
    refine gb_aload_n dX11_lays_89 rfl rfl ?_
    refine gb_iload dX11_lays_90 rfl ?_
    obtain ⟨g3, hF⟩ := gb_gdE hF
    obtain ⟨x4, h5, cx4, hF⟩ := gb_bdE hF
    refine gb_cV (As := [.int v5]) (S := [.long ((v4.toInt64) * (v4.toInt64)), .ref v0]) (v := some (.long x4)) (h1 := h5) (S2 := [.long x4, .long ((v4.toInt64) * (v4.toInt64)), .ref v0]) cf11 dX11_lays_92 mtX11_factorials lX11_290 inX11_factorials seX11_factorials (gb_kE g3) (fnX11_factorials_ok _ _ cx4) (by decide) rfl (Nat.le_of_ble_eq_true rfl) (Nat.le_of_ble_eq_true rfl) rfl rfl ?_
    refine gb_lmul dX11_lays_95 ?_
    obtain ⟨g6, hF⟩ := gb_gdE hF
    obtain ⟨h7, eh7, hF⟩ := gb_ltE hF
    refine gb_putL fX11_293 (gb_nff nf11_30) dX11_lays_96 (gb_kE g6) (fun _ => ⟨rfl, rfl⟩) (gb_hp eh7 ?_)
    refine gb_iconst (v := (0 : Int32)) dX11_lays_99 (by decide) ?_
    refine gb_istore (L' := [some (.ref v0), none, none, none, some (.int v4), some (.int v5), some (.int (0 : Int32)), none, none, none, none]) dX11_lays_100 (by decide) rfl rfl ?_
    exact gb_wk (lpX11_lays_102_ok gb_FU v0 (0 : Int32) h7 r hF) (And.intro rfl (And.intro rfl trivial))
  · replace hF := gb_ifF c2 hF
    refine gb_bipush (v := (16 : Int32)) dX11_lays_60 (by decide) ?_
    refine gb_iload dX11_lays_62 rfl ?_
    refine gb_imul dX11_lays_64 ?_
    refine gb_aload_n dX11_lays_65 rfl rfl ?_
    obtain ⟨g8, hF⟩ := gb_gdE hF
    obtain ⟨a9, ea9, hF⟩ := gb_rdE hF
    refine gb_getR fX11_7 dX11_lays_66 (gb_kE g8) ea9 ?_
    refine gb_iload dX11_lays_69 rfl ?_
    obtain ⟨g10, hF⟩ := gb_gdE hF
    obtain ⟨g11, hF⟩ := gb_gdE hF
    refine gb_iald dX11_lays_71 (gb_kE g10) (gb_inE g11) ?_
    refine gb_iadd dX11_lays_72 ?_
    obtain ⟨x12, ex12, hF⟩ := gb_ltE hF
    refine gb_topI ex12 ?_
    refine gb_istore (L' := [some (.ref v0), none, none, none, some (.int v4), some (.int x12), some (.int v6), none, none, none, none]) dX11_lays_73 (by decide) rfl rfl ?_
    obtain ⟨x13, ex13, hF⟩ := gb_ltE hF
    refine gb_iinc (v := x13) (L' := [some (.ref v0), none, none, none, some (.int v4), some (.int x12), some (.int x13), none, none, none, none]) dX11_lays_75 rfl (by rw [ex13]; rfl) (by decide) rfl rfl ?_
    refine gb_goto (tgt := 51) dX11_lays_78 (by decide) ?_
    exact gb_wk (hk51 v0 v4 x12 x13 h r hF) (And.intro rfl (And.intro rfl (And.intro rfl (And.intro rfl trivial))))
def lpX11_lays_51 (n : Nat) (v0 : Nat) (v4 : Int32) (v5 : Int32) (v6 : Int32) (h : gb_H) : Option (Unit × gb_H) := gb_lp (σ := Nat × Int32 × Int32 × Int32 × gb_H) (fun k s => fbX11_lays_51 (fun v0 v4 v5 v6 h => k (v0, v4, v5, v6, h)) s.1 s.2.1 s.2.2.1 s.2.2.2.1 s.2.2.2.2) n (v0, v4, v5, v6, h)
theorem lpX11_lays_51_ok {X : gb_X}  (n : Nat) (v0 : Nat) (v4 : Int32) (v5 : Int32) (v6 : Int32) (h : gb_H) (r : Unit × gb_H) (hF : lpX11_lays_51 n v0 v4 v5 v6 h = some r) : gb_Ev X 6 mX11_lays 51 [some (.ref v0), none, none, none, some (.int v4), some (.int v5), some (.int v6), none, none, none, none] [] h (gb_wV r) := by
  exact gb_lpE (σ := Nat × Int32 × Int32 × Int32 × gb_H) (P := fun s r => gb_Ev X 6 mX11_lays 51 [some (.ref s.1), none, none, none, some (.int s.2.1), some (.int s.2.2.1), some (.int s.2.2.2.1), none, none, none, none] [] s.2.2.2.2 (gb_wV r)) (fun k hk s r hs => fbX11_lays_51_ok (fun v0 v4 v5 v6 h r e => hk (v0, v4, v5, v6, h) r e) _ _ _ _ _ r hs) n (v0, v4, v5, v6, h) r hF
def fbX11_lays_15 (k15 : Nat → Int32 → Int32 → gb_H → Option (Unit × gb_H)) (v0 : Nat) (v4 : Int32) (v5 : Int32) (h : gb_H) : Option (Unit × gb_H) :=
  if (1024 : Int32) ≤ v5 then
    lpX11_lays_51 gb_FU v0 v4 (0 : Int32) (0 : Int32) h
  else
    gb_gd (gb_k h v0 11) <|
    gb_rd (gb_R h v0 28) fun a3 =>
    gb_gd (gb_k h a3 23) <|
    gb_gd (gb_in h a3 v5) <|
    gb_lt (gb_sL h a3 v5.toNatClampNeg (0 : Int64)) fun h6 =>
    gb_gd (gb_k h6 v0 11) <|
    gb_rd (gb_R h6 v0 29) fun a8 =>
    gb_gd (gb_k h6 a8 23) <|
    gb_gd (gb_in h6 a8 v5) <|
    gb_lt (gb_sL h6 a8 v5.toNatClampNeg (0 : Int64)) fun h11 =>
    gb_lt (v5 + (1 : Int32)) fun x12 =>
    k15 v0 v4 x12 h11
theorem fbX11_lays_15_ok {X : gb_X} {k15 : Nat → Int32 → Int32 → gb_H → Option (Unit × gb_H)} (hk15 : ∀ v0 v4 v5 h r, k15 v0 v4 v5 h = some r → gb_Ev X 6 mX11_lays 15 [some (.ref v0), none, none, none, some (.int v4), some (.int v5), none, none, none, none, none] [] h (gb_wV r)) (v0 : Nat) (v4 : Int32) (v5 : Int32) (h : gb_H) (r : Unit × gb_H) (hF : fbX11_lays_15 k15 v0 v4 v5 h = some r) : gb_Ev X 6 mX11_lays 15 [some (.ref v0), none, none, none, some (.int v4), some (.int v5), none, none, none, none, none] [] h (gb_wV r) := by
  unfold fbX11_lays_15 at hF
  refine gb_iload dX11_lays_15 rfl ?_
  refine gb_sipush (v := (1024 : Int32)) dX11_lays_17 (by decide) ?_
  refine gb_icmp_ge (tgt := 45) dX11_lays_20 (by decide) (fun c1 => ?_) (fun c1 => ?_)
  · replace hF := gb_ifT c1 hF
    refine gb_iconst (v := (0 : Int32)) dX11_lays_45 (by decide) ?_
    refine gb_istore (L' := [some (.ref v0), none, none, none, some (.int v4), some (.int (0 : Int32)), none, none, none, none, none]) dX11_lays_46 (by decide) rfl rfl ?_
    refine gb_iconst (v := (0 : Int32)) dX11_lays_48 (by decide) ?_
    refine gb_istore (L' := [some (.ref v0), none, none, none, some (.int v4), some (.int (0 : Int32)), some (.int (0 : Int32)), none, none, none, none]) dX11_lays_49 (by decide) rfl rfl ?_
    exact gb_wk (lpX11_lays_51_ok gb_FU v0 v4 (0 : Int32) (0 : Int32) h r hF) (And.intro rfl (And.intro rfl (And.intro rfl (And.intro rfl trivial))))
  · replace hF := gb_ifF c1 hF
    refine gb_aload_n dX11_lays_23 rfl rfl ?_
    obtain ⟨g2, hF⟩ := gb_gdE hF
    obtain ⟨a3, ea3, hF⟩ := gb_rdE hF
    refine gb_getR fX11_59 dX11_lays_24 (gb_kE g2) ea3 ?_
    refine gb_iload dX11_lays_27 rfl ?_
    refine gb_lconst (v := (0 : Int64)) dX11_lays_29 (by decide) ?_
    obtain ⟨g4, hF⟩ := gb_gdE hF
    obtain ⟨g5, hF⟩ := gb_gdE hF
    obtain ⟨h6, eh6, hF⟩ := gb_ltE hF
    refine gb_last dX11_lays_30 (gb_kE g4) (gb_inE g5) (gb_hp eh6 ?_)
    refine gb_aload_n dX11_lays_31 rfl rfl ?_
    obtain ⟨g7, hF⟩ := gb_gdE hF
    obtain ⟨a8, ea8, hF⟩ := gb_rdE hF
    refine gb_getR fX11_62 dX11_lays_32 (gb_kE g7) ea8 ?_
    refine gb_iload dX11_lays_35 rfl ?_
    refine gb_lconst (v := (0 : Int64)) dX11_lays_37 (by decide) ?_
    obtain ⟨g9, hF⟩ := gb_gdE hF
    obtain ⟨g10, hF⟩ := gb_gdE hF
    obtain ⟨h11, eh11, hF⟩ := gb_ltE hF
    refine gb_last dX11_lays_38 (gb_kE g9) (gb_inE g10) (gb_hp eh11 ?_)
    obtain ⟨x12, ex12, hF⟩ := gb_ltE hF
    refine gb_iinc (v := x12) (L' := [some (.ref v0), none, none, none, some (.int v4), some (.int x12), none, none, none, none, none]) dX11_lays_39 rfl (by rw [ex12]; rfl) (by decide) rfl rfl ?_
    refine gb_goto (tgt := 15) dX11_lays_42 (by decide) ?_
    exact gb_wk (hk15 v0 v4 x12 h11 r hF) (And.intro rfl (And.intro rfl (And.intro rfl trivial)))
def lpX11_lays_15 (n : Nat) (v0 : Nat) (v4 : Int32) (v5 : Int32) (h : gb_H) : Option (Unit × gb_H) := gb_lp (σ := Nat × Int32 × Int32 × gb_H) (fun k s => fbX11_lays_15 (fun v0 v4 v5 h => k (v0, v4, v5, h)) s.1 s.2.1 s.2.2.1 s.2.2.2) n (v0, v4, v5, h)
theorem lpX11_lays_15_ok {X : gb_X}  (n : Nat) (v0 : Nat) (v4 : Int32) (v5 : Int32) (h : gb_H) (r : Unit × gb_H) (hF : lpX11_lays_15 n v0 v4 v5 h = some r) : gb_Ev X 6 mX11_lays 15 [some (.ref v0), none, none, none, some (.int v4), some (.int v5), none, none, none, none, none] [] h (gb_wV r) := by
  exact gb_lpE (σ := Nat × Int32 × Int32 × gb_H) (P := fun s r => gb_Ev X 6 mX11_lays 15 [some (.ref s.1), none, none, none, some (.int s.2.1), some (.int s.2.2.1), none, none, none, none, none] [] s.2.2.2 (gb_wV r)) (fun k hk s r hs => fbX11_lays_15_ok (fun v0 v4 v5 h r e => hk (v0, v4, v5, h) r e) _ _ _ _ r hs) n (v0, v4, v5, h) r hF
def fnX11_lays (p0 : Nat) (p1 : Nat) (p2 : Int32) (p3 : Int32) (p4 : Int32) (h : gb_H) : Option (Unit × gb_H) :=
  gb_gd (gb_k h p0 11) <|
  gb_gd (gb_k h p0 11) <|
  gb_bd (fnX11_runs p0 p1 p2 p3 (gb_I h p0 1) (-1 : Int32) h) fun _ h4 =>
  lpX11_lays_15 gb_FU p0 p4 (0 : Int32) h4
theorem fnX11_lays_ok {X : gb_X}  {p0 : Nat} {p1 : Nat} {p2 : Int32} {p3 : Int32} {p4 : Int32} (h : gb_H) (r : Unit × gb_H) (hF : fnX11_lays p0 p1 p2 p3 p4 h = some r) : gb_Ev X 6 mX11_lays 0 (gb_L0 [.ref p0, .ref p1, .int p2, .int p3, .int p4]) [] h (gb_wV r) := by
  unfold fnX11_lays at hF
  refine gb_weak (L' := [some (.ref p0), some (.ref p1), some (.int p2), some (.int p3), some (.int p4), none, none, none, none, none, none]) (And.intro rfl (And.intro rfl (And.intro rfl (And.intro rfl (And.intro rfl trivial))))) ?_
  refine gb_aload_n dX11_lays_0 rfl rfl ?_
  refine gb_aload_n dX11_lays_1 rfl rfl ?_
  refine gb_iload_n dX11_lays_2 rfl rfl ?_
  refine gb_iload_n dX11_lays_3 rfl rfl ?_
  refine gb_aload_n dX11_lays_4 rfl rfl ?_
  obtain ⟨g1, hF⟩ := gb_gdE hF
  refine gb_getI fX11_112 dX11_lays_5 (gb_kE g1) ?_
  refine gb_iconst (v := (-1 : Int32)) dX11_lays_8 (by decide) ?_
  obtain ⟨g2, hF⟩ := gb_gdE hF
  obtain ⟨x3, h4, cx3, hF⟩ := gb_bdE hF
  refine gb_cV (As := [.ref p1, .int p2, .int p3, .int (gb_I h p0 1), .int (-1 : Int32)]) (S := []) (v := none) (h1 := h4) (S2 := []) cf11 dX11_lays_9 mtX11_runs lX11_280 inX11_runs seX11_runs (gb_kE g2) (fnX11_runs_ok _ _ cx3) (by decide) rfl (Nat.le_of_ble_eq_true rfl) (Nat.le_of_ble_eq_true rfl) rfl rfl ?_
  refine gb_iconst (v := (0 : Int32)) dX11_lays_12 (by decide) ?_
  refine gb_istore (L' := [some (.ref p0), some (.ref p1), some (.int p2), some (.int p3), some (.int p4), some (.int (0 : Int32)), none, none, none, none, none]) dX11_lays_13 (by decide) rfl rfl ?_
  exact gb_wk (lpX11_lays_15_ok gb_FU p0 p4 (0 : Int32) h4 r hF) (And.intro rfl (And.intro rfl (And.intro rfl trivial)))
def fnX11_laysBench (p0 : Nat) (p1 : Int32) (h : gb_H) : Option (Int32 × gb_H) :=
  gb_gd (gb_k h p0 11) <|
  gb_rd (gb_R h p0 3) fun a2 =>
  gb_gd (gb_k h p0 11) <|
  gb_rd (gb_R h p0 4) fun a4 =>
  gb_gd (gb_k h a4 20) <|
  gb_gd (gb_in h a4 p1) <|
  gb_gd (gb_k h p0 11) <|
  gb_bd (fnX11_deepOf a2 ((128 : Int32) * p1) (gb_I h a4 p1.toNatClampNeg) (gb_I h p0 1) h) fun x8 h9 =>
  if x8 ≤ (300000 : Int32) then
    gb_gd (gb_k h9 p0 11) <|
    gb_rd (gb_R h9 p0 3) fun a12 =>
    gb_gd (gb_k h9 p0 11) <|
    gb_rd (gb_R h9 p0 4) fun a14 =>
    gb_gd (gb_k h9 a14 20) <|
    gb_gd (gb_in h9 a14 p1) <|
    gb_gd (gb_k h9 p0 11) <|
    gb_bd (fnX11_lays p0 a12 ((128 : Int32) * p1) (gb_I h9 a14 p1.toNatClampNeg) x8 h9) fun _ h19 =>
    some ((1 : Int32), h19)
  else
    some ((0 : Int32), h9)
theorem fnX11_laysBench_ok {X : gb_X}  {p0 : Nat} {p1 : Int32} (h : gb_H) (r : Int32 × gb_H) (hF : fnX11_laysBench p0 p1 h = some r) : gb_Ev X 7 mX11_laysBench 0 (gb_L0 [.ref p0, .int p1]) [] h (gb_wI r) := by
  unfold fnX11_laysBench at hF
  refine gb_weak (L' := [some (.ref p0), some (.int p1), none]) (And.intro rfl (And.intro rfl trivial)) ?_
  refine gb_aload_n dX11_laysBench_0 rfl rfl ?_
  obtain ⟨g1, hF⟩ := gb_gdE hF
  obtain ⟨a2, ea2, hF⟩ := gb_rdE hF
  refine gb_getR fX11_13 dX11_laysBench_1 (gb_kE g1) ea2 ?_
  refine gb_sipush (v := (128 : Int32)) dX11_laysBench_4 (by decide) ?_
  refine gb_iload_n dX11_laysBench_7 rfl rfl ?_
  refine gb_imul dX11_laysBench_8 ?_
  refine gb_aload_n dX11_laysBench_9 rfl rfl ?_
  obtain ⟨g3, hF⟩ := gb_gdE hF
  obtain ⟨a4, ea4, hF⟩ := gb_rdE hF
  refine gb_getR fX11_16 dX11_laysBench_10 (gb_kE g3) ea4 ?_
  refine gb_iload_n dX11_laysBench_13 rfl rfl ?_
  obtain ⟨g5, hF⟩ := gb_gdE hF
  obtain ⟨g6, hF⟩ := gb_gdE hF
  refine gb_iald dX11_laysBench_14 (gb_kE g5) (gb_inE g6) ?_
  refine gb_aload_n dX11_laysBench_15 rfl rfl ?_
  obtain ⟨g7, hF⟩ := gb_gdE hF
  refine gb_getI fX11_112 dX11_laysBench_16 (gb_kE g7) ?_
  obtain ⟨x8, h9, cx8, hF⟩ := gb_bdE hF
  refine gb_cS (As := [.ref a2, .int ((128 : Int32) * p1), .int (gb_I h a4 p1.toNatClampNeg), .int (gb_I h p0 1)]) (S := []) (v := some (.int x8)) (h1 := h9) (S2 := [.int x8]) dX11_laysBench_19 mtX11_deepOf lX11_274 stX11_deepOf (fnX11_deepOf_ok _ _ cx8) (by decide) rfl (Nat.le_of_ble_eq_true rfl) (Nat.le_of_ble_eq_true rfl) rfl rfl ?_
  refine gb_istore_n (L' := [some (.ref p0), some (.int p1), some (.int x8)]) dX11_laysBench_22 rfl (by decide) rfl rfl ?_
  refine gb_iload_n dX11_laysBench_23 rfl rfl ?_
  refine gb_ldcw (v := (300000 : Int32)) dX11_laysBench_24 kX11_279 ?_
  refine gb_icmp_le (tgt := 32) dX11_laysBench_27 (by decide) (fun c10 => ?_) (fun c10 => ?_)
  · replace hF := gb_ifT c10 hF
    refine gb_aload_n dX11_laysBench_32 rfl rfl ?_
    refine gb_aload_n dX11_laysBench_33 rfl rfl ?_
    obtain ⟨g11, hF⟩ := gb_gdE hF
    obtain ⟨a12, ea12, hF⟩ := gb_rdE hF
    refine gb_getR fX11_13 dX11_laysBench_34 (gb_kE g11) ea12 ?_
    refine gb_sipush (v := (128 : Int32)) dX11_laysBench_37 (by decide) ?_
    refine gb_iload_n dX11_laysBench_40 rfl rfl ?_
    refine gb_imul dX11_laysBench_41 ?_
    refine gb_aload_n dX11_laysBench_42 rfl rfl ?_
    obtain ⟨g13, hF⟩ := gb_gdE hF
    obtain ⟨a14, ea14, hF⟩ := gb_rdE hF
    refine gb_getR fX11_16 dX11_laysBench_43 (gb_kE g13) ea14 ?_
    refine gb_iload_n dX11_laysBench_46 rfl rfl ?_
    obtain ⟨g15, hF⟩ := gb_gdE hF
    obtain ⟨g16, hF⟩ := gb_gdE hF
    refine gb_iald dX11_laysBench_47 (gb_kE g15) (gb_inE g16) ?_
    refine gb_iload_n dX11_laysBench_48 rfl rfl ?_
    obtain ⟨g17, hF⟩ := gb_gdE hF
    obtain ⟨x18, h19, cx18, hF⟩ := gb_bdE hF
    refine gb_cV (As := [.ref a12, .int ((128 : Int32) * p1), .int (gb_I h9 a14 p1.toNatClampNeg), .int x8]) (S := []) (v := none) (h1 := h19) (S2 := []) cf11 dX11_laysBench_49 mtX11_lays lX11_311 inX11_lays seX11_lays (gb_kE g17) (fnX11_lays_ok _ _ cx18) (by decide) rfl (Nat.le_of_ble_eq_true rfl) (Nat.le_of_ble_eq_true rfl) rfl rfl ?_
    refine gb_iconst (v := (1 : Int32)) dX11_laysBench_52 (by decide) ?_
    cases hF
    exact gb_zret dX11_laysBench_53 rfl (by decide)
  · replace hF := gb_ifF c10 hF
    refine gb_iconst (v := (0 : Int32)) dX11_laysBench_30 (by decide) ?_
    cases hF
    exact gb_zret dX11_laysBench_31 rfl (by decide)
def fnX11_placeOf (p0 : Int32) (p1 : Int32) (p2 : Int32) (p3 : Int32) (p4 : Int32) (h : gb_H) : Option (Int32 × gb_H) :=
  some (p0 + ((4 : Int32) * (p1 + ((4 : Int32) * (p2 + ((4 : Int32) * (p3 + ((4 : Int32) * p4))))))), h)
theorem fnX11_placeOf_ok {X : gb_X}  {p0 : Int32} {p1 : Int32} {p2 : Int32} {p3 : Int32} {p4 : Int32} (h : gb_H) (r : Int32 × gb_H) (hF : fnX11_placeOf p0 p1 p2 p3 p4 h = some r) : gb_Ev X 1 mX11_placeOf 0 (gb_L0 [.int p0, .int p1, .int p2, .int p3, .int p4]) [] h (gb_wI r) := by
  unfold fnX11_placeOf at hF
  refine gb_weak (L' := [some (.int p0), some (.int p1), some (.int p2), some (.int p3), some (.int p4)]) (And.intro rfl (And.intro rfl (And.intro rfl (And.intro rfl (And.intro rfl trivial))))) ?_
  refine gb_iload_n dX11_placeOf_0 rfl rfl ?_
  refine gb_iconst (v := (4 : Int32)) dX11_placeOf_1 (by decide) ?_
  refine gb_iload_n dX11_placeOf_2 rfl rfl ?_
  refine gb_iconst (v := (4 : Int32)) dX11_placeOf_3 (by decide) ?_
  refine gb_iload_n dX11_placeOf_4 rfl rfl ?_
  refine gb_iconst (v := (4 : Int32)) dX11_placeOf_5 (by decide) ?_
  refine gb_iload_n dX11_placeOf_6 rfl rfl ?_
  refine gb_iconst (v := (4 : Int32)) dX11_placeOf_7 (by decide) ?_
  refine gb_iload dX11_placeOf_8 rfl ?_
  refine gb_imul dX11_placeOf_10 ?_
  refine gb_iadd dX11_placeOf_11 ?_
  refine gb_imul dX11_placeOf_12 ?_
  refine gb_iadd dX11_placeOf_13 ?_
  refine gb_imul dX11_placeOf_14 ?_
  refine gb_iadd dX11_placeOf_15 ?_
  refine gb_imul dX11_placeOf_16 ?_
  refine gb_iadd dX11_placeOf_17 ?_
  cases hF
  exact gb_iret dX11_placeOf_18 rfl
def fbX11_divisor_28 (k28 : Int64 → Int64 → gb_H → Option (Int64 × gb_H)) (v4 : Int64) (v6 : Int64) (h : gb_H) : Option (Int64 × gb_H) :=
  if v6 ≤ (0 : Int64) then
    some (v4, h)
  else
    gb_gd (gb_nzL v6) <|
    gb_lt (v4 - v4 / v6 * v6) fun x3 =>
    k28 v6 x3 h
theorem fbX11_divisor_28_ok {X : gb_X} {k28 : Int64 → Int64 → gb_H → Option (Int64 × gb_H)} (hk28 : ∀ v4 v6 h r, k28 v4 v6 h = some r → gb_Ev X 1 mX11_divisor 28 [none, none, none, none, some (.long v4), none, some (.long v6), none, none, none] [] h (gb_wJ r)) (v4 : Int64) (v6 : Int64) (h : gb_H) (r : Int64 × gb_H) (hF : fbX11_divisor_28 k28 v4 v6 h = some r) : gb_Ev X 1 mX11_divisor 28 [none, none, none, none, some (.long v4), none, some (.long v6), none, none, none] [] h (gb_wJ r) := by
  unfold fbX11_divisor_28 at hF
  refine gb_lload dX11_divisor_28 rfl ?_
  refine gb_lconst (v := (0 : Int64)) dX11_divisor_30 (by decide) ?_
  refine gb_lc_le (tgt := 53) dX11_divisor_31 dX11_divisor_32 (by decide) (fun c1 => ?_) (fun c1 => ?_)
  · replace hF := gb_ifT c1 hF
    refine gb_lload dX11_divisor_53 rfl ?_
    cases hF
    exact gb_lret dX11_divisor_55 rfl
  · replace hF := gb_ifF c1 hF
    refine gb_lload dX11_divisor_35 rfl ?_
    refine gb_lload dX11_divisor_37 rfl ?_
    obtain ⟨g2, hF⟩ := gb_gdE hF
    refine gb_lrem dX11_divisor_39 (gb_nzLE g2) ?_
    obtain ⟨x3, ex3, hF⟩ := gb_ltE hF
    refine gb_topJ ex3 ?_
    refine gb_lstore (L' := [none, none, none, none, some (.long v4), none, some (.long v6), none, some (.long x3), none]) dX11_divisor_40 (by decide) rfl rfl ?_
    refine gb_lload dX11_divisor_42 rfl ?_
    refine gb_lstore (L' := [none, none, none, none, some (.long v6), none, some (.long v6), none, some (.long x3), none]) dX11_divisor_44 (by decide) rfl rfl ?_
    refine gb_lload dX11_divisor_46 rfl ?_
    refine gb_lstore (L' := [none, none, none, none, some (.long v6), none, some (.long x3), none, some (.long x3), none]) dX11_divisor_48 (by decide) rfl rfl ?_
    refine gb_goto (tgt := 28) dX11_divisor_50 (by decide) ?_
    exact gb_wk (hk28 v6 x3 h r hF) (And.intro rfl (And.intro rfl trivial))
def lpX11_divisor_28 (n : Nat) (v4 : Int64) (v6 : Int64) (h : gb_H) : Option (Int64 × gb_H) := gb_lp (σ := Int64 × Int64 × gb_H) (fun k s => fbX11_divisor_28 (fun v4 v6 h => k (v4, v6, h)) s.1 s.2.1 s.2.2) n (v4, v6, h)
theorem lpX11_divisor_28_ok {X : gb_X}  (n : Nat) (v4 : Int64) (v6 : Int64) (h : gb_H) (r : Int64 × gb_H) (hF : lpX11_divisor_28 n v4 v6 h = some r) : gb_Ev X 1 mX11_divisor 28 [none, none, none, none, some (.long v4), none, some (.long v6), none, none, none] [] h (gb_wJ r) := by
  exact gb_lpE (σ := Int64 × Int64 × gb_H) (P := fun s r => gb_Ev X 1 mX11_divisor 28 [none, none, none, none, some (.long s.1), none, some (.long s.2.1), none, none, none] [] s.2.2 (gb_wJ r)) (fun k hk s r hs => fbX11_divisor_28_ok (fun v4 v6 h r e => hk (v4, v6, h) r e) _ _ _ r hs) n (v4, v6, h) r hF
def fbX11_divisor_26 (v4 : Int64) (s0 : Int64) (h : gb_H) : Option (Int64 × gb_H) :=
  lpX11_divisor_28 gb_FU v4 s0 h
theorem fbX11_divisor_26_ok {X : gb_X} (v4 : Int64) (s0 : Int64) (h : gb_H) (r : Int64 × gb_H) (hF : fbX11_divisor_26 v4 s0 h = some r) : gb_Ev X 1 mX11_divisor 26 [none, none, none, none, some (.long v4), none, none, none, none, none] [.long s0] h (gb_wJ r) := by
  unfold fbX11_divisor_26 at hF
  refine gb_lstore (L' := [none, none, none, none, some (.long v4), none, some (.long s0), none, none, none]) dX11_divisor_26 (by decide) rfl rfl ?_
  exact gb_wk (lpX11_divisor_28_ok gb_FU v4 s0 h r hF) (And.intro rfl (And.intro rfl trivial))
def fbX11_divisor_12 (v2 : Int64) (s0 : Int64) (h : gb_H) : Option (Int64 × gb_H) :=
  if (0 : Int64) ≤ v2 then
    fbX11_divisor_26 s0 v2 h
  else
    fbX11_divisor_26 s0 (-v2) h
theorem fbX11_divisor_12_ok {X : gb_X} (v2 : Int64) (s0 : Int64) (h : gb_H) (r : Int64 × gb_H) (hF : fbX11_divisor_12 v2 s0 h = some r) : gb_Ev X 1 mX11_divisor 12 [none, none, some (.long v2), none, none, none, none, none, none, none] [.long s0] h (gb_wJ r) := by
  unfold fbX11_divisor_12 at hF
  refine gb_lstore (L' := [none, none, some (.long v2), none, some (.long s0), none, none, none, none, none]) dX11_divisor_12 (by decide) rfl rfl ?_
  refine gb_lload_n dX11_divisor_14 rfl rfl ?_
  refine gb_lconst (v := (0 : Int64)) dX11_divisor_15 (by decide) ?_
  refine gb_lc_ge (tgt := 25) dX11_divisor_16 dX11_divisor_17 (by decide) (fun c1 => ?_) (fun c1 => ?_)
  · replace hF := gb_ifT c1 hF
    refine gb_lload_n dX11_divisor_25 rfl rfl ?_
    exact gb_wk (fbX11_divisor_26_ok s0 v2 h r hF) (And.intro rfl trivial)
  · replace hF := gb_ifF c1 hF
    refine gb_lload_n dX11_divisor_20 rfl rfl ?_
    refine gb_lneg dX11_divisor_21 ?_
    refine gb_goto (tgt := 26) dX11_divisor_22 (by decide) ?_
    exact gb_wk (fbX11_divisor_26_ok s0 (-v2) h r hF) (And.intro rfl trivial)
def fnX11_divisor (p0 : Int64) (p1 : Int64) (h : gb_H) : Option (Int64 × gb_H) :=
  if (0 : Int64) ≤ p0 then
    fbX11_divisor_12 p1 p0 h
  else
    fbX11_divisor_12 p1 (-p0) h
theorem fnX11_divisor_ok {X : gb_X}  {p0 : Int64} {p1 : Int64} (h : gb_H) (r : Int64 × gb_H) (hF : fnX11_divisor p0 p1 h = some r) : gb_Ev X 1 mX11_divisor 0 (gb_L0 [.long p0, .long p1]) [] h (gb_wJ r) := by
  unfold fnX11_divisor at hF
  refine gb_weak (L' := [some (.long p0), none, some (.long p1), none, none, none, none, none, none, none]) (And.intro rfl (And.intro rfl trivial)) ?_
  refine gb_lload_n dX11_divisor_0 rfl rfl ?_
  refine gb_lconst (v := (0 : Int64)) dX11_divisor_1 (by decide) ?_
  refine gb_lc_ge (tgt := 11) dX11_divisor_2 dX11_divisor_3 (by decide) (fun c1 => ?_) (fun c1 => ?_)
  · replace hF := gb_ifT c1 hF
    refine gb_lload_n dX11_divisor_11 rfl rfl ?_
    exact gb_wk (fbX11_divisor_12_ok p1 p0 h r hF) (And.intro rfl trivial)
  · replace hF := gb_ifF c1 hF
    refine gb_lload_n dX11_divisor_6 rfl rfl ?_
    refine gb_lneg dX11_divisor_7 ?_
    refine gb_goto (tgt := 12) dX11_divisor_8 (by decide) ?_
    exact gb_wk (fbX11_divisor_12_ok p1 (-p0) h r hF) (And.intro rfl trivial)
def fbX11_tells_33 (v7 : Int64) (s0 : Int64) (h : gb_H) : Option (Int64 × gb_H) :=
  gb_gd (gb_nzL v7) <|
  some (s0 / v7, h)
theorem fbX11_tells_33_ok {X : gb_X} (v7 : Int64) (s0 : Int64) (h : gb_H) (r : Int64 × gb_H) (hF : fbX11_tells_33 v7 s0 h = some r) : gb_Ev X 2 mX11_tells 33 [none, none, none, none, none, none, none, some (.long v7), none] [.long s0] h (gb_wJ r) := by
  unfold fbX11_tells_33 at hF
  refine gb_lload dX11_tells_33 rfl ?_
  obtain ⟨g1, hF⟩ := gb_gdE hF
  refine gb_ldiv dX11_tells_35 (gb_nzLE g1) ?_
  cases hF
  exact gb_lret dX11_tells_36 rfl
def fnX11_tells (p0 : Int64) (p1 : Int64) (p2 : Int64) (p3 : Int32) (h : gb_H) : Option (Int64 × gb_H) :=
  gb_bd (fnX11_divisor p0 p1 h) fun x1 h2 =>
  gb_bd (fnX11_divisor x1 p2 h2) fun x3 h4 =>
  if p3 = 0 then
    fbX11_tells_33 x3 p0 h4
  else
    if p3 = (1 : Int32) then
      fbX11_tells_33 x3 p1 h4
    else
      fbX11_tells_33 x3 p2 h4
theorem fnX11_tells_ok {X : gb_X}  {p0 : Int64} {p1 : Int64} {p2 : Int64} {p3 : Int32} (h : gb_H) (r : Int64 × gb_H) (hF : fnX11_tells p0 p1 p2 p3 h = some r) : gb_Ev X 2 mX11_tells 0 (gb_L0 [.long p0, .long p1, .long p2, .int p3]) [] h (gb_wJ r) := by
  unfold fnX11_tells at hF
  refine gb_weak (L' := [some (.long p0), none, some (.long p1), none, some (.long p2), none, some (.int p3), none, none]) (And.intro rfl (And.intro rfl (And.intro rfl (And.intro rfl trivial)))) ?_
  refine gb_lload_n dX11_tells_0 rfl rfl ?_
  refine gb_lload_n dX11_tells_1 rfl rfl ?_
  obtain ⟨x1, h2, cx1, hF⟩ := gb_bdE hF
  refine gb_cS (As := [.long p0, .long p1]) (S := []) (v := some (.long x1)) (h1 := h2) (S2 := [.long x1]) dX11_tells_2 mtX11_divisor lX11_307 stX11_divisor (fnX11_divisor_ok _ _ cx1) (by decide) rfl (Nat.le_of_ble_eq_true rfl) (Nat.le_of_ble_eq_true rfl) rfl rfl ?_
  refine gb_lload dX11_tells_5 rfl ?_
  obtain ⟨x3, h4, cx3, hF⟩ := gb_bdE hF
  refine gb_cS (As := [.long x1, .long p2]) (S := []) (v := some (.long x3)) (h1 := h4) (S2 := [.long x3]) dX11_tells_7 mtX11_divisor lX11_307 stX11_divisor (fnX11_divisor_ok _ _ cx3) (by decide) rfl (Nat.le_of_ble_eq_true rfl) (Nat.le_of_ble_eq_true rfl) rfl rfl ?_
  refine gb_lstore (L' := [some (.long p0), none, some (.long p1), none, some (.long p2), none, some (.int p3), some (.long x3), none]) dX11_tells_10 (by decide) rfl rfl ?_
  refine gb_iload dX11_tells_12 rfl ?_
  refine gb_if_ne (tgt := 21) dX11_tells_14 (by decide) (fun c5 => ?_) (fun c5 => ?_)
  · replace hF := gb_ifF c5 hF
    refine gb_iload dX11_tells_21 rfl ?_
    refine gb_iconst (v := (1 : Int32)) dX11_tells_23 (by decide) ?_
    refine gb_icmp_ne (tgt := 31) dX11_tells_24 (by decide) (fun c6 => ?_) (fun c6 => ?_)
    · replace hF := gb_ifF c6 hF
      refine gb_lload dX11_tells_31 rfl ?_
      exact gb_wk (fbX11_tells_33_ok x3 p2 h4 r hF) (And.intro rfl trivial)
    · replace hF := gb_ifT c6 hF
      refine gb_lload_n dX11_tells_27 rfl rfl ?_
      refine gb_goto (tgt := 33) dX11_tells_28 (by decide) ?_
      exact gb_wk (fbX11_tells_33_ok x3 p1 h4 r hF) (And.intro rfl trivial)
  · replace hF := gb_ifT c5 hF
    refine gb_lload_n dX11_tells_17 rfl rfl ?_
    refine gb_goto (tgt := 33) dX11_tells_18 (by decide) ?_
    exact gb_wk (fbX11_tells_33_ok x3 p0 h4 r hF) (And.intro rfl trivial)
def fbX11_odds_58 (s0 : Int64) (h : gb_H) : Option (Int64 × gb_H) :=
  some (s0, h)
theorem fbX11_odds_58_ok {X : gb_X} (s0 : Int64) (h : gb_H) (r : Int64 × gb_H) (hF : fbX11_odds_58 s0 h = some r) : gb_Ev X 8 mX11_odds 58 [none, none, none, none, none, none, none, none, none] [.long s0] h (gb_wJ r) := by
  unfold fbX11_odds_58 at hF
  cases hF
  exact gb_lret dX11_odds_58 rfl
def fbX11_odds_45 (v7 : Int32) (h : gb_H) : Option (Int64 × gb_H) :=
  if v7 = (2 : Int32) then
    fbX11_odds_58 (-1 : Int64) h
  else
    fbX11_odds_58 (0 : Int64) h
theorem fbX11_odds_45_ok {X : gb_X} (v7 : Int32) (h : gb_H) (r : Int64 × gb_H) (hF : fbX11_odds_45 v7 h = some r) : gb_Ev X 8 mX11_odds 45 [none, none, none, none, none, none, none, some (.int v7), none] [] h (gb_wJ r) := by
  unfold fbX11_odds_45 at hF
  refine gb_iload dX11_odds_45 rfl ?_
  refine gb_iconst (v := (2 : Int32)) dX11_odds_47 (by decide) ?_
  refine gb_icmp_ne (tgt := 57) dX11_odds_48 (by decide) (fun c1 => ?_) (fun c1 => ?_)
  · replace hF := gb_ifF c1 hF
    refine gb_lconst (v := (0 : Int64)) dX11_odds_57 (by decide) ?_
    exact gb_wk (fbX11_odds_58_ok (0 : Int64) h r hF) trivial
  · replace hF := gb_ifT c1 hF
    refine gb_ldc2 (v := (-1 : Int64)) dX11_odds_51 kX11_245 ?_
    refine gb_goto (tgt := 58) dX11_odds_54 (by decide) ?_
    exact gb_wk (fbX11_odds_58_ok (-1 : Int64) h r hF) trivial
def fnX11_odds (p0 : Nat) (p1 : Int32) (p2 : Int32) (p3 : Int32) (p4 : Int32) (p5 : Int32) (p6 : Int32) (p7 : Int32) (h : gb_H) : Option (Int64 × gb_H) :=
  gb_bd (fnX11_in p7 (0 : Int32) (2 : Int32) h) fun x1 h2 =>
  if x1 = 0 then
    some ((-1 : Int64), h2)
  else
    gb_bd (fnX11_in p1 (0 : Int32) (3 : Int32) h2) fun x4 h5 =>
    if x4 = 0 then
      fbX11_odds_45 p7 h5
    else
      gb_bd (fnX11_areCounts p2 p3 p4 p5 p6 h5) fun x7 h8 =>
      if x7 = 0 then
        fbX11_odds_45 p7 h8
      else
        gb_gd (gb_k h8 p0 11) <|
        gb_bd (fnX11_laysBench p0 p1 h8) fun x11 h12 =>
        if x11 = 0 then
          fbX11_odds_45 p7 h12
        else
          gb_bd (fnX11_placeOf p2 p3 p4 p5 p6 h12) fun x14 h15 =>
          gb_gd (gb_k h15 p0 11) <|
          gb_rd (gb_R h15 p0 28) fun a17 =>
          gb_gd (gb_k h15 a17 23) <|
          gb_gd (gb_in h15 a17 x14) <|
          gb_gd (gb_k h15 p0 11) <|
          gb_rd (gb_R h15 p0 29) fun a21 =>
          gb_gd (gb_k h15 a21 23) <|
          gb_gd (gb_in h15 a21 x14) <|
          gb_gd (gb_k h15 p0 11) <|
          gb_bd (fnX11_tells (gb_L h15 a17 x14.toNatClampNeg) (gb_L h15 a21 x14.toNatClampNeg) (gb_L h15 p0 30) p7 h15) fun x25 h26 =>
          some (x25, h26)
theorem fnX11_odds_ok {X : gb_X}  {p0 : Nat} {p1 : Int32} {p2 : Int32} {p3 : Int32} {p4 : Int32} {p5 : Int32} {p6 : Int32} {p7 : Int32} (h : gb_H) (r : Int64 × gb_H) (hF : fnX11_odds p0 p1 p2 p3 p4 p5 p6 p7 h = some r) : gb_Ev X 8 mX11_odds 0 (gb_L0 [.ref p0, .int p1, .int p2, .int p3, .int p4, .int p5, .int p6, .int p7]) [] h (gb_wJ r) := by
  unfold fnX11_odds at hF
  refine gb_weak (L' := [some (.ref p0), some (.int p1), some (.int p2), some (.int p3), some (.int p4), some (.int p5), some (.int p6), some (.int p7), none]) (And.intro rfl (And.intro rfl (And.intro rfl (And.intro rfl (And.intro rfl (And.intro rfl (And.intro rfl (And.intro rfl trivial)))))))) ?_
  refine gb_iload dX11_odds_0 rfl ?_
  refine gb_iconst (v := (0 : Int32)) dX11_odds_2 (by decide) ?_
  refine gb_iconst (v := (2 : Int32)) dX11_odds_3 (by decide) ?_
  obtain ⟨x1, h2, cx1, hF⟩ := gb_bdE hF
  refine gb_cS (As := [.int p7, .int (0 : Int32), .int (2 : Int32)]) (S := []) (v := some (.int x1)) (h1 := h2) (S2 := [.int x1]) dX11_odds_4 mtX11_in lX11_104 stX11_in (fnX11_in_ok _ _ cx1) (by decide) rfl (Nat.le_of_ble_eq_true rfl) (Nat.le_of_ble_eq_true rfl) rfl rfl ?_
  refine gb_if_ne (tgt := 14) dX11_odds_7 (by decide) (fun c3 => ?_) (fun c3 => ?_)
  · replace hF := gb_ifF c3 hF
    refine gb_iload_n dX11_odds_14 rfl rfl ?_
    refine gb_iconst (v := (0 : Int32)) dX11_odds_15 (by decide) ?_
    refine gb_iconst (v := (3 : Int32)) dX11_odds_16 (by decide) ?_
    obtain ⟨x4, h5, cx4, hF⟩ := gb_bdE hF
    refine gb_cS (As := [.int p1, .int (0 : Int32), .int (3 : Int32)]) (S := []) (v := some (.int x4)) (h1 := h5) (S2 := [.int x4]) dX11_odds_17 mtX11_in lX11_104 stX11_in (fnX11_in_ok _ _ cx4) (by decide) rfl (Nat.le_of_ble_eq_true rfl) (Nat.le_of_ble_eq_true rfl) rfl rfl ?_
    refine gb_if_eq (tgt := 45) dX11_odds_20 (by decide) (fun c6 => ?_) (fun c6 => ?_)
    · replace hF := gb_ifT c6 hF
      exact gb_wk (fbX11_odds_45_ok p7 h5 r hF) (And.intro rfl trivial)
    · replace hF := gb_ifF c6 hF
      refine gb_iload_n dX11_odds_23 rfl rfl ?_
      refine gb_iload_n dX11_odds_24 rfl rfl ?_
      refine gb_iload dX11_odds_25 rfl ?_
      refine gb_iload dX11_odds_27 rfl ?_
      refine gb_iload dX11_odds_29 rfl ?_
      obtain ⟨x7, h8, cx7, hF⟩ := gb_bdE hF
      refine gb_cS (As := [.int p2, .int p3, .int p4, .int p5, .int p6]) (S := []) (v := some (.int x7)) (h1 := h8) (S2 := [.int x7]) dX11_odds_31 mtX11_areCounts lX11_315 stX11_areCounts (fnX11_areCounts_ok _ _ cx7) (by decide) rfl (Nat.le_of_ble_eq_true rfl) (Nat.le_of_ble_eq_true rfl) rfl rfl ?_
      refine gb_if_eq (tgt := 45) dX11_odds_34 (by decide) (fun c9 => ?_) (fun c9 => ?_)
      · replace hF := gb_ifT c9 hF
        exact gb_wk (fbX11_odds_45_ok p7 h8 r hF) (And.intro rfl trivial)
      · replace hF := gb_ifF c9 hF
        refine gb_aload_n dX11_odds_37 rfl rfl ?_
        refine gb_iload_n dX11_odds_38 rfl rfl ?_
        obtain ⟨g10, hF⟩ := gb_gdE hF
        obtain ⟨x11, h12, cx11, hF⟩ := gb_bdE hF
        refine gb_cV (As := [.int p1]) (S := []) (v := some (.int x11)) (h1 := h12) (S2 := [.int x11]) cf11 dX11_odds_39 mtX11_laysBench lX11_319 inX11_laysBench seX11_laysBench (gb_kE g10) (fnX11_laysBench_ok _ _ cx11) (by decide) rfl (Nat.le_of_ble_eq_true rfl) (Nat.le_of_ble_eq_true rfl) rfl rfl ?_
        refine gb_if_ne (tgt := 59) dX11_odds_42 (by decide) (fun c13 => ?_) (fun c13 => ?_)
        · replace hF := gb_ifF c13 hF
          refine gb_iload_n dX11_odds_59 rfl rfl ?_
          refine gb_iload_n dX11_odds_60 rfl rfl ?_
          refine gb_iload dX11_odds_61 rfl ?_
          refine gb_iload dX11_odds_63 rfl ?_
          refine gb_iload dX11_odds_65 rfl ?_
          obtain ⟨x14, h15, cx14, hF⟩ := gb_bdE hF
          refine gb_cS (As := [.int p2, .int p3, .int p4, .int p5, .int p6]) (S := []) (v := some (.int x14)) (h1 := h15) (S2 := [.int x14]) dX11_odds_67 mtX11_placeOf lX11_322 stX11_placeOf (fnX11_placeOf_ok _ _ cx14) (by decide) rfl (Nat.le_of_ble_eq_true rfl) (Nat.le_of_ble_eq_true rfl) rfl rfl ?_
          refine gb_istore (L' := [some (.ref p0), some (.int p1), some (.int p2), some (.int p3), some (.int p4), some (.int p5), some (.int p6), some (.int p7), some (.int x14)]) dX11_odds_70 (by decide) rfl rfl ?_
          refine gb_aload_n dX11_odds_72 rfl rfl ?_
          obtain ⟨g16, hF⟩ := gb_gdE hF
          obtain ⟨a17, ea17, hF⟩ := gb_rdE hF
          refine gb_getR fX11_59 dX11_odds_73 (gb_kE g16) ea17 ?_
          refine gb_iload dX11_odds_76 rfl ?_
          obtain ⟨g18, hF⟩ := gb_gdE hF
          obtain ⟨g19, hF⟩ := gb_gdE hF
          refine gb_lald dX11_odds_78 (gb_kE g18) (gb_inE g19) ?_
          refine gb_aload_n dX11_odds_79 rfl rfl ?_
          obtain ⟨g20, hF⟩ := gb_gdE hF
          obtain ⟨a21, ea21, hF⟩ := gb_rdE hF
          refine gb_getR fX11_62 dX11_odds_80 (gb_kE g20) ea21 ?_
          refine gb_iload dX11_odds_83 rfl ?_
          obtain ⟨g22, hF⟩ := gb_gdE hF
          obtain ⟨g23, hF⟩ := gb_gdE hF
          refine gb_lald dX11_odds_85 (gb_kE g22) (gb_inE g23) ?_
          refine gb_aload_n dX11_odds_86 rfl rfl ?_
          obtain ⟨g24, hF⟩ := gb_gdE hF
          refine gb_getL fX11_293 dX11_odds_87 (gb_kE g24) ?_
          refine gb_iload dX11_odds_90 rfl ?_
          obtain ⟨x25, h26, cx25, hF⟩ := gb_bdE hF
          refine gb_cS (As := [.long (gb_L h15 a17 x14.toNatClampNeg), .long (gb_L h15 a21 x14.toNatClampNeg), .long (gb_L h15 p0 30), .int p7]) (S := []) (v := some (.long x25)) (h1 := h26) (S2 := [.long x25]) dX11_odds_92 mtX11_tells lX11_326 stX11_tells (fnX11_tells_ok _ _ cx25) (by decide) rfl (Nat.le_of_ble_eq_true rfl) (Nat.le_of_ble_eq_true rfl) rfl rfl ?_
          cases hF
          exact gb_lret dX11_odds_95 rfl
        · replace hF := gb_ifT c13 hF
          exact gb_wk (fbX11_odds_45_ok p7 h12 r hF) (And.intro rfl trivial)
  · replace hF := gb_ifT c3 hF
    refine gb_ldc2 (v := (-1 : Int64)) dX11_odds_10 kX11_245 ?_
    cases hF
    exact gb_lret dX11_odds_13 rfl
def fbX11_dark_19 (v0 : Nat) (h : gb_H) : Option (Int32 × gb_H) :=
  gb_gd (gb_k h v0 11) <|
  gb_bd (fnX11_ends v0 (-1 : Int32) h) fun x2 h3 =>
  some (x2, h3)
theorem fbX11_dark_19_ok {X : gb_X} (v0 : Nat) (h : gb_H) (r : Int32 × gb_H) (hF : fbX11_dark_19 v0 h = some r) : gb_Ev X 2 mX11_dark 19 [some (.ref v0), none, none, none] [] h (gb_wI r) := by
  unfold fbX11_dark_19 at hF
  refine gb_aload_n dX11_dark_19 rfl rfl ?_
  refine gb_iconst (v := (-1 : Int32)) dX11_dark_20 (by decide) ?_
  obtain ⟨g1, hF⟩ := gb_gdE hF
  obtain ⟨x2, h3, cx2, hF⟩ := gb_bdE hF
  refine gb_cV (As := [.int (-1 : Int32)]) (S := []) (v := some (.int x2)) (h1 := h3) (S2 := [.int x2]) cf11 dX11_dark_21 mtX11_ends lX11_108 inX11_ends seX11_ends (gb_kE g1) (fnX11_ends_ok _ _ cx2) (by decide) rfl (Nat.le_of_ble_eq_true rfl) (Nat.le_of_ble_eq_true rfl) rfl rfl ?_
  cases hF
  exact gb_iret dX11_dark_24 rfl
def fnX11_dark (p0 : Nat) (p1 : Int32) (p2 : Int32) (h : gb_H) : Option (Int32 × gb_H) :=
  gb_bd (fnX11_in p1 (0 : Int32) (4 : Int32) h) fun x1 h2 =>
  if x1 = 0 then
    fbX11_dark_19 p0 h2
  else
    gb_bd (fnX11_in p2 (0 : Int32) (9 : Int32) h2) fun x4 h5 =>
    if x4 = 0 then
      fbX11_dark_19 p0 h5
    else
      gb_gd (gb_k h5 p0 11) <|
      gb_rd (gb_R h5 p0 33) fun a8 =>
      gb_gd (gb_k h5 a8 20) <|
      gb_gd (gb_in h5 a8 p1) <|
      gb_lt (gb_I h5 a8 p1.toNatClampNeg) fun x11 =>
      gb_gd (gb_k h5 p0 11) <|
      gb_rd (gb_R h5 p0 33) fun a13 =>
      gb_gd (gb_k h5 a13 20) <|
      gb_gd (gb_in h5 a13 p1) <|
      gb_lt (gb_sI h5 a13 p1.toNatClampNeg p2) fun h16 =>
      gb_gd (gb_k h16 p0 11) <|
      gb_bd (fnX11_ends p0 x11 h16) fun x18 h19 =>
      some (x18, h19)
theorem fnX11_dark_ok {X : gb_X}  {p0 : Nat} {p1 : Int32} {p2 : Int32} (h : gb_H) (r : Int32 × gb_H) (hF : fnX11_dark p0 p1 p2 h = some r) : gb_Ev X 2 mX11_dark 0 (gb_L0 [.ref p0, .int p1, .int p2]) [] h (gb_wI r) := by
  unfold fnX11_dark at hF
  refine gb_weak (L' := [some (.ref p0), some (.int p1), some (.int p2), none]) (And.intro rfl (And.intro rfl (And.intro rfl trivial))) ?_
  refine gb_iload_n dX11_dark_0 rfl rfl ?_
  refine gb_iconst (v := (0 : Int32)) dX11_dark_1 (by decide) ?_
  refine gb_iconst (v := (4 : Int32)) dX11_dark_2 (by decide) ?_
  obtain ⟨x1, h2, cx1, hF⟩ := gb_bdE hF
  refine gb_cS (As := [.int p1, .int (0 : Int32), .int (4 : Int32)]) (S := []) (v := some (.int x1)) (h1 := h2) (S2 := [.int x1]) dX11_dark_3 mtX11_in lX11_104 stX11_in (fnX11_in_ok _ _ cx1) (by decide) rfl (Nat.le_of_ble_eq_true rfl) (Nat.le_of_ble_eq_true rfl) rfl rfl ?_
  refine gb_if_eq (tgt := 19) dX11_dark_6 (by decide) (fun c3 => ?_) (fun c3 => ?_)
  · replace hF := gb_ifT c3 hF
    exact gb_wk (fbX11_dark_19_ok p0 h2 r hF) (And.intro rfl trivial)
  · replace hF := gb_ifF c3 hF
    refine gb_iload_n dX11_dark_9 rfl rfl ?_
    refine gb_iconst (v := (0 : Int32)) dX11_dark_10 (by decide) ?_
    refine gb_bipush (v := (9 : Int32)) dX11_dark_11 (by decide) ?_
    obtain ⟨x4, h5, cx4, hF⟩ := gb_bdE hF
    refine gb_cS (As := [.int p2, .int (0 : Int32), .int (9 : Int32)]) (S := []) (v := some (.int x4)) (h1 := h5) (S2 := [.int x4]) dX11_dark_13 mtX11_in lX11_104 stX11_in (fnX11_in_ok _ _ cx4) (by decide) rfl (Nat.le_of_ble_eq_true rfl) (Nat.le_of_ble_eq_true rfl) rfl rfl ?_
    refine gb_if_ne (tgt := 25) dX11_dark_16 (by decide) (fun c6 => ?_) (fun c6 => ?_)
    · replace hF := gb_ifF c6 hF
      refine gb_aload_n dX11_dark_25 rfl rfl ?_
      obtain ⟨g7, hF⟩ := gb_gdE hF
      obtain ⟨a8, ea8, hF⟩ := gb_rdE hF
      refine gb_getR fX11_71 dX11_dark_26 (gb_kE g7) ea8 ?_
      refine gb_iload_n dX11_dark_29 rfl rfl ?_
      obtain ⟨g9, hF⟩ := gb_gdE hF
      obtain ⟨g10, hF⟩ := gb_gdE hF
      refine gb_iald dX11_dark_30 (gb_kE g9) (gb_inE g10) ?_
      obtain ⟨x11, ex11, hF⟩ := gb_ltE hF
      refine gb_topI ex11 ?_
      refine gb_istore_n (L' := [some (.ref p0), some (.int p1), some (.int p2), some (.int x11)]) dX11_dark_31 rfl (by decide) rfl rfl ?_
      refine gb_aload_n dX11_dark_32 rfl rfl ?_
      obtain ⟨g12, hF⟩ := gb_gdE hF
      obtain ⟨a13, ea13, hF⟩ := gb_rdE hF
      refine gb_getR fX11_71 dX11_dark_33 (gb_kE g12) ea13 ?_
      refine gb_iload_n dX11_dark_36 rfl rfl ?_
      refine gb_iload_n dX11_dark_37 rfl rfl ?_
      obtain ⟨g14, hF⟩ := gb_gdE hF
      obtain ⟨g15, hF⟩ := gb_gdE hF
      obtain ⟨h16, eh16, hF⟩ := gb_ltE hF
      refine gb_iast dX11_dark_38 (gb_kE g14) (gb_inE g15) (gb_hp eh16 ?_)
      refine gb_aload_n dX11_dark_39 rfl rfl ?_
      refine gb_iload_n dX11_dark_40 rfl rfl ?_
      obtain ⟨g17, hF⟩ := gb_gdE hF
      obtain ⟨x18, h19, cx18, hF⟩ := gb_bdE hF
      refine gb_cV (As := [.int x11]) (S := []) (v := some (.int x18)) (h1 := h19) (S2 := [.int x18]) cf11 dX11_dark_41 mtX11_ends lX11_108 inX11_ends seX11_ends (gb_kE g17) (fnX11_ends_ok _ _ cx18) (by decide) rfl (Nat.le_of_ble_eq_true rfl) (Nat.le_of_ble_eq_true rfl) rfl rfl ?_
      cases hF
      exact gb_iret dX11_dark_44 rfl
    · replace hF := gb_ifT c6 hF
      exact gb_wk (fbX11_dark_19_ok p0 h5 r hF) (And.intro rfl trivial)
def fbX11_clicksOf_142 (k24 : Nat → Int32 → Int32 → gb_H → Option (Unit × gb_H)) (k64 : Nat → Int32 → Int32 → Int64 → Int32 → Int32 → gb_H → Option (Unit × gb_H)) (v0 : Nat) (v1 : Int32) (v2 : Int32) (v3 : Int64) (v5 : Int32) (v6 : Int32) (h : gb_H) : Option (Unit × gb_H) :=
  gb_gd (gb_nz (4 : Int32)) <|
  gb_lt (v5 / (4 : Int32)) fun x2 =>
  gb_lt (v6 + (1 : Int32)) fun x3 =>
  k64 v0 v1 v2 v3 x2 x3 h
theorem fbX11_clicksOf_142_ok {X : gb_X} {k24 : Nat → Int32 → Int32 → gb_H → Option (Unit × gb_H)} {k64 : Nat → Int32 → Int32 → Int64 → Int32 → Int32 → gb_H → Option (Unit × gb_H)} (hk24 : ∀ v0 v1 v2 h r, k24 v0 v1 v2 h = some r → gb_Ev X 1 mX11_clicksOf 24 [some (.ref v0), some (.int v1), some (.int v2), none, none, none, none, none] [] h (gb_wV r)) (hk64 : ∀ v0 v1 v2 v3 v5 v6 h r, k64 v0 v1 v2 v3 v5 v6 h = some r → gb_Ev X 1 mX11_clicksOf 64 [some (.ref v0), some (.int v1), some (.int v2), some (.long v3), none, some (.int v5), some (.int v6), none] [] h (gb_wV r)) (v0 : Nat) (v1 : Int32) (v2 : Int32) (v3 : Int64) (v5 : Int32) (v6 : Int32) (h : gb_H) (r : Unit × gb_H) (hF : fbX11_clicksOf_142 k24 k64 v0 v1 v2 v3 v5 v6 h = some r) : gb_Ev X 1 mX11_clicksOf 142 [some (.ref v0), some (.int v1), some (.int v2), some (.long v3), none, some (.int v5), some (.int v6), none] [] h (gb_wV r) := by
  unfold fbX11_clicksOf_142 at hF
  refine gb_iload dX11_clicksOf_142 rfl ?_
  refine gb_iconst (v := (4 : Int32)) dX11_clicksOf_144 (by decide) ?_
  obtain ⟨g1, hF⟩ := gb_gdE hF
  refine gb_idiv dX11_clicksOf_145 (gb_nzE g1) ?_
  obtain ⟨x2, ex2, hF⟩ := gb_ltE hF
  refine gb_topI ex2 ?_
  refine gb_istore (L' := [some (.ref v0), some (.int v1), some (.int v2), some (.long v3), none, some (.int x2), some (.int v6), none]) dX11_clicksOf_146 (by decide) rfl rfl ?_
  obtain ⟨x3, ex3, hF⟩ := gb_ltE hF
  refine gb_iinc (v := x3) (L' := [some (.ref v0), some (.int v1), some (.int v2), some (.long v3), none, some (.int x2), some (.int x3), none]) dX11_clicksOf_148 rfl (by rw [ex3]; rfl) (by decide) rfl rfl ?_
  refine gb_goto (tgt := 64) dX11_clicksOf_151 (by decide) ?_
  exact gb_wk (hk64 v0 v1 v2 v3 x2 x3 h r hF) (And.intro rfl (And.intro rfl (And.intro rfl (And.intro rfl (And.intro rfl (And.intro rfl trivial))))))
def fbX11_clicksOf_107 (k24 : Nat → Int32 → Int32 → gb_H → Option (Unit × gb_H)) (k64 : Nat → Int32 → Int32 → Int64 → Int32 → Int32 → gb_H → Option (Unit × gb_H)) (v0 : Nat) (v1 : Int32) (v2 : Int32) (v5 : Int32) (v6 : Int32) (s0 : Int64) (s1 : Int64) (h : gb_H) : Option (Unit × gb_H) :=
  gb_lt (s0 * s1) fun x1 =>
  fbX11_clicksOf_142 k24 k64 v0 v1 v2 x1 v5 v6 h
theorem fbX11_clicksOf_107_ok {X : gb_X} {k24 : Nat → Int32 → Int32 → gb_H → Option (Unit × gb_H)} {k64 : Nat → Int32 → Int32 → Int64 → Int32 → Int32 → gb_H → Option (Unit × gb_H)} (hk24 : ∀ v0 v1 v2 h r, k24 v0 v1 v2 h = some r → gb_Ev X 1 mX11_clicksOf 24 [some (.ref v0), some (.int v1), some (.int v2), none, none, none, none, none] [] h (gb_wV r)) (hk64 : ∀ v0 v1 v2 v3 v5 v6 h r, k64 v0 v1 v2 v3 v5 v6 h = some r → gb_Ev X 1 mX11_clicksOf 64 [some (.ref v0), some (.int v1), some (.int v2), some (.long v3), none, some (.int v5), some (.int v6), none] [] h (gb_wV r)) (v0 : Nat) (v1 : Int32) (v2 : Int32) (v5 : Int32) (v6 : Int32) (s0 : Int64) (s1 : Int64) (h : gb_H) (r : Unit × gb_H) (hF : fbX11_clicksOf_107 k24 k64 v0 v1 v2 v5 v6 s0 s1 h = some r) : gb_Ev X 1 mX11_clicksOf 107 [some (.ref v0), some (.int v1), some (.int v2), none, none, some (.int v5), some (.int v6), none] [.long s1, .long s0] h (gb_wV r) := by
  unfold fbX11_clicksOf_107 at hF
  refine gb_lmul dX11_clicksOf_107 ?_
  obtain ⟨x1, ex1, hF⟩ := gb_ltE hF
  refine gb_topJ ex1 ?_
  refine gb_lstore_n (L' := [some (.ref v0), some (.int v1), some (.int v2), some (.long x1), none, some (.int v5), some (.int v6), none]) dX11_clicksOf_108 rfl (by decide) rfl rfl ?_
  refine gb_goto (tgt := 142) dX11_clicksOf_109 (by decide) ?_
  exact gb_wk (fbX11_clicksOf_142_ok hk24 hk64 v0 v1 v2 x1 v5 v6 h r hF) (And.intro rfl (And.intro rfl (And.intro rfl (And.intro rfl (And.intro rfl (And.intro rfl trivial))))))
def fbX11_clicksOf_140 (k24 : Nat → Int32 → Int32 → gb_H → Option (Unit × gb_H)) (k64 : Nat → Int32 → Int32 → Int64 → Int32 → Int32 → gb_H → Option (Unit × gb_H)) (v0 : Nat) (v1 : Int32) (v2 : Int32) (v5 : Int32) (v6 : Int32) (s0 : Int64) (s1 : Int64) (h : gb_H) : Option (Unit × gb_H) :=
  gb_lt (s0 * s1) fun x1 =>
  fbX11_clicksOf_142 k24 k64 v0 v1 v2 x1 v5 v6 h
theorem fbX11_clicksOf_140_ok {X : gb_X} {k24 : Nat → Int32 → Int32 → gb_H → Option (Unit × gb_H)} {k64 : Nat → Int32 → Int32 → Int64 → Int32 → Int32 → gb_H → Option (Unit × gb_H)} (hk24 : ∀ v0 v1 v2 h r, k24 v0 v1 v2 h = some r → gb_Ev X 1 mX11_clicksOf 24 [some (.ref v0), some (.int v1), some (.int v2), none, none, none, none, none] [] h (gb_wV r)) (hk64 : ∀ v0 v1 v2 v3 v5 v6 h r, k64 v0 v1 v2 v3 v5 v6 h = some r → gb_Ev X 1 mX11_clicksOf 64 [some (.ref v0), some (.int v1), some (.int v2), some (.long v3), none, some (.int v5), some (.int v6), none] [] h (gb_wV r)) (v0 : Nat) (v1 : Int32) (v2 : Int32) (v5 : Int32) (v6 : Int32) (s0 : Int64) (s1 : Int64) (h : gb_H) (r : Unit × gb_H) (hF : fbX11_clicksOf_140 k24 k64 v0 v1 v2 v5 v6 s0 s1 h = some r) : gb_Ev X 1 mX11_clicksOf 140 [some (.ref v0), some (.int v1), some (.int v2), none, none, some (.int v5), some (.int v6), none] [.long s1, .long s0] h (gb_wV r) := by
  unfold fbX11_clicksOf_140 at hF
  refine gb_lmul dX11_clicksOf_140 ?_
  obtain ⟨x1, ex1, hF⟩ := gb_ltE hF
  refine gb_topJ ex1 ?_
  refine gb_lstore_n (L' := [some (.ref v0), some (.int v1), some (.int v2), some (.long x1), none, some (.int v5), some (.int v6), none]) dX11_clicksOf_141 rfl (by decide) rfl rfl ?_
  exact gb_wk (fbX11_clicksOf_142_ok hk24 hk64 v0 v1 v2 x1 v5 v6 h r hF) (And.intro rfl (And.intro rfl (And.intro rfl (And.intro rfl (And.intro rfl (And.intro rfl trivial))))))
def fbX11_clicksOf_85 (k24 : Nat → Int32 → Int32 → gb_H → Option (Unit × gb_H)) (k64 : Nat → Int32 → Int32 → Int64 → Int32 → Int32 → gb_H → Option (Unit × gb_H)) (v0 : Nat) (v1 : Int32) (v2 : Int32) (v3 : Int64) (v5 : Int32) (v6 : Int32) (s0 : Int32) (h : gb_H) : Option (Unit × gb_H) :=
  gb_gd (gb_nz (4 : Int32)) <|
  if (v5 - v5 / (4 : Int32) * (4 : Int32)) ≤ 0 then
    if s0 = 0 then
      gb_gd (gb_k h v0 11) <|
      gb_rd (gb_R h v0 33) fun a5 =>
      gb_gd (gb_k h a5 20) <|
      gb_gd (gb_in h a5 v6) <|
      fbX11_clicksOf_140 k24 k64 v0 v1 v2 v5 v6 v3 (((10 : Int32) - (gb_I h a5 v6.toNatClampNeg)).toInt64) h
    else
      gb_gd (gb_k h v0 11) <|
      gb_rd (gb_R h v0 33) fun a9 =>
      gb_gd (gb_k h a9 20) <|
      gb_gd (gb_in h a9 v6) <|
      fbX11_clicksOf_140 k24 k64 v0 v1 v2 v5 v6 v3 ((gb_I h a9 v6.toNatClampNeg).toInt64) h
  else
    if s0 = 0 then
      fbX11_clicksOf_107 k24 k64 v0 v1 v2 v5 v6 v3 (0 : Int64) h
    else
      fbX11_clicksOf_107 k24 k64 v0 v1 v2 v5 v6 v3 (10 : Int64) h
theorem fbX11_clicksOf_85_ok {X : gb_X} {k24 : Nat → Int32 → Int32 → gb_H → Option (Unit × gb_H)} {k64 : Nat → Int32 → Int32 → Int64 → Int32 → Int32 → gb_H → Option (Unit × gb_H)} (hk24 : ∀ v0 v1 v2 h r, k24 v0 v1 v2 h = some r → gb_Ev X 1 mX11_clicksOf 24 [some (.ref v0), some (.int v1), some (.int v2), none, none, none, none, none] [] h (gb_wV r)) (hk64 : ∀ v0 v1 v2 v3 v5 v6 h r, k64 v0 v1 v2 v3 v5 v6 h = some r → gb_Ev X 1 mX11_clicksOf 64 [some (.ref v0), some (.int v1), some (.int v2), some (.long v3), none, some (.int v5), some (.int v6), none] [] h (gb_wV r)) (v0 : Nat) (v1 : Int32) (v2 : Int32) (v3 : Int64) (v5 : Int32) (v6 : Int32) (s0 : Int32) (h : gb_H) (r : Unit × gb_H) (hF : fbX11_clicksOf_85 k24 k64 v0 v1 v2 v3 v5 v6 s0 h = some r) : gb_Ev X 1 mX11_clicksOf 85 [some (.ref v0), some (.int v1), some (.int v2), some (.long v3), none, some (.int v5), some (.int v6), none] [.int s0] h (gb_wV r) := by
  unfold fbX11_clicksOf_85 at hF
  refine gb_istore (L' := [some (.ref v0), some (.int v1), some (.int v2), some (.long v3), none, some (.int v5), some (.int v6), some (.int s0)]) dX11_clicksOf_85 (by decide) rfl rfl ?_
  refine gb_iload dX11_clicksOf_87 rfl ?_
  refine gb_iconst (v := (4 : Int32)) dX11_clicksOf_89 (by decide) ?_
  obtain ⟨g1, hF⟩ := gb_gdE hF
  refine gb_irem dX11_clicksOf_90 (gb_nzE g1) ?_
  refine gb_if_le (tgt := 112) dX11_clicksOf_91 (by decide) (fun c2 => ?_) (fun c2 => ?_)
  · replace hF := gb_ifT c2 hF
    refine gb_lload_n dX11_clicksOf_112 rfl rfl ?_
    refine gb_iload dX11_clicksOf_113 rfl ?_
    refine gb_if_eq (tgt := 129) dX11_clicksOf_115 (by decide) (fun c3 => ?_) (fun c3 => ?_)
    · replace hF := gb_ifT c3 hF
      refine gb_bipush (v := (10 : Int32)) dX11_clicksOf_129 (by decide) ?_
      refine gb_aload_n dX11_clicksOf_131 rfl rfl ?_
      obtain ⟨g4, hF⟩ := gb_gdE hF
      obtain ⟨a5, ea5, hF⟩ := gb_rdE hF
      refine gb_getR fX11_71 dX11_clicksOf_132 (gb_kE g4) ea5 ?_
      refine gb_iload dX11_clicksOf_135 rfl ?_
      obtain ⟨g6, hF⟩ := gb_gdE hF
      obtain ⟨g7, hF⟩ := gb_gdE hF
      refine gb_iald dX11_clicksOf_137 (gb_kE g6) (gb_inE g7) ?_
      refine gb_isub dX11_clicksOf_138 ?_
      refine gb_i2l dX11_clicksOf_139 ?_
      exact gb_wk (fbX11_clicksOf_140_ok hk24 hk64 v0 v1 v2 v5 v6 v3 (((10 : Int32) - (gb_I h a5 v6.toNatClampNeg)).toInt64) h r hF) (And.intro rfl (And.intro rfl (And.intro rfl (And.intro rfl (And.intro rfl trivial)))))
    · replace hF := gb_ifF c3 hF
      refine gb_aload_n dX11_clicksOf_118 rfl rfl ?_
      obtain ⟨g8, hF⟩ := gb_gdE hF
      obtain ⟨a9, ea9, hF⟩ := gb_rdE hF
      refine gb_getR fX11_71 dX11_clicksOf_119 (gb_kE g8) ea9 ?_
      refine gb_iload dX11_clicksOf_122 rfl ?_
      obtain ⟨g10, hF⟩ := gb_gdE hF
      obtain ⟨g11, hF⟩ := gb_gdE hF
      refine gb_iald dX11_clicksOf_124 (gb_kE g10) (gb_inE g11) ?_
      refine gb_i2l dX11_clicksOf_125 ?_
      refine gb_goto (tgt := 140) dX11_clicksOf_126 (by decide) ?_
      exact gb_wk (fbX11_clicksOf_140_ok hk24 hk64 v0 v1 v2 v5 v6 v3 ((gb_I h a9 v6.toNatClampNeg).toInt64) h r hF) (And.intro rfl (And.intro rfl (And.intro rfl (And.intro rfl (And.intro rfl trivial)))))
  · replace hF := gb_ifF c2 hF
    refine gb_lload_n dX11_clicksOf_94 rfl rfl ?_
    refine gb_iload dX11_clicksOf_95 rfl ?_
    refine gb_if_eq (tgt := 106) dX11_clicksOf_97 (by decide) (fun c12 => ?_) (fun c12 => ?_)
    · replace hF := gb_ifT c12 hF
      refine gb_lconst (v := (0 : Int64)) dX11_clicksOf_106 (by decide) ?_
      exact gb_wk (fbX11_clicksOf_107_ok hk24 hk64 v0 v1 v2 v5 v6 v3 (0 : Int64) h r hF) (And.intro rfl (And.intro rfl (And.intro rfl (And.intro rfl (And.intro rfl trivial)))))
    · replace hF := gb_ifF c12 hF
      refine gb_ldc2 (v := (10 : Int64)) dX11_clicksOf_100 kX11_341 ?_
      refine gb_goto (tgt := 107) dX11_clicksOf_103 (by decide) ?_
      exact gb_wk (fbX11_clicksOf_107_ok hk24 hk64 v0 v1 v2 v5 v6 v3 (10 : Int64) h r hF) (And.intro rfl (And.intro rfl (And.intro rfl (And.intro rfl (And.intro rfl trivial)))))
def fbX11_clicksOf_188 (k24 : Nat → Int32 → Int32 → gb_H → Option (Unit × gb_H)) (v0 : Nat) (v1 : Int32) (v2 : Int32) (h : gb_H) : Option (Unit × gb_H) :=
  gb_lt (v2 + (1 : Int32)) fun x1 =>
  k24 v0 v1 x1 h
theorem fbX11_clicksOf_188_ok {X : gb_X} {k24 : Nat → Int32 → Int32 → gb_H → Option (Unit × gb_H)} (hk24 : ∀ v0 v1 v2 h r, k24 v0 v1 v2 h = some r → gb_Ev X 1 mX11_clicksOf 24 [some (.ref v0), some (.int v1), some (.int v2), none, none, none, none, none] [] h (gb_wV r)) (v0 : Nat) (v1 : Int32) (v2 : Int32) (h : gb_H) (r : Unit × gb_H) (hF : fbX11_clicksOf_188 k24 v0 v1 v2 h = some r) : gb_Ev X 1 mX11_clicksOf 188 [some (.ref v0), some (.int v1), some (.int v2), none, none, none, none, none] [] h (gb_wV r) := by
  unfold fbX11_clicksOf_188 at hF
  obtain ⟨x1, ex1, hF⟩ := gb_ltE hF
  refine gb_iinc (v := x1) (L' := [some (.ref v0), some (.int v1), some (.int x1), none, none, none, none, none]) dX11_clicksOf_188 rfl (by rw [ex1]; rfl) (by decide) rfl rfl ?_
  refine gb_goto (tgt := 24) dX11_clicksOf_191 (by decide) ?_
  exact gb_wk (hk24 v0 v1 x1 h r hF) (And.intro rfl (And.intro rfl (And.intro rfl trivial)))
def fbX11_clicksOf_64 (k24 : Nat → Int32 → Int32 → gb_H → Option (Unit × gb_H)) (k64 : Nat → Int32 → Int32 → Int64 → Int32 → Int32 → gb_H → Option (Unit × gb_H)) (v0 : Nat) (v1 : Int32) (v2 : Int32) (v3 : Int64) (v5 : Int32) (v6 : Int32) (h : gb_H) : Option (Unit × gb_H) :=
  if (5 : Int32) ≤ v6 then
    gb_gd (gb_k h v0 11) <|
    gb_gd (gb_k h v0 11) <|
    gb_rd (gb_R h v0 28) fun a4 =>
    gb_gd (gb_k h a4 23) <|
    gb_gd (gb_in h a4 v2) <|
    gb_gd (gb_k h v0 11) <|
    gb_lt (gb_sL h v0 34 ((gb_L h v0 34) + (v3 * (gb_L h a4 v2.toNatClampNeg)))) fun h8 =>
    gb_gd (gb_k h8 v0 11) <|
    gb_gd (gb_k h8 v0 11) <|
    gb_rd (gb_R h8 v0 29) fun a11 =>
    gb_gd (gb_k h8 a11 23) <|
    gb_gd (gb_in h8 a11 v2) <|
    gb_gd (gb_k h8 v0 11) <|
    gb_lt (gb_sL h8 v0 35 ((gb_L h8 v0 35) + (v3 * (gb_L h8 a11 v2.toNatClampNeg)))) fun h15 =>
    fbX11_clicksOf_188 k24 v0 v1 v2 h15
  else
    if ((v1 >>> (v6 &&& 31)) &&& (1 : Int32)) = (1 : Int32) then
      fbX11_clicksOf_85 k24 k64 v0 v1 v2 v3 v5 v6 (1 : Int32) h
    else
      fbX11_clicksOf_85 k24 k64 v0 v1 v2 v3 v5 v6 (0 : Int32) h
theorem fbX11_clicksOf_64_ok {X : gb_X} {k24 : Nat → Int32 → Int32 → gb_H → Option (Unit × gb_H)} {k64 : Nat → Int32 → Int32 → Int64 → Int32 → Int32 → gb_H → Option (Unit × gb_H)} (hk24 : ∀ v0 v1 v2 h r, k24 v0 v1 v2 h = some r → gb_Ev X 1 mX11_clicksOf 24 [some (.ref v0), some (.int v1), some (.int v2), none, none, none, none, none] [] h (gb_wV r)) (hk64 : ∀ v0 v1 v2 v3 v5 v6 h r, k64 v0 v1 v2 v3 v5 v6 h = some r → gb_Ev X 1 mX11_clicksOf 64 [some (.ref v0), some (.int v1), some (.int v2), some (.long v3), none, some (.int v5), some (.int v6), none] [] h (gb_wV r)) (v0 : Nat) (v1 : Int32) (v2 : Int32) (v3 : Int64) (v5 : Int32) (v6 : Int32) (h : gb_H) (r : Unit × gb_H) (hF : fbX11_clicksOf_64 k24 k64 v0 v1 v2 v3 v5 v6 h = some r) : gb_Ev X 1 mX11_clicksOf 64 [some (.ref v0), some (.int v1), some (.int v2), some (.long v3), none, some (.int v5), some (.int v6), none] [] h (gb_wV r) := by
  unfold fbX11_clicksOf_64 at hF
  refine gb_iload dX11_clicksOf_64 rfl ?_
  refine gb_iconst (v := (5 : Int32)) dX11_clicksOf_66 (by decide) ?_
  refine gb_icmp_ge (tgt := 154) dX11_clicksOf_67 (by decide) (fun c1 => ?_) (fun c1 => ?_)
  · replace hF := gb_ifT c1 hF
    refine gb_aload_n dX11_clicksOf_154 rfl rfl ?_
    refine gb_dup dX11_clicksOf_155 rfl ?_
    obtain ⟨g2, hF⟩ := gb_gdE hF
    refine gb_getL fX11_330 dX11_clicksOf_156 (gb_kE g2) ?_
    refine gb_lload_n dX11_clicksOf_159 rfl rfl ?_
    refine gb_aload_n dX11_clicksOf_160 rfl rfl ?_
    obtain ⟨g3, hF⟩ := gb_gdE hF
    obtain ⟨a4, ea4, hF⟩ := gb_rdE hF
    refine gb_getR fX11_59 dX11_clicksOf_161 (gb_kE g3) ea4 ?_
    refine gb_iload_n dX11_clicksOf_164 rfl rfl ?_
    obtain ⟨g5, hF⟩ := gb_gdE hF
    obtain ⟨g6, hF⟩ := gb_gdE hF
    refine gb_lald dX11_clicksOf_165 (gb_kE g5) (gb_inE g6) ?_
    refine gb_lmul dX11_clicksOf_166 ?_
    refine gb_ladd dX11_clicksOf_167 ?_
    obtain ⟨g7, hF⟩ := gb_gdE hF
    obtain ⟨h8, eh8, hF⟩ := gb_ltE hF
    refine gb_putL fX11_330 (gb_nff nf11_34) dX11_clicksOf_168 (gb_kE g7) (fun _ => ⟨rfl, rfl⟩) (gb_hp eh8 ?_)
    refine gb_aload_n dX11_clicksOf_171 rfl rfl ?_
    refine gb_dup dX11_clicksOf_172 rfl ?_
    obtain ⟨g9, hF⟩ := gb_gdE hF
    refine gb_getL fX11_333 dX11_clicksOf_173 (gb_kE g9) ?_
    refine gb_lload_n dX11_clicksOf_176 rfl rfl ?_
    refine gb_aload_n dX11_clicksOf_177 rfl rfl ?_
    obtain ⟨g10, hF⟩ := gb_gdE hF
    obtain ⟨a11, ea11, hF⟩ := gb_rdE hF
    refine gb_getR fX11_62 dX11_clicksOf_178 (gb_kE g10) ea11 ?_
    refine gb_iload_n dX11_clicksOf_181 rfl rfl ?_
    obtain ⟨g12, hF⟩ := gb_gdE hF
    obtain ⟨g13, hF⟩ := gb_gdE hF
    refine gb_lald dX11_clicksOf_182 (gb_kE g12) (gb_inE g13) ?_
    refine gb_lmul dX11_clicksOf_183 ?_
    refine gb_ladd dX11_clicksOf_184 ?_
    obtain ⟨g14, hF⟩ := gb_gdE hF
    obtain ⟨h15, eh15, hF⟩ := gb_ltE hF
    refine gb_putL fX11_333 (gb_nff nf11_35) dX11_clicksOf_185 (gb_kE g14) (fun _ => ⟨rfl, rfl⟩) (gb_hp eh15 ?_)
    exact gb_wk (fbX11_clicksOf_188_ok hk24 v0 v1 v2 h15 r hF) (And.intro rfl (And.intro rfl (And.intro rfl trivial)))
  · replace hF := gb_ifF c1 hF
    refine gb_iload_n dX11_clicksOf_70 rfl rfl ?_
    refine gb_iload dX11_clicksOf_71 rfl ?_
    refine gb_ishr dX11_clicksOf_73 ?_
    refine gb_iconst (v := (1 : Int32)) dX11_clicksOf_74 (by decide) ?_
    refine gb_iand dX11_clicksOf_75 ?_
    refine gb_iconst (v := (1 : Int32)) dX11_clicksOf_76 (by decide) ?_
    refine gb_icmp_ne (tgt := 84) dX11_clicksOf_77 (by decide) (fun c16 => ?_) (fun c16 => ?_)
    · replace hF := gb_ifF c16 hF
      refine gb_iconst (v := (0 : Int32)) dX11_clicksOf_84 (by decide) ?_
      exact gb_wk (fbX11_clicksOf_85_ok hk24 hk64 v0 v1 v2 v3 v5 v6 (0 : Int32) h r hF) (And.intro rfl (And.intro rfl (And.intro rfl (And.intro rfl (And.intro rfl (And.intro rfl trivial))))))
    · replace hF := gb_ifT c16 hF
      refine gb_iconst (v := (1 : Int32)) dX11_clicksOf_80 (by decide) ?_
      refine gb_goto (tgt := 85) dX11_clicksOf_81 (by decide) ?_
      exact gb_wk (fbX11_clicksOf_85_ok hk24 hk64 v0 v1 v2 v3 v5 v6 (1 : Int32) h r hF) (And.intro rfl (And.intro rfl (And.intro rfl (And.intro rfl (And.intro rfl (And.intro rfl trivial))))))
def lpX11_clicksOf_64 (k24 : Nat → Int32 → Int32 → gb_H → Option (Unit × gb_H)) (n : Nat) (v0 : Nat) (v1 : Int32) (v2 : Int32) (v3 : Int64) (v5 : Int32) (v6 : Int32) (h : gb_H) : Option (Unit × gb_H) := gb_lp (σ := Nat × Int32 × Int32 × Int64 × Int32 × Int32 × gb_H) (fun k s => fbX11_clicksOf_64 k24 (fun v0 v1 v2 v3 v5 v6 h => k (v0, v1, v2, v3, v5, v6, h)) s.1 s.2.1 s.2.2.1 s.2.2.2.1 s.2.2.2.2.1 s.2.2.2.2.2.1 s.2.2.2.2.2.2) n (v0, v1, v2, v3, v5, v6, h)
theorem lpX11_clicksOf_64_ok {X : gb_X}  {k24 : Nat → Int32 → Int32 → gb_H → Option (Unit × gb_H)} (hk24 : ∀ v0 v1 v2 h r, k24 v0 v1 v2 h = some r → gb_Ev X 1 mX11_clicksOf 24 [some (.ref v0), some (.int v1), some (.int v2), none, none, none, none, none] [] h (gb_wV r)) (n : Nat) (v0 : Nat) (v1 : Int32) (v2 : Int32) (v3 : Int64) (v5 : Int32) (v6 : Int32) (h : gb_H) (r : Unit × gb_H) (hF : lpX11_clicksOf_64 k24 n v0 v1 v2 v3 v5 v6 h = some r) : gb_Ev X 1 mX11_clicksOf 64 [some (.ref v0), some (.int v1), some (.int v2), some (.long v3), none, some (.int v5), some (.int v6), none] [] h (gb_wV r) := by
  exact gb_lpE (σ := Nat × Int32 × Int32 × Int64 × Int32 × Int32 × gb_H) (P := fun s r => gb_Ev X 1 mX11_clicksOf 64 [some (.ref s.1), some (.int s.2.1), some (.int s.2.2.1), some (.long s.2.2.2.1), none, some (.int s.2.2.2.2.1), some (.int s.2.2.2.2.2.1), none] [] s.2.2.2.2.2.2 (gb_wV r)) (fun k hk s r hs => fbX11_clicksOf_64_ok hk24 (fun v0 v1 v2 v3 v5 v6 h r e => hk (v0, v1, v2, v3, v5, v6, h) r e) _ _ _ _ _ _ _ r hs) n (v0, v1, v2, v3, v5, v6, h) r hF
def fbX11_clicksOf_56 (k24 : Nat → Int32 → Int32 → gb_H → Option (Unit × gb_H)) (v0 : Nat) (v1 : Int32) (v2 : Int32) (h : gb_H) : Option (Unit × gb_H) :=
  lpX11_clicksOf_64 k24 gb_FU v0 v1 v2 (1 : Int64) v2 (0 : Int32) h
theorem fbX11_clicksOf_56_ok {X : gb_X} {k24 : Nat → Int32 → Int32 → gb_H → Option (Unit × gb_H)} (hk24 : ∀ v0 v1 v2 h r, k24 v0 v1 v2 h = some r → gb_Ev X 1 mX11_clicksOf 24 [some (.ref v0), some (.int v1), some (.int v2), none, none, none, none, none] [] h (gb_wV r)) (v0 : Nat) (v1 : Int32) (v2 : Int32) (h : gb_H) (r : Unit × gb_H) (hF : fbX11_clicksOf_56 k24 v0 v1 v2 h = some r) : gb_Ev X 1 mX11_clicksOf 56 [some (.ref v0), some (.int v1), some (.int v2), none, none, none, none, none] [] h (gb_wV r) := by
  unfold fbX11_clicksOf_56 at hF
  refine gb_lconst (v := (1 : Int64)) dX11_clicksOf_56 (by decide) ?_
  refine gb_lstore_n (L' := [some (.ref v0), some (.int v1), some (.int v2), some (.long (1 : Int64)), none, none, none, none]) dX11_clicksOf_57 rfl (by decide) rfl rfl ?_
  refine gb_iload_n dX11_clicksOf_58 rfl rfl ?_
  refine gb_istore (L' := [some (.ref v0), some (.int v1), some (.int v2), some (.long (1 : Int64)), none, some (.int v2), none, none]) dX11_clicksOf_59 (by decide) rfl rfl ?_
  refine gb_iconst (v := (0 : Int32)) dX11_clicksOf_61 (by decide) ?_
  refine gb_istore (L' := [some (.ref v0), some (.int v1), some (.int v2), some (.long (1 : Int64)), none, some (.int v2), some (.int (0 : Int32)), none]) dX11_clicksOf_62 (by decide) rfl rfl ?_
  exact gb_wk (lpX11_clicksOf_64_ok hk24 gb_FU v0 v1 v2 (1 : Int64) v2 (0 : Int32) h r hF) (And.intro rfl (And.intro rfl (And.intro rfl (And.intro rfl (And.intro rfl (And.intro rfl trivial))))))
def fbX11_clicksOf_24 (k24 : Nat → Int32 → Int32 → gb_H → Option (Unit × gb_H)) (v0 : Nat) (v1 : Int32) (v2 : Int32) (h : gb_H) : Option (Unit × gb_H) :=
  if (1024 : Int32) ≤ v2 then
    some ((), h)
  else
    gb_gd (gb_k h v0 11) <|
    gb_rd (gb_R h v0 28) fun a3 =>
    gb_gd (gb_k h a3 23) <|
    gb_gd (gb_in h a3 v2) <|
    if (gb_L h a3 v2.toNatClampNeg) = (0 : Int64) then
      gb_gd (gb_k h v0 11) <|
      gb_rd (gb_R h v0 29) fun a8 =>
      gb_gd (gb_k h a8 23) <|
      gb_gd (gb_in h a8 v2) <|
      if (gb_L h a8 v2.toNatClampNeg) = (0 : Int64) then
        fbX11_clicksOf_188 k24 v0 v1 v2 h
      else
        fbX11_clicksOf_56 k24 v0 v1 v2 h
    else
      fbX11_clicksOf_56 k24 v0 v1 v2 h
theorem fbX11_clicksOf_24_ok {X : gb_X} {k24 : Nat → Int32 → Int32 → gb_H → Option (Unit × gb_H)} (hk24 : ∀ v0 v1 v2 h r, k24 v0 v1 v2 h = some r → gb_Ev X 1 mX11_clicksOf 24 [some (.ref v0), some (.int v1), some (.int v2), none, none, none, none, none] [] h (gb_wV r)) (v0 : Nat) (v1 : Int32) (v2 : Int32) (h : gb_H) (r : Unit × gb_H) (hF : fbX11_clicksOf_24 k24 v0 v1 v2 h = some r) : gb_Ev X 1 mX11_clicksOf 24 [some (.ref v0), some (.int v1), some (.int v2), none, none, none, none, none] [] h (gb_wV r) := by
  unfold fbX11_clicksOf_24 at hF
  refine gb_iload_n dX11_clicksOf_24 rfl rfl ?_
  refine gb_sipush (v := (1024 : Int32)) dX11_clicksOf_25 (by decide) ?_
  refine gb_icmp_ge (tgt := 194) dX11_clicksOf_28 (by decide) (fun c1 => ?_) (fun c1 => ?_)
  · replace hF := gb_ifT c1 hF
    cases hF
    exact gb_vret dX11_clicksOf_194 rfl
  · replace hF := gb_ifF c1 hF
    refine gb_aload_n dX11_clicksOf_31 rfl rfl ?_
    obtain ⟨g2, hF⟩ := gb_gdE hF
    obtain ⟨a3, ea3, hF⟩ := gb_rdE hF
    refine gb_getR fX11_59 dX11_clicksOf_32 (gb_kE g2) ea3 ?_
    refine gb_iload_n dX11_clicksOf_35 rfl rfl ?_
    obtain ⟨g4, hF⟩ := gb_gdE hF
    obtain ⟨g5, hF⟩ := gb_gdE hF
    refine gb_lald dX11_clicksOf_36 (gb_kE g4) (gb_inE g5) ?_
    refine gb_lconst (v := (0 : Int64)) dX11_clicksOf_37 (by decide) ?_
    refine gb_lc_ne (tgt := 56) dX11_clicksOf_38 dX11_clicksOf_39 (by decide) (fun c6 => ?_) (fun c6 => ?_)
    · replace hF := gb_ifF c6 hF
      exact gb_wk (fbX11_clicksOf_56_ok hk24 v0 v1 v2 h r hF) (And.intro rfl (And.intro rfl (And.intro rfl trivial)))
    · replace hF := gb_ifT c6 hF
      refine gb_aload_n dX11_clicksOf_42 rfl rfl ?_
      obtain ⟨g7, hF⟩ := gb_gdE hF
      obtain ⟨a8, ea8, hF⟩ := gb_rdE hF
      refine gb_getR fX11_62 dX11_clicksOf_43 (gb_kE g7) ea8 ?_
      refine gb_iload_n dX11_clicksOf_46 rfl rfl ?_
      obtain ⟨g9, hF⟩ := gb_gdE hF
      obtain ⟨g10, hF⟩ := gb_gdE hF
      refine gb_lald dX11_clicksOf_47 (gb_kE g9) (gb_inE g10) ?_
      refine gb_lconst (v := (0 : Int64)) dX11_clicksOf_48 (by decide) ?_
      refine gb_lc_ne (tgt := 56) dX11_clicksOf_49 dX11_clicksOf_50 (by decide) (fun c11 => ?_) (fun c11 => ?_)
      · replace hF := gb_ifF c11 hF
        exact gb_wk (fbX11_clicksOf_56_ok hk24 v0 v1 v2 h r hF) (And.intro rfl (And.intro rfl (And.intro rfl trivial)))
      · replace hF := gb_ifT c11 hF
        refine gb_goto (tgt := 188) dX11_clicksOf_53 (by decide) ?_
        exact gb_wk (fbX11_clicksOf_188_ok hk24 v0 v1 v2 h r hF) (And.intro rfl (And.intro rfl (And.intro rfl trivial)))
def lpX11_clicksOf_24 (n : Nat) (v0 : Nat) (v1 : Int32) (v2 : Int32) (h : gb_H) : Option (Unit × gb_H) := gb_lp (σ := Nat × Int32 × Int32 × gb_H) (fun k s => fbX11_clicksOf_24 (fun v0 v1 v2 h => k (v0, v1, v2, h)) s.1 s.2.1 s.2.2.1 s.2.2.2) n (v0, v1, v2, h)
theorem lpX11_clicksOf_24_ok {X : gb_X}  (n : Nat) (v0 : Nat) (v1 : Int32) (v2 : Int32) (h : gb_H) (r : Unit × gb_H) (hF : lpX11_clicksOf_24 n v0 v1 v2 h = some r) : gb_Ev X 1 mX11_clicksOf 24 [some (.ref v0), some (.int v1), some (.int v2), none, none, none, none, none] [] h (gb_wV r) := by
  exact gb_lpE (σ := Nat × Int32 × Int32 × gb_H) (P := fun s r => gb_Ev X 1 mX11_clicksOf 24 [some (.ref s.1), some (.int s.2.1), some (.int s.2.2.1), none, none, none, none, none] [] s.2.2.2 (gb_wV r)) (fun k hk s r hs => fbX11_clicksOf_24_ok (fun v0 v1 v2 h r e => hk (v0, v1, v2, h) r e) _ _ _ _ r hs) n (v0, v1, v2, h) r hF
def fnX11_clicksOf (p0 : Nat) (p1 : Int32) (h : gb_H) : Option (Unit × gb_H) :=
  gb_gd (gb_k h p0 11) <|
  gb_lt (gb_sL h p0 34 (0 : Int64)) fun h2 =>
  gb_gd (gb_k h2 p0 11) <|
  gb_lt (gb_sL h2 p0 35 (0 : Int64)) fun h4 =>
  gb_gd (gb_k h4 p0 11) <|
  gb_gd (gb_k h4 p0 11) <|
  gb_lt (gb_sL h4 p0 36 ((gb_L h4 p0 30) * (100000 : Int64))) fun h7 =>
  lpX11_clicksOf_24 gb_FU p0 p1 (0 : Int32) h7
theorem fnX11_clicksOf_ok {X : gb_X}  {p0 : Nat} {p1 : Int32} (h : gb_H) (r : Unit × gb_H) (hF : fnX11_clicksOf p0 p1 h = some r) : gb_Ev X 1 mX11_clicksOf 0 (gb_L0 [.ref p0, .int p1]) [] h (gb_wV r) := by
  unfold fnX11_clicksOf at hF
  refine gb_weak (L' := [some (.ref p0), some (.int p1), none, none, none, none, none, none]) (And.intro rfl (And.intro rfl trivial)) ?_
  refine gb_aload_n dX11_clicksOf_0 rfl rfl ?_
  refine gb_lconst (v := (0 : Int64)) dX11_clicksOf_1 (by decide) ?_
  obtain ⟨g1, hF⟩ := gb_gdE hF
  obtain ⟨h2, eh2, hF⟩ := gb_ltE hF
  refine gb_putL fX11_330 (gb_nff nf11_34) dX11_clicksOf_2 (gb_kE g1) (fun _ => ⟨rfl, rfl⟩) (gb_hp eh2 ?_)
  refine gb_aload_n dX11_clicksOf_5 rfl rfl ?_
  refine gb_lconst (v := (0 : Int64)) dX11_clicksOf_6 (by decide) ?_
  obtain ⟨g3, hF⟩ := gb_gdE hF
  obtain ⟨h4, eh4, hF⟩ := gb_ltE hF
  refine gb_putL fX11_333 (gb_nff nf11_35) dX11_clicksOf_7 (gb_kE g3) (fun _ => ⟨rfl, rfl⟩) (gb_hp eh4 ?_)
  refine gb_aload_n dX11_clicksOf_10 rfl rfl ?_
  refine gb_aload_n dX11_clicksOf_11 rfl rfl ?_
  obtain ⟨g5, hF⟩ := gb_gdE hF
  refine gb_getL fX11_293 dX11_clicksOf_12 (gb_kE g5) ?_
  refine gb_ldc2 (v := (100000 : Int64)) dX11_clicksOf_15 kX11_336 ?_
  refine gb_lmul dX11_clicksOf_18 ?_
  obtain ⟨g6, hF⟩ := gb_gdE hF
  obtain ⟨h7, eh7, hF⟩ := gb_ltE hF
  refine gb_putL fX11_338 (gb_nff nf11_36) dX11_clicksOf_19 (gb_kE g6) (fun _ => ⟨rfl, rfl⟩) (gb_hp eh7 ?_)
  refine gb_iconst (v := (0 : Int32)) dX11_clicksOf_22 (by decide) ?_
  refine gb_istore_n (L' := [some (.ref p0), some (.int p1), some (.int (0 : Int32)), none, none, none, none, none]) dX11_clicksOf_23 rfl (by decide) rfl rfl ?_
  exact gb_wk (lpX11_clicksOf_24_ok gb_FU p0 p1 (0 : Int32) h7 r hF) (And.intro rfl (And.intro rfl (And.intro rfl trivial)))
def fbX11_clicks_52 (s0 : Int64) (h : gb_H) : Option (Int64 × gb_H) :=
  some (s0, h)
theorem fbX11_clicks_52_ok {X : gb_X} (s0 : Int64) (h : gb_H) (r : Int64 × gb_H) (hF : fbX11_clicks_52 s0 h = some r) : gb_Ev X 8 mX11_clicks 52 [none, none, none, none] [.long s0] h (gb_wJ r) := by
  unfold fbX11_clicks_52 at hF
  cases hF
  exact gb_lret dX11_clicks_52 rfl
def fbX11_clicks_40 (v3 : Int32) (h : gb_H) : Option (Int64 × gb_H) :=
  if v3 = (2 : Int32) then
    fbX11_clicks_52 (-1 : Int64) h
  else
    fbX11_clicks_52 (0 : Int64) h
theorem fbX11_clicks_40_ok {X : gb_X} (v3 : Int32) (h : gb_H) (r : Int64 × gb_H) (hF : fbX11_clicks_40 v3 h = some r) : gb_Ev X 8 mX11_clicks 40 [none, none, none, some (.int v3)] [] h (gb_wJ r) := by
  unfold fbX11_clicks_40 at hF
  refine gb_iload_n dX11_clicks_40 rfl rfl ?_
  refine gb_iconst (v := (2 : Int32)) dX11_clicks_41 (by decide) ?_
  refine gb_icmp_ne (tgt := 51) dX11_clicks_42 (by decide) (fun c1 => ?_) (fun c1 => ?_)
  · replace hF := gb_ifF c1 hF
    refine gb_lconst (v := (0 : Int64)) dX11_clicks_51 (by decide) ?_
    exact gb_wk (fbX11_clicks_52_ok (0 : Int64) h r hF) trivial
  · replace hF := gb_ifT c1 hF
    refine gb_ldc2 (v := (-1 : Int64)) dX11_clicks_45 kX11_245 ?_
    refine gb_goto (tgt := 52) dX11_clicks_48 (by decide) ?_
    exact gb_wk (fbX11_clicks_52_ok (-1 : Int64) h r hF) trivial
def fnX11_clicks (p0 : Nat) (p1 : Int32) (p2 : Int32) (p3 : Int32) (h : gb_H) : Option (Int64 × gb_H) :=
  gb_bd (fnX11_in p3 (0 : Int32) (2 : Int32) h) fun x1 h2 =>
  if x1 = 0 then
    some ((-1 : Int64), h2)
  else
    gb_bd (fnX11_in p1 (0 : Int32) (3 : Int32) h2) fun x4 h5 =>
    if x4 = 0 then
      fbX11_clicks_40 p3 h5
    else
      gb_bd (fnX11_in p2 (0 : Int32) (31 : Int32) h5) fun x7 h8 =>
      if x7 = 0 then
        fbX11_clicks_40 p3 h8
      else
        gb_gd (gb_k h8 p0 11) <|
        gb_bd (fnX11_laysBench p0 p1 h8) fun x11 h12 =>
        if x11 = 0 then
          fbX11_clicks_40 p3 h12
        else
          gb_gd (gb_k h12 p0 11) <|
          gb_bd (fnX11_clicksOf p0 p2 h12) fun _ h16 =>
          gb_gd (gb_k h16 p0 11) <|
          gb_gd (gb_k h16 p0 11) <|
          gb_gd (gb_k h16 p0 11) <|
          gb_bd (fnX11_tells (gb_L h16 p0 34) (gb_L h16 p0 35) (gb_L h16 p0 36) p3 h16) fun x20 h21 =>
          some (x20, h21)
theorem fnX11_clicks_ok {X : gb_X}  {p0 : Nat} {p1 : Int32} {p2 : Int32} {p3 : Int32} (h : gb_H) (r : Int64 × gb_H) (hF : fnX11_clicks p0 p1 p2 p3 h = some r) : gb_Ev X 8 mX11_clicks 0 (gb_L0 [.ref p0, .int p1, .int p2, .int p3]) [] h (gb_wJ r) := by
  unfold fnX11_clicks at hF
  refine gb_weak (L' := [some (.ref p0), some (.int p1), some (.int p2), some (.int p3)]) (And.intro rfl (And.intro rfl (And.intro rfl (And.intro rfl trivial)))) ?_
  refine gb_iload_n dX11_clicks_0 rfl rfl ?_
  refine gb_iconst (v := (0 : Int32)) dX11_clicks_1 (by decide) ?_
  refine gb_iconst (v := (2 : Int32)) dX11_clicks_2 (by decide) ?_
  obtain ⟨x1, h2, cx1, hF⟩ := gb_bdE hF
  refine gb_cS (As := [.int p3, .int (0 : Int32), .int (2 : Int32)]) (S := []) (v := some (.int x1)) (h1 := h2) (S2 := [.int x1]) dX11_clicks_3 mtX11_in lX11_104 stX11_in (fnX11_in_ok _ _ cx1) (by decide) rfl (Nat.le_of_ble_eq_true rfl) (Nat.le_of_ble_eq_true rfl) rfl rfl ?_
  refine gb_if_ne (tgt := 13) dX11_clicks_6 (by decide) (fun c3 => ?_) (fun c3 => ?_)
  · replace hF := gb_ifF c3 hF
    refine gb_iload_n dX11_clicks_13 rfl rfl ?_
    refine gb_iconst (v := (0 : Int32)) dX11_clicks_14 (by decide) ?_
    refine gb_iconst (v := (3 : Int32)) dX11_clicks_15 (by decide) ?_
    obtain ⟨x4, h5, cx4, hF⟩ := gb_bdE hF
    refine gb_cS (As := [.int p1, .int (0 : Int32), .int (3 : Int32)]) (S := []) (v := some (.int x4)) (h1 := h5) (S2 := [.int x4]) dX11_clicks_16 mtX11_in lX11_104 stX11_in (fnX11_in_ok _ _ cx4) (by decide) rfl (Nat.le_of_ble_eq_true rfl) (Nat.le_of_ble_eq_true rfl) rfl rfl ?_
    refine gb_if_eq (tgt := 40) dX11_clicks_19 (by decide) (fun c6 => ?_) (fun c6 => ?_)
    · replace hF := gb_ifT c6 hF
      exact gb_wk (fbX11_clicks_40_ok p3 h5 r hF) (And.intro rfl trivial)
    · replace hF := gb_ifF c6 hF
      refine gb_iload_n dX11_clicks_22 rfl rfl ?_
      refine gb_iconst (v := (0 : Int32)) dX11_clicks_23 (by decide) ?_
      refine gb_bipush (v := (31 : Int32)) dX11_clicks_24 (by decide) ?_
      obtain ⟨x7, h8, cx7, hF⟩ := gb_bdE hF
      refine gb_cS (As := [.int p2, .int (0 : Int32), .int (31 : Int32)]) (S := []) (v := some (.int x7)) (h1 := h8) (S2 := [.int x7]) dX11_clicks_26 mtX11_in lX11_104 stX11_in (fnX11_in_ok _ _ cx7) (by decide) rfl (Nat.le_of_ble_eq_true rfl) (Nat.le_of_ble_eq_true rfl) rfl rfl ?_
      refine gb_if_eq (tgt := 40) dX11_clicks_29 (by decide) (fun c9 => ?_) (fun c9 => ?_)
      · replace hF := gb_ifT c9 hF
        exact gb_wk (fbX11_clicks_40_ok p3 h8 r hF) (And.intro rfl trivial)
      · replace hF := gb_ifF c9 hF
        refine gb_aload_n dX11_clicks_32 rfl rfl ?_
        refine gb_iload_n dX11_clicks_33 rfl rfl ?_
        obtain ⟨g10, hF⟩ := gb_gdE hF
        obtain ⟨x11, h12, cx11, hF⟩ := gb_bdE hF
        refine gb_cV (As := [.int p1]) (S := []) (v := some (.int x11)) (h1 := h12) (S2 := [.int x11]) cf11 dX11_clicks_34 mtX11_laysBench lX11_319 inX11_laysBench seX11_laysBench (gb_kE g10) (fnX11_laysBench_ok _ _ cx11) (by decide) rfl (Nat.le_of_ble_eq_true rfl) (Nat.le_of_ble_eq_true rfl) rfl rfl ?_
        refine gb_if_ne (tgt := 53) dX11_clicks_37 (by decide) (fun c13 => ?_) (fun c13 => ?_)
        · replace hF := gb_ifF c13 hF
          refine gb_aload_n dX11_clicks_53 rfl rfl ?_
          refine gb_iload_n dX11_clicks_54 rfl rfl ?_
          obtain ⟨g14, hF⟩ := gb_gdE hF
          obtain ⟨x15, h16, cx15, hF⟩ := gb_bdE hF
          refine gb_cV (As := [.int p2]) (S := []) (v := none) (h1 := h16) (S2 := []) cf11 dX11_clicks_55 mtX11_clicksOf lX11_343 inX11_clicksOf seX11_clicksOf (gb_kE g14) (fnX11_clicksOf_ok _ _ cx15) (by decide) rfl (Nat.le_of_ble_eq_true rfl) (Nat.le_of_ble_eq_true rfl) rfl rfl ?_
          refine gb_aload_n dX11_clicks_58 rfl rfl ?_
          obtain ⟨g17, hF⟩ := gb_gdE hF
          refine gb_getL fX11_330 dX11_clicks_59 (gb_kE g17) ?_
          refine gb_aload_n dX11_clicks_62 rfl rfl ?_
          obtain ⟨g18, hF⟩ := gb_gdE hF
          refine gb_getL fX11_333 dX11_clicks_63 (gb_kE g18) ?_
          refine gb_aload_n dX11_clicks_66 rfl rfl ?_
          obtain ⟨g19, hF⟩ := gb_gdE hF
          refine gb_getL fX11_338 dX11_clicks_67 (gb_kE g19) ?_
          refine gb_iload_n dX11_clicks_70 rfl rfl ?_
          obtain ⟨x20, h21, cx20, hF⟩ := gb_bdE hF
          refine gb_cS (As := [.long (gb_L h16 p0 34), .long (gb_L h16 p0 35), .long (gb_L h16 p0 36), .int p3]) (S := []) (v := some (.long x20)) (h1 := h21) (S2 := [.long x20]) dX11_clicks_71 mtX11_tells lX11_326 stX11_tells (fnX11_tells_ok _ _ cx20) (by decide) rfl (Nat.le_of_ble_eq_true rfl) (Nat.le_of_ble_eq_true rfl) rfl rfl ?_
          cases hF
          exact gb_lret dX11_clicks_74 rfl
        · replace hF := gb_ifT c13 hF
          exact gb_wk (fbX11_clicks_40_ok p3 h12 r hF) (And.intro rfl trivial)
  · replace hF := gb_ifT c3 hF
    refine gb_ldc2 (v := (-1 : Int64)) dX11_clicks_9 kX11_245 ?_
    cases hF
    exact gb_lret dX11_clicks_12 rfl
def fbX11_run_21 (v0 : Nat) (h : gb_H) : Option (Int32 × gb_H) :=
  gb_gd (gb_k h v0 11) <|
  gb_bd (fnX11_ends v0 (-1 : Int32) h) fun x2 h3 =>
  some (x2, h3)
theorem fbX11_run_21_ok {X : gb_X} (v0 : Nat) (h : gb_H) (r : Int32 × gb_H) (hF : fbX11_run_21 v0 h = some r) : gb_Ev X 2 mX11_run 21 [some (.ref v0), none, none, none] [] h (gb_wI r) := by
  unfold fbX11_run_21 at hF
  refine gb_aload_n dX11_run_21 rfl rfl ?_
  refine gb_iconst (v := (-1 : Int32)) dX11_run_22 (by decide) ?_
  obtain ⟨g1, hF⟩ := gb_gdE hF
  obtain ⟨x2, h3, cx2, hF⟩ := gb_bdE hF
  refine gb_cV (As := [.int (-1 : Int32)]) (S := []) (v := some (.int x2)) (h1 := h3) (S2 := [.int x2]) cf11 dX11_run_23 mtX11_ends lX11_108 inX11_ends seX11_ends (gb_kE g1) (fnX11_ends_ok _ _ cx2) (by decide) rfl (Nat.le_of_ble_eq_true rfl) (Nat.le_of_ble_eq_true rfl) rfl rfl ?_
  cases hF
  exact gb_iret dX11_run_26 rfl
def fnX11_run (p0 : Nat) (p1 : Int32) (p2 : Int32) (p3 : Int32) (h : gb_H) : Option (Int32 × gb_H) :=
  gb_bd (fnX11_in p2 (0 : Int32) (31 : Int32) h) fun x1 h2 =>
  if x1 = 0 then
    fbX11_run_21 p0 h2
  else
    gb_bd (fnX11_in p3 (0 : Int32) (999 : Int32) h2) fun x4 h5 =>
    if x4 = 0 then
      fbX11_run_21 p0 h5
    else
      gb_bd (fnX11_in p1 (0 : Int32) (3 : Int32) h5) fun x7 h8 =>
      if x7 = 0 then
        gb_gd (gb_k h8 p0 11) <|
        gb_bd (fnX11_ends p0 (-2 : Int32) h8) fun x11 h12 =>
        some (x11, h12)
      else
        gb_gd (gb_k h8 p0 11) <|
        if (gb_I h8 p0 37) = (200 : Int32) then
          gb_gd (gb_k h8 p0 11) <|
          gb_bd (fnX11_ends p0 (-5 : Int32) h8) fun x16 h17 =>
          some (x16, h17)
        else
          gb_gd (gb_k h8 p0 11) <|
          gb_rd (gb_R h8 p0 38) fun a19 =>
          gb_gd (gb_k h8 p0 11) <|
          gb_lt (gb_I h8 p0 37) fun x21 =>
          gb_gd (gb_k h8 a19 20) <|
          gb_gd (gb_in h8 a19 x21) <|
          gb_lt (gb_sI h8 a19 x21.toNatClampNeg p1) fun h24 =>
          gb_gd (gb_k h24 p0 11) <|
          gb_rd (gb_R h24 p0 39) fun a26 =>
          gb_gd (gb_k h24 p0 11) <|
          gb_lt (gb_I h24 p0 37) fun x28 =>
          gb_gd (gb_k h24 a26 20) <|
          gb_gd (gb_in h24 a26 x28) <|
          gb_lt (gb_sI h24 a26 x28.toNatClampNeg p2) fun h31 =>
          gb_gd (gb_k h31 p0 11) <|
          gb_rd (gb_R h31 p0 40) fun a33 =>
          gb_gd (gb_k h31 p0 11) <|
          gb_lt (gb_I h31 p0 37) fun x35 =>
          gb_gd (gb_k h31 a33 20) <|
          gb_gd (gb_in h31 a33 x35) <|
          gb_lt (gb_sI h31 a33 x35.toNatClampNeg p3) fun h38 =>
          gb_gd (gb_k h38 p0 11) <|
          gb_gd (gb_k h38 p0 11) <|
          gb_lt (gb_sI h38 p0 37 ((gb_I h38 p0 37) + (1 : Int32))) fun h41 =>
          gb_gd (gb_k h41 p0 11) <|
          gb_gd (gb_k h41 p0 11) <|
          gb_bd (fnX11_ends p0 (gb_I h41 p0 37) h41) fun x44 h45 =>
          some (x44, h45)
theorem fnX11_run_ok {X : gb_X}  {p0 : Nat} {p1 : Int32} {p2 : Int32} {p3 : Int32} (h : gb_H) (r : Int32 × gb_H) (hF : fnX11_run p0 p1 p2 p3 h = some r) : gb_Ev X 2 mX11_run 0 (gb_L0 [.ref p0, .int p1, .int p2, .int p3]) [] h (gb_wI r) := by
  unfold fnX11_run at hF
  refine gb_weak (L' := [some (.ref p0), some (.int p1), some (.int p2), some (.int p3)]) (And.intro rfl (And.intro rfl (And.intro rfl (And.intro rfl trivial)))) ?_
  refine gb_iload_n dX11_run_0 rfl rfl ?_
  refine gb_iconst (v := (0 : Int32)) dX11_run_1 (by decide) ?_
  refine gb_bipush (v := (31 : Int32)) dX11_run_2 (by decide) ?_
  obtain ⟨x1, h2, cx1, hF⟩ := gb_bdE hF
  refine gb_cS (As := [.int p2, .int (0 : Int32), .int (31 : Int32)]) (S := []) (v := some (.int x1)) (h1 := h2) (S2 := [.int x1]) dX11_run_4 mtX11_in lX11_104 stX11_in (fnX11_in_ok _ _ cx1) (by decide) rfl (Nat.le_of_ble_eq_true rfl) (Nat.le_of_ble_eq_true rfl) rfl rfl ?_
  refine gb_if_eq (tgt := 21) dX11_run_7 (by decide) (fun c3 => ?_) (fun c3 => ?_)
  · replace hF := gb_ifT c3 hF
    exact gb_wk (fbX11_run_21_ok p0 h2 r hF) (And.intro rfl trivial)
  · replace hF := gb_ifF c3 hF
    refine gb_iload_n dX11_run_10 rfl rfl ?_
    refine gb_iconst (v := (0 : Int32)) dX11_run_11 (by decide) ?_
    refine gb_sipush (v := (999 : Int32)) dX11_run_12 (by decide) ?_
    obtain ⟨x4, h5, cx4, hF⟩ := gb_bdE hF
    refine gb_cS (As := [.int p3, .int (0 : Int32), .int (999 : Int32)]) (S := []) (v := some (.int x4)) (h1 := h5) (S2 := [.int x4]) dX11_run_15 mtX11_in lX11_104 stX11_in (fnX11_in_ok _ _ cx4) (by decide) rfl (Nat.le_of_ble_eq_true rfl) (Nat.le_of_ble_eq_true rfl) rfl rfl ?_
    refine gb_if_ne (tgt := 27) dX11_run_18 (by decide) (fun c6 => ?_) (fun c6 => ?_)
    · replace hF := gb_ifF c6 hF
      refine gb_iload_n dX11_run_27 rfl rfl ?_
      refine gb_iconst (v := (0 : Int32)) dX11_run_28 (by decide) ?_
      refine gb_iconst (v := (3 : Int32)) dX11_run_29 (by decide) ?_
      obtain ⟨x7, h8, cx7, hF⟩ := gb_bdE hF
      refine gb_cS (As := [.int p1, .int (0 : Int32), .int (3 : Int32)]) (S := []) (v := some (.int x7)) (h1 := h8) (S2 := [.int x7]) dX11_run_30 mtX11_in lX11_104 stX11_in (fnX11_in_ok _ _ cx7) (by decide) rfl (Nat.le_of_ble_eq_true rfl) (Nat.le_of_ble_eq_true rfl) rfl rfl ?_
      refine gb_if_ne (tgt := 43) dX11_run_33 (by decide) (fun c9 => ?_) (fun c9 => ?_)
      · replace hF := gb_ifF c9 hF
        refine gb_aload_n dX11_run_43 rfl rfl ?_
        obtain ⟨g13, hF⟩ := gb_gdE hF
        refine gb_getI fX11_346 dX11_run_44 (gb_kE g13) ?_
        refine gb_sipush (v := (200 : Int32)) dX11_run_47 (by decide) ?_
        refine gb_icmp_ne (tgt := 60) dX11_run_50 (by decide) (fun c14 => ?_) (fun c14 => ?_)
        · replace hF := gb_ifF c14 hF
          refine gb_aload_n dX11_run_60 rfl rfl ?_
          obtain ⟨g18, hF⟩ := gb_gdE hF
          obtain ⟨a19, ea19, hF⟩ := gb_rdE hF
          refine gb_getR fX11_74 dX11_run_61 (gb_kE g18) ea19 ?_
          refine gb_aload_n dX11_run_64 rfl rfl ?_
          obtain ⟨g20, hF⟩ := gb_gdE hF
          refine gb_getI fX11_346 dX11_run_65 (gb_kE g20) ?_
          refine gb_iload_n dX11_run_68 rfl rfl ?_
          obtain ⟨x21, ex21, hF⟩ := gb_ltE hF
          refine gb_topI2 ex21 ?_
          obtain ⟨g22, hF⟩ := gb_gdE hF
          obtain ⟨g23, hF⟩ := gb_gdE hF
          obtain ⟨h24, eh24, hF⟩ := gb_ltE hF
          refine gb_iast dX11_run_69 (gb_kE g22) (gb_inE g23) (gb_hp eh24 ?_)
          refine gb_aload_n dX11_run_70 rfl rfl ?_
          obtain ⟨g25, hF⟩ := gb_gdE hF
          obtain ⟨a26, ea26, hF⟩ := gb_rdE hF
          refine gb_getR fX11_77 dX11_run_71 (gb_kE g25) ea26 ?_
          refine gb_aload_n dX11_run_74 rfl rfl ?_
          obtain ⟨g27, hF⟩ := gb_gdE hF
          refine gb_getI fX11_346 dX11_run_75 (gb_kE g27) ?_
          refine gb_iload_n dX11_run_78 rfl rfl ?_
          obtain ⟨x28, ex28, hF⟩ := gb_ltE hF
          refine gb_topI2 ex28 ?_
          obtain ⟨g29, hF⟩ := gb_gdE hF
          obtain ⟨g30, hF⟩ := gb_gdE hF
          obtain ⟨h31, eh31, hF⟩ := gb_ltE hF
          refine gb_iast dX11_run_79 (gb_kE g29) (gb_inE g30) (gb_hp eh31 ?_)
          refine gb_aload_n dX11_run_80 rfl rfl ?_
          obtain ⟨g32, hF⟩ := gb_gdE hF
          obtain ⟨a33, ea33, hF⟩ := gb_rdE hF
          refine gb_getR fX11_80 dX11_run_81 (gb_kE g32) ea33 ?_
          refine gb_aload_n dX11_run_84 rfl rfl ?_
          obtain ⟨g34, hF⟩ := gb_gdE hF
          refine gb_getI fX11_346 dX11_run_85 (gb_kE g34) ?_
          refine gb_iload_n dX11_run_88 rfl rfl ?_
          obtain ⟨x35, ex35, hF⟩ := gb_ltE hF
          refine gb_topI2 ex35 ?_
          obtain ⟨g36, hF⟩ := gb_gdE hF
          obtain ⟨g37, hF⟩ := gb_gdE hF
          obtain ⟨h38, eh38, hF⟩ := gb_ltE hF
          refine gb_iast dX11_run_89 (gb_kE g36) (gb_inE g37) (gb_hp eh38 ?_)
          refine gb_aload_n dX11_run_90 rfl rfl ?_
          refine gb_dup dX11_run_91 rfl ?_
          obtain ⟨g39, hF⟩ := gb_gdE hF
          refine gb_getI fX11_346 dX11_run_92 (gb_kE g39) ?_
          refine gb_iconst (v := (1 : Int32)) dX11_run_95 (by decide) ?_
          refine gb_iadd dX11_run_96 ?_
          obtain ⟨g40, hF⟩ := gb_gdE hF
          obtain ⟨h41, eh41, hF⟩ := gb_ltE hF
          refine gb_putI fX11_346 (gb_nff nf11_37) dX11_run_97 (gb_kE g40) (fun _ => ⟨rfl, rfl⟩) (gb_hp eh41 ?_)
          refine gb_aload_n dX11_run_100 rfl rfl ?_
          refine gb_aload_n dX11_run_101 rfl rfl ?_
          obtain ⟨g42, hF⟩ := gb_gdE hF
          refine gb_getI fX11_346 dX11_run_102 (gb_kE g42) ?_
          obtain ⟨g43, hF⟩ := gb_gdE hF
          obtain ⟨x44, h45, cx44, hF⟩ := gb_bdE hF
          refine gb_cV (As := [.int (gb_I h41 p0 37)]) (S := []) (v := some (.int x44)) (h1 := h45) (S2 := [.int x44]) cf11 dX11_run_105 mtX11_ends lX11_108 inX11_ends seX11_ends (gb_kE g43) (fnX11_ends_ok _ _ cx44) (by decide) rfl (Nat.le_of_ble_eq_true rfl) (Nat.le_of_ble_eq_true rfl) rfl rfl ?_
          cases hF
          exact gb_iret dX11_run_108 rfl
        · replace hF := gb_ifT c14 hF
          refine gb_aload_n dX11_run_53 rfl rfl ?_
          refine gb_bipush (v := (-5 : Int32)) dX11_run_54 (by decide) ?_
          obtain ⟨g15, hF⟩ := gb_gdE hF
          obtain ⟨x16, h17, cx16, hF⟩ := gb_bdE hF
          refine gb_cV (As := [.int (-5 : Int32)]) (S := []) (v := some (.int x16)) (h1 := h17) (S2 := [.int x16]) cf11 dX11_run_56 mtX11_ends lX11_108 inX11_ends seX11_ends (gb_kE g15) (fnX11_ends_ok _ _ cx16) (by decide) rfl (Nat.le_of_ble_eq_true rfl) (Nat.le_of_ble_eq_true rfl) rfl rfl ?_
          cases hF
          exact gb_iret dX11_run_59 rfl
      · replace hF := gb_ifT c9 hF
        refine gb_aload_n dX11_run_36 rfl rfl ?_
        refine gb_bipush (v := (-2 : Int32)) dX11_run_37 (by decide) ?_
        obtain ⟨g10, hF⟩ := gb_gdE hF
        obtain ⟨x11, h12, cx11, hF⟩ := gb_bdE hF
        refine gb_cV (As := [.int (-2 : Int32)]) (S := []) (v := some (.int x11)) (h1 := h12) (S2 := [.int x11]) cf11 dX11_run_39 mtX11_ends lX11_108 inX11_ends seX11_ends (gb_kE g10) (fnX11_ends_ok _ _ cx11) (by decide) rfl (Nat.le_of_ble_eq_true rfl) (Nat.le_of_ble_eq_true rfl) rfl rfl ?_
        cases hF
        exact gb_iret dX11_run_42 rfl
    · replace hF := gb_ifT c6 hF
      exact gb_wk (fbX11_run_21_ok p0 h5 r hF) (And.intro rfl trivial)
def fbX11_countedOf_60 (k6 : Nat → Int32 → Int32 → Int32 → Int32 → Int32 → gb_H → Option (Int32 × gb_H)) (v0 : Nat) (v1 : Int32) (v2 : Int32) (v3 : Int32) (v5 : Int32) (s0 : Int32) (s1 : Int32) (h : gb_H) : Option (Int32 × gb_H) :=
  gb_lt (s0 + s1) fun x1 =>
  gb_lt (v5 + (1 : Int32)) fun x2 =>
  k6 v0 v1 v2 v3 x1 x2 h
theorem fbX11_countedOf_60_ok {X : gb_X} {k6 : Nat → Int32 → Int32 → Int32 → Int32 → Int32 → gb_H → Option (Int32 × gb_H)} (hk6 : ∀ v0 v1 v2 v3 v4 v5 h r, k6 v0 v1 v2 v3 v4 v5 h = some r → gb_Ev X 1 mX11_countedOf 6 [some (.ref v0), some (.int v1), some (.int v2), some (.int v3), some (.int v4), some (.int v5)] [] h (gb_wI r)) (v0 : Nat) (v1 : Int32) (v2 : Int32) (v3 : Int32) (v5 : Int32) (s0 : Int32) (s1 : Int32) (h : gb_H) (r : Int32 × gb_H) (hF : fbX11_countedOf_60 k6 v0 v1 v2 v3 v5 s0 s1 h = some r) : gb_Ev X 1 mX11_countedOf 60 [some (.ref v0), some (.int v1), some (.int v2), some (.int v3), none, some (.int v5)] [.int s1, .int s0] h (gb_wI r) := by
  unfold fbX11_countedOf_60 at hF
  refine gb_iadd dX11_countedOf_60 ?_
  obtain ⟨x1, ex1, hF⟩ := gb_ltE hF
  refine gb_topI ex1 ?_
  refine gb_istore (L' := [some (.ref v0), some (.int v1), some (.int v2), some (.int v3), some (.int x1), some (.int v5)]) dX11_countedOf_61 (by decide) rfl rfl ?_
  obtain ⟨x2, ex2, hF⟩ := gb_ltE hF
  refine gb_iinc (v := x2) (L' := [some (.ref v0), some (.int v1), some (.int v2), some (.int v3), some (.int x1), some (.int x2)]) dX11_countedOf_63 rfl (by rw [ex2]; rfl) (by decide) rfl rfl ?_
  refine gb_goto (tgt := 6) dX11_countedOf_66 (by decide) ?_
  exact gb_wk (hk6 v0 v1 v2 v3 x1 x2 h r hF) (And.intro rfl (And.intro rfl (And.intro rfl (And.intro rfl (And.intro rfl (And.intro rfl trivial))))))
def fbX11_countedOf_55 (k6 : Nat → Int32 → Int32 → Int32 → Int32 → Int32 → gb_H → Option (Int32 × gb_H)) (v0 : Nat) (v1 : Int32) (v2 : Int32) (v3 : Int32) (v5 : Int32) (s0 : Int32) (h : gb_H) : Option (Int32 × gb_H) :=
  fbX11_countedOf_60 k6 v0 v1 v2 v3 v5 s0 (1 : Int32) h
theorem fbX11_countedOf_55_ok {X : gb_X} {k6 : Nat → Int32 → Int32 → Int32 → Int32 → Int32 → gb_H → Option (Int32 × gb_H)} (hk6 : ∀ v0 v1 v2 v3 v4 v5 h r, k6 v0 v1 v2 v3 v4 v5 h = some r → gb_Ev X 1 mX11_countedOf 6 [some (.ref v0), some (.int v1), some (.int v2), some (.int v3), some (.int v4), some (.int v5)] [] h (gb_wI r)) (v0 : Nat) (v1 : Int32) (v2 : Int32) (v3 : Int32) (v5 : Int32) (s0 : Int32) (h : gb_H) (r : Int32 × gb_H) (hF : fbX11_countedOf_55 k6 v0 v1 v2 v3 v5 s0 h = some r) : gb_Ev X 1 mX11_countedOf 55 [some (.ref v0), some (.int v1), some (.int v2), some (.int v3), none, some (.int v5)] [.int s0] h (gb_wI r) := by
  unfold fbX11_countedOf_55 at hF
  refine gb_iconst (v := (1 : Int32)) dX11_countedOf_55 (by decide) ?_
  refine gb_goto (tgt := 60) dX11_countedOf_56 (by decide) ?_
  exact gb_wk (fbX11_countedOf_60_ok hk6 v0 v1 v2 v3 v5 s0 (1 : Int32) h r hF) (And.intro rfl (And.intro rfl (And.intro rfl (And.intro rfl (And.intro rfl trivial)))))
def fbX11_countedOf_59 (k6 : Nat → Int32 → Int32 → Int32 → Int32 → Int32 → gb_H → Option (Int32 × gb_H)) (v0 : Nat) (v1 : Int32) (v2 : Int32) (v3 : Int32) (v5 : Int32) (s0 : Int32) (h : gb_H) : Option (Int32 × gb_H) :=
  fbX11_countedOf_60 k6 v0 v1 v2 v3 v5 s0 (0 : Int32) h
theorem fbX11_countedOf_59_ok {X : gb_X} {k6 : Nat → Int32 → Int32 → Int32 → Int32 → Int32 → gb_H → Option (Int32 × gb_H)} (hk6 : ∀ v0 v1 v2 v3 v4 v5 h r, k6 v0 v1 v2 v3 v4 v5 h = some r → gb_Ev X 1 mX11_countedOf 6 [some (.ref v0), some (.int v1), some (.int v2), some (.int v3), some (.int v4), some (.int v5)] [] h (gb_wI r)) (v0 : Nat) (v1 : Int32) (v2 : Int32) (v3 : Int32) (v5 : Int32) (s0 : Int32) (h : gb_H) (r : Int32 × gb_H) (hF : fbX11_countedOf_59 k6 v0 v1 v2 v3 v5 s0 h = some r) : gb_Ev X 1 mX11_countedOf 59 [some (.ref v0), some (.int v1), some (.int v2), some (.int v3), none, some (.int v5)] [.int s0] h (gb_wI r) := by
  unfold fbX11_countedOf_59 at hF
  refine gb_iconst (v := (0 : Int32)) dX11_countedOf_59 (by decide) ?_
  exact gb_wk (fbX11_countedOf_60_ok hk6 v0 v1 v2 v3 v5 s0 (0 : Int32) h r hF) (And.intro rfl (And.intro rfl (And.intro rfl (And.intro rfl (And.intro rfl trivial)))))
def fbX11_countedOf_6 (k6 : Nat → Int32 → Int32 → Int32 → Int32 → Int32 → gb_H → Option (Int32 × gb_H)) (v0 : Nat) (v1 : Int32) (v2 : Int32) (v3 : Int32) (v4 : Int32) (v5 : Int32) (h : gb_H) : Option (Int32 × gb_H) :=
  gb_gd (gb_k h v0 11) <|
  if (gb_I h v0 37) ≤ v5 then
    some (v4, h)
  else
    gb_gd (gb_k h v0 11) <|
    gb_rd (gb_R h v0 38) fun a4 =>
    gb_gd (gb_k h a4 20) <|
    gb_gd (gb_in h a4 v5) <|
    if (gb_I h a4 v5.toNatClampNeg) = v1 then
      gb_gd (gb_k h v0 11) <|
      gb_rd (gb_R h v0 40) fun a9 =>
      gb_gd (gb_k h a9 20) <|
      gb_gd (gb_in h a9 v5) <|
      if v3 < (gb_I h a9 v5.toNatClampNeg) then
        fbX11_countedOf_59 k6 v0 v1 v2 v3 v5 v4 h
      else
        if v2 = (-1 : Int32) then
          fbX11_countedOf_55 k6 v0 v1 v2 v3 v5 v4 h
        else
          gb_gd (gb_k h v0 11) <|
          gb_rd (gb_R h v0 39) fun a15 =>
          gb_gd (gb_k h a15 20) <|
          gb_gd (gb_in h a15 v5) <|
          if (gb_I h a15 v5.toNatClampNeg) = v2 then
            fbX11_countedOf_55 k6 v0 v1 v2 v3 v5 v4 h
          else
            fbX11_countedOf_59 k6 v0 v1 v2 v3 v5 v4 h
    else
      fbX11_countedOf_59 k6 v0 v1 v2 v3 v5 v4 h
theorem fbX11_countedOf_6_ok {X : gb_X} {k6 : Nat → Int32 → Int32 → Int32 → Int32 → Int32 → gb_H → Option (Int32 × gb_H)} (hk6 : ∀ v0 v1 v2 v3 v4 v5 h r, k6 v0 v1 v2 v3 v4 v5 h = some r → gb_Ev X 1 mX11_countedOf 6 [some (.ref v0), some (.int v1), some (.int v2), some (.int v3), some (.int v4), some (.int v5)] [] h (gb_wI r)) (v0 : Nat) (v1 : Int32) (v2 : Int32) (v3 : Int32) (v4 : Int32) (v5 : Int32) (h : gb_H) (r : Int32 × gb_H) (hF : fbX11_countedOf_6 k6 v0 v1 v2 v3 v4 v5 h = some r) : gb_Ev X 1 mX11_countedOf 6 [some (.ref v0), some (.int v1), some (.int v2), some (.int v3), some (.int v4), some (.int v5)] [] h (gb_wI r) := by
  unfold fbX11_countedOf_6 at hF
  refine gb_iload dX11_countedOf_6 rfl ?_
  refine gb_aload_n dX11_countedOf_8 rfl rfl ?_
  obtain ⟨g1, hF⟩ := gb_gdE hF
  refine gb_getI fX11_346 dX11_countedOf_9 (gb_kE g1) ?_
  refine gb_icmp_ge (tgt := 69) dX11_countedOf_12 (by decide) (fun c2 => ?_) (fun c2 => ?_)
  · replace hF := gb_ifT c2 hF
    refine gb_iload dX11_countedOf_69 rfl ?_
    cases hF
    exact gb_iret dX11_countedOf_71 rfl
  · replace hF := gb_ifF c2 hF
    refine gb_iload dX11_countedOf_15 rfl ?_
    refine gb_aload_n dX11_countedOf_17 rfl rfl ?_
    obtain ⟨g3, hF⟩ := gb_gdE hF
    obtain ⟨a4, ea4, hF⟩ := gb_rdE hF
    refine gb_getR fX11_74 dX11_countedOf_18 (gb_kE g3) ea4 ?_
    refine gb_iload dX11_countedOf_21 rfl ?_
    obtain ⟨g5, hF⟩ := gb_gdE hF
    obtain ⟨g6, hF⟩ := gb_gdE hF
    refine gb_iald dX11_countedOf_23 (gb_kE g5) (gb_inE g6) ?_
    refine gb_iload_n dX11_countedOf_24 rfl rfl ?_
    refine gb_icmp_ne (tgt := 59) dX11_countedOf_25 (by decide) (fun c7 => ?_) (fun c7 => ?_)
    · replace hF := gb_ifF c7 hF
      exact gb_wk (fbX11_countedOf_59_ok hk6 v0 v1 v2 v3 v5 v4 h r hF) (And.intro rfl (And.intro rfl (And.intro rfl (And.intro rfl (And.intro rfl trivial)))))
    · replace hF := gb_ifT c7 hF
      refine gb_aload_n dX11_countedOf_28 rfl rfl ?_
      obtain ⟨g8, hF⟩ := gb_gdE hF
      obtain ⟨a9, ea9, hF⟩ := gb_rdE hF
      refine gb_getR fX11_80 dX11_countedOf_29 (gb_kE g8) ea9 ?_
      refine gb_iload dX11_countedOf_32 rfl ?_
      obtain ⟨g10, hF⟩ := gb_gdE hF
      obtain ⟨g11, hF⟩ := gb_gdE hF
      refine gb_iald dX11_countedOf_34 (gb_kE g10) (gb_inE g11) ?_
      refine gb_iload_n dX11_countedOf_35 rfl rfl ?_
      refine gb_icmp_gt (tgt := 59) dX11_countedOf_36 (by decide) (fun c12 => ?_) (fun c12 => ?_)
      · replace hF := gb_ifT c12 hF
        exact gb_wk (fbX11_countedOf_59_ok hk6 v0 v1 v2 v3 v5 v4 h r hF) (And.intro rfl (And.intro rfl (And.intro rfl (And.intro rfl (And.intro rfl trivial)))))
      · replace hF := gb_ifF c12 hF
        refine gb_iload_n dX11_countedOf_39 rfl rfl ?_
        refine gb_iconst (v := (-1 : Int32)) dX11_countedOf_40 (by decide) ?_
        refine gb_icmp_eq (tgt := 55) dX11_countedOf_41 (by decide) (fun c13 => ?_) (fun c13 => ?_)
        · replace hF := gb_ifT c13 hF
          exact gb_wk (fbX11_countedOf_55_ok hk6 v0 v1 v2 v3 v5 v4 h r hF) (And.intro rfl (And.intro rfl (And.intro rfl (And.intro rfl (And.intro rfl trivial)))))
        · replace hF := gb_ifF c13 hF
          refine gb_aload_n dX11_countedOf_44 rfl rfl ?_
          obtain ⟨g14, hF⟩ := gb_gdE hF
          obtain ⟨a15, ea15, hF⟩ := gb_rdE hF
          refine gb_getR fX11_77 dX11_countedOf_45 (gb_kE g14) ea15 ?_
          refine gb_iload dX11_countedOf_48 rfl ?_
          obtain ⟨g16, hF⟩ := gb_gdE hF
          obtain ⟨g17, hF⟩ := gb_gdE hF
          refine gb_iald dX11_countedOf_50 (gb_kE g16) (gb_inE g17) ?_
          refine gb_iload_n dX11_countedOf_51 rfl rfl ?_
          refine gb_icmp_ne (tgt := 59) dX11_countedOf_52 (by decide) (fun c18 => ?_) (fun c18 => ?_)
          · replace hF := gb_ifF c18 hF
            exact gb_wk (fbX11_countedOf_59_ok hk6 v0 v1 v2 v3 v5 v4 h r hF) (And.intro rfl (And.intro rfl (And.intro rfl (And.intro rfl (And.intro rfl trivial)))))
          · replace hF := gb_ifT c18 hF
            exact gb_wk (fbX11_countedOf_55_ok hk6 v0 v1 v2 v3 v5 v4 h r hF) (And.intro rfl (And.intro rfl (And.intro rfl (And.intro rfl (And.intro rfl trivial)))))
def lpX11_countedOf_6 (n : Nat) (v0 : Nat) (v1 : Int32) (v2 : Int32) (v3 : Int32) (v4 : Int32) (v5 : Int32) (h : gb_H) : Option (Int32 × gb_H) := gb_lp (σ := Nat × Int32 × Int32 × Int32 × Int32 × Int32 × gb_H) (fun k s => fbX11_countedOf_6 (fun v0 v1 v2 v3 v4 v5 h => k (v0, v1, v2, v3, v4, v5, h)) s.1 s.2.1 s.2.2.1 s.2.2.2.1 s.2.2.2.2.1 s.2.2.2.2.2.1 s.2.2.2.2.2.2) n (v0, v1, v2, v3, v4, v5, h)
theorem lpX11_countedOf_6_ok {X : gb_X}  (n : Nat) (v0 : Nat) (v1 : Int32) (v2 : Int32) (v3 : Int32) (v4 : Int32) (v5 : Int32) (h : gb_H) (r : Int32 × gb_H) (hF : lpX11_countedOf_6 n v0 v1 v2 v3 v4 v5 h = some r) : gb_Ev X 1 mX11_countedOf 6 [some (.ref v0), some (.int v1), some (.int v2), some (.int v3), some (.int v4), some (.int v5)] [] h (gb_wI r) := by
  exact gb_lpE (σ := Nat × Int32 × Int32 × Int32 × Int32 × Int32 × gb_H) (P := fun s r => gb_Ev X 1 mX11_countedOf 6 [some (.ref s.1), some (.int s.2.1), some (.int s.2.2.1), some (.int s.2.2.2.1), some (.int s.2.2.2.2.1), some (.int s.2.2.2.2.2.1)] [] s.2.2.2.2.2.2 (gb_wI r)) (fun k hk s r hs => fbX11_countedOf_6_ok (fun v0 v1 v2 v3 v4 v5 h r e => hk (v0, v1, v2, v3, v4, v5, h) r e) _ _ _ _ _ _ _ r hs) n (v0, v1, v2, v3, v4, v5, h) r hF
def fnX11_countedOf (p0 : Nat) (p1 : Int32) (p2 : Int32) (p3 : Int32) (h : gb_H) : Option (Int32 × gb_H) :=
  lpX11_countedOf_6 gb_FU p0 p1 p2 p3 (0 : Int32) (0 : Int32) h
theorem fnX11_countedOf_ok {X : gb_X}  {p0 : Nat} {p1 : Int32} {p2 : Int32} {p3 : Int32} (h : gb_H) (r : Int32 × gb_H) (hF : fnX11_countedOf p0 p1 p2 p3 h = some r) : gb_Ev X 1 mX11_countedOf 0 (gb_L0 [.ref p0, .int p1, .int p2, .int p3]) [] h (gb_wI r) := by
  unfold fnX11_countedOf at hF
  refine gb_weak (L' := [some (.ref p0), some (.int p1), some (.int p2), some (.int p3), none, none]) (And.intro rfl (And.intro rfl (And.intro rfl (And.intro rfl trivial)))) ?_
  refine gb_iconst (v := (0 : Int32)) dX11_countedOf_0 (by decide) ?_
  refine gb_istore (L' := [some (.ref p0), some (.int p1), some (.int p2), some (.int p3), some (.int (0 : Int32)), none]) dX11_countedOf_1 (by decide) rfl rfl ?_
  refine gb_iconst (v := (0 : Int32)) dX11_countedOf_3 (by decide) ?_
  refine gb_istore (L' := [some (.ref p0), some (.int p1), some (.int p2), some (.int p3), some (.int (0 : Int32)), some (.int (0 : Int32))]) dX11_countedOf_4 (by decide) rfl rfl ?_
  exact gb_wk (lpX11_countedOf_6_ok gb_FU p0 p1 p2 p3 (0 : Int32) (0 : Int32) h r hF) (And.intro rfl (And.intro rfl (And.intro rfl (And.intro rfl (And.intro rfl (And.intro rfl trivial))))))
def fbX11_counted_41 (s0 : Int32) (h : gb_H) : Option (Int32 × gb_H) :=
  some (s0, h)
theorem fbX11_counted_41_ok {X : gb_X} (s0 : Int32) (h : gb_H) (r : Int32 × gb_H) (hF : fbX11_counted_41 s0 h = some r) : gb_Ev X 2 mX11_counted 41 [none, none, none, none] [.int s0] h (gb_wI r) := by
  unfold fbX11_counted_41 at hF
  cases hF
  exact gb_iret dX11_counted_41 rfl
def fbX11_counted_40 (h : gb_H) : Option (Int32 × gb_H) :=
  fbX11_counted_41 (-1 : Int32) h
theorem fbX11_counted_40_ok {X : gb_X} (h : gb_H) (r : Int32 × gb_H) (hF : fbX11_counted_40 h = some r) : gb_Ev X 2 mX11_counted 40 [none, none, none, none] [] h (gb_wI r) := by
  unfold fbX11_counted_40 at hF
  refine gb_iconst (v := (-1 : Int32)) dX11_counted_40 (by decide) ?_
  exact gb_wk (fbX11_counted_41_ok (-1 : Int32) h r hF) trivial
def fnX11_counted (p0 : Nat) (p1 : Int32) (p2 : Int32) (p3 : Int32) (h : gb_H) : Option (Int32 × gb_H) :=
  gb_bd (fnX11_in p1 (0 : Int32) (3 : Int32) h) fun x1 h2 =>
  if x1 = 0 then
    fbX11_counted_40 h2
  else
    gb_bd (fnX11_in p2 (-1 : Int32) (31 : Int32) h2) fun x4 h5 =>
    if x4 = 0 then
      fbX11_counted_40 h5
    else
      gb_bd (fnX11_in p3 (0 : Int32) (999 : Int32) h5) fun x7 h8 =>
      if x7 = 0 then
        fbX11_counted_40 h8
      else
        gb_gd (gb_k h8 p0 11) <|
        gb_bd (fnX11_countedOf p0 p1 p2 p3 h8) fun x11 h12 =>
        fbX11_counted_41 x11 h12
theorem fnX11_counted_ok {X : gb_X}  {p0 : Nat} {p1 : Int32} {p2 : Int32} {p3 : Int32} (h : gb_H) (r : Int32 × gb_H) (hF : fnX11_counted p0 p1 p2 p3 h = some r) : gb_Ev X 2 mX11_counted 0 (gb_L0 [.ref p0, .int p1, .int p2, .int p3]) [] h (gb_wI r) := by
  unfold fnX11_counted at hF
  refine gb_weak (L' := [some (.ref p0), some (.int p1), some (.int p2), some (.int p3)]) (And.intro rfl (And.intro rfl (And.intro rfl (And.intro rfl trivial)))) ?_
  refine gb_iload_n dX11_counted_0 rfl rfl ?_
  refine gb_iconst (v := (0 : Int32)) dX11_counted_1 (by decide) ?_
  refine gb_iconst (v := (3 : Int32)) dX11_counted_2 (by decide) ?_
  obtain ⟨x1, h2, cx1, hF⟩ := gb_bdE hF
  refine gb_cS (As := [.int p1, .int (0 : Int32), .int (3 : Int32)]) (S := []) (v := some (.int x1)) (h1 := h2) (S2 := [.int x1]) dX11_counted_3 mtX11_in lX11_104 stX11_in (fnX11_in_ok _ _ cx1) (by decide) rfl (Nat.le_of_ble_eq_true rfl) (Nat.le_of_ble_eq_true rfl) rfl rfl ?_
  refine gb_if_eq (tgt := 40) dX11_counted_6 (by decide) (fun c3 => ?_) (fun c3 => ?_)
  · replace hF := gb_ifT c3 hF
    exact gb_wk (fbX11_counted_40_ok h2 r hF) trivial
  · replace hF := gb_ifF c3 hF
    refine gb_iload_n dX11_counted_9 rfl rfl ?_
    refine gb_iconst (v := (-1 : Int32)) dX11_counted_10 (by decide) ?_
    refine gb_bipush (v := (31 : Int32)) dX11_counted_11 (by decide) ?_
    obtain ⟨x4, h5, cx4, hF⟩ := gb_bdE hF
    refine gb_cS (As := [.int p2, .int (-1 : Int32), .int (31 : Int32)]) (S := []) (v := some (.int x4)) (h1 := h5) (S2 := [.int x4]) dX11_counted_13 mtX11_in lX11_104 stX11_in (fnX11_in_ok _ _ cx4) (by decide) rfl (Nat.le_of_ble_eq_true rfl) (Nat.le_of_ble_eq_true rfl) rfl rfl ?_
    refine gb_if_eq (tgt := 40) dX11_counted_16 (by decide) (fun c6 => ?_) (fun c6 => ?_)
    · replace hF := gb_ifT c6 hF
      exact gb_wk (fbX11_counted_40_ok h5 r hF) trivial
    · replace hF := gb_ifF c6 hF
      refine gb_iload_n dX11_counted_19 rfl rfl ?_
      refine gb_iconst (v := (0 : Int32)) dX11_counted_20 (by decide) ?_
      refine gb_sipush (v := (999 : Int32)) dX11_counted_21 (by decide) ?_
      obtain ⟨x7, h8, cx7, hF⟩ := gb_bdE hF
      refine gb_cS (As := [.int p3, .int (0 : Int32), .int (999 : Int32)]) (S := []) (v := some (.int x7)) (h1 := h8) (S2 := [.int x7]) dX11_counted_24 mtX11_in lX11_104 stX11_in (fnX11_in_ok _ _ cx7) (by decide) rfl (Nat.le_of_ble_eq_true rfl) (Nat.le_of_ble_eq_true rfl) rfl rfl ?_
      refine gb_if_eq (tgt := 40) dX11_counted_27 (by decide) (fun c9 => ?_) (fun c9 => ?_)
      · replace hF := gb_ifT c9 hF
        exact gb_wk (fbX11_counted_40_ok h8 r hF) trivial
      · replace hF := gb_ifF c9 hF
        refine gb_aload_n dX11_counted_30 rfl rfl ?_
        refine gb_iload_n dX11_counted_31 rfl rfl ?_
        refine gb_iload_n dX11_counted_32 rfl rfl ?_
        refine gb_iload_n dX11_counted_33 rfl rfl ?_
        obtain ⟨g10, hF⟩ := gb_gdE hF
        obtain ⟨x11, h12, cx11, hF⟩ := gb_bdE hF
        refine gb_cV (As := [.int p1, .int p2, .int p3]) (S := []) (v := some (.int x11)) (h1 := h12) (S2 := [.int x11]) cf11 dX11_counted_34 mtX11_countedOf lX11_348 inX11_countedOf seX11_countedOf (gb_kE g10) (fnX11_countedOf_ok _ _ cx11) (by decide) rfl (Nat.le_of_ble_eq_true rfl) (Nat.le_of_ble_eq_true rfl) rfl rfl ?_
        refine gb_goto (tgt := 41) dX11_counted_37 (by decide) ?_
        exact gb_wk (fbX11_counted_41_ok x11 h12 r hF) trivial
def fbX11_wrong_28 (h : gb_H) : Option (Int32 × gb_H) :=
  some ((-1 : Int32), h)
theorem fbX11_wrong_28_ok {X : gb_X} (h : gb_H) (r : Int32 × gb_H) (hF : fbX11_wrong_28 h = some r) : gb_Ev X 8 mX11_wrong 28 [none, none, none, none, none] [] h (gb_wI r) := by
  unfold fbX11_wrong_28 at hF
  refine gb_iconst (v := (-1 : Int32)) dX11_wrong_28 (by decide) ?_
  cases hF
  exact gb_iret dX11_wrong_29 rfl
def fbX11_wrong_77 (k35 : Nat → Int32 → Int32 → Int32 → Int32 → gb_H → Option (Int32 × gb_H)) (v0 : Nat) (v1 : Int32) (v2 : Int32) (v3 : Int32) (v4 : Int32) (h : gb_H) : Option (Int32 × gb_H) :=
  gb_lt (v4 + (1 : Int32)) fun x1 =>
  k35 v0 v1 v2 v3 x1 h
theorem fbX11_wrong_77_ok {X : gb_X} {k35 : Nat → Int32 → Int32 → Int32 → Int32 → gb_H → Option (Int32 × gb_H)} (hk35 : ∀ v0 v1 v2 v3 v4 h r, k35 v0 v1 v2 v3 v4 h = some r → gb_Ev X 8 mX11_wrong 35 [some (.ref v0), some (.int v1), some (.int v2), some (.int v3), some (.int v4)] [] h (gb_wI r)) (v0 : Nat) (v1 : Int32) (v2 : Int32) (v3 : Int32) (v4 : Int32) (h : gb_H) (r : Int32 × gb_H) (hF : fbX11_wrong_77 k35 v0 v1 v2 v3 v4 h = some r) : gb_Ev X 8 mX11_wrong 77 [some (.ref v0), some (.int v1), some (.int v2), some (.int v3), some (.int v4)] [] h (gb_wI r) := by
  unfold fbX11_wrong_77 at hF
  obtain ⟨x1, ex1, hF⟩ := gb_ltE hF
  refine gb_iinc (v := x1) (L' := [some (.ref v0), some (.int v1), some (.int v2), some (.int v3), some (.int x1)]) dX11_wrong_77 rfl (by rw [ex1]; rfl) (by decide) rfl rfl ?_
  refine gb_goto (tgt := 35) dX11_wrong_80 (by decide) ?_
  exact gb_wk (hk35 v0 v1 v2 v3 x1 h r hF) (And.intro rfl (And.intro rfl (And.intro rfl (And.intro rfl (And.intro rfl trivial)))))
def fbX11_wrong_35 (k35 : Nat → Int32 → Int32 → Int32 → Int32 → gb_H → Option (Int32 × gb_H)) (v0 : Nat) (v1 : Int32) (v2 : Int32) (v3 : Int32) (v4 : Int32) (h : gb_H) : Option (Int32 × gb_H) :=
  if (32 : Int32) ≤ v4 then
    some (v3, h)
  else
    gb_gd (gb_k h v0 11) <|
    gb_bd (fnX11_clicksOf v0 v4 h) fun _ h4 =>
    gb_gd (gb_k h4 v0 11) <|
    if (gb_L h4 v0 34) = (0 : Int64) then
      gb_gd (gb_k h4 v0 11) <|
      if (gb_L h4 v0 35) = (0 : Int64) then
        gb_gd (gb_k h4 v0 11) <|
        gb_bd (fnX11_countedOf v0 v1 v4 v2 h4) fun x10 h11 =>
        gb_lt (v3 + x10) fun x12 =>
        fbX11_wrong_77 k35 v0 v1 v2 x12 v4 h11
      else
        fbX11_wrong_77 k35 v0 v1 v2 v3 v4 h4
    else
      fbX11_wrong_77 k35 v0 v1 v2 v3 v4 h4
theorem fbX11_wrong_35_ok {X : gb_X} {k35 : Nat → Int32 → Int32 → Int32 → Int32 → gb_H → Option (Int32 × gb_H)} (hk35 : ∀ v0 v1 v2 v3 v4 h r, k35 v0 v1 v2 v3 v4 h = some r → gb_Ev X 8 mX11_wrong 35 [some (.ref v0), some (.int v1), some (.int v2), some (.int v3), some (.int v4)] [] h (gb_wI r)) (v0 : Nat) (v1 : Int32) (v2 : Int32) (v3 : Int32) (v4 : Int32) (h : gb_H) (r : Int32 × gb_H) (hF : fbX11_wrong_35 k35 v0 v1 v2 v3 v4 h = some r) : gb_Ev X 8 mX11_wrong 35 [some (.ref v0), some (.int v1), some (.int v2), some (.int v3), some (.int v4)] [] h (gb_wI r) := by
  unfold fbX11_wrong_35 at hF
  refine gb_iload dX11_wrong_35 rfl ?_
  refine gb_bipush (v := (32 : Int32)) dX11_wrong_37 (by decide) ?_
  refine gb_icmp_ge (tgt := 83) dX11_wrong_39 (by decide) (fun c1 => ?_) (fun c1 => ?_)
  · replace hF := gb_ifT c1 hF
    refine gb_iload_n dX11_wrong_83 rfl rfl ?_
    cases hF
    exact gb_iret dX11_wrong_84 rfl
  · replace hF := gb_ifF c1 hF
    refine gb_aload_n dX11_wrong_42 rfl rfl ?_
    refine gb_iload dX11_wrong_43 rfl ?_
    obtain ⟨g2, hF⟩ := gb_gdE hF
    obtain ⟨x3, h4, cx3, hF⟩ := gb_bdE hF
    refine gb_cV (As := [.int v4]) (S := []) (v := none) (h1 := h4) (S2 := []) cf11 dX11_wrong_45 mtX11_clicksOf lX11_343 inX11_clicksOf seX11_clicksOf (gb_kE g2) (fnX11_clicksOf_ok _ _ cx3) (by decide) rfl (Nat.le_of_ble_eq_true rfl) (Nat.le_of_ble_eq_true rfl) rfl rfl ?_
    refine gb_aload_n dX11_wrong_48 rfl rfl ?_
    obtain ⟨g5, hF⟩ := gb_gdE hF
    refine gb_getL fX11_330 dX11_wrong_49 (gb_kE g5) ?_
    refine gb_lconst (v := (0 : Int64)) dX11_wrong_52 (by decide) ?_
    refine gb_lc_ne (tgt := 77) dX11_wrong_53 dX11_wrong_54 (by decide) (fun c6 => ?_) (fun c6 => ?_)
    · replace hF := gb_ifF c6 hF
      exact gb_wk (fbX11_wrong_77_ok hk35 v0 v1 v2 v3 v4 h4 r hF) (And.intro rfl (And.intro rfl (And.intro rfl (And.intro rfl (And.intro rfl trivial)))))
    · replace hF := gb_ifT c6 hF
      refine gb_aload_n dX11_wrong_57 rfl rfl ?_
      obtain ⟨g7, hF⟩ := gb_gdE hF
      refine gb_getL fX11_333 dX11_wrong_58 (gb_kE g7) ?_
      refine gb_lconst (v := (0 : Int64)) dX11_wrong_61 (by decide) ?_
      refine gb_lc_ne (tgt := 77) dX11_wrong_62 dX11_wrong_63 (by decide) (fun c8 => ?_) (fun c8 => ?_)
      · replace hF := gb_ifF c8 hF
        exact gb_wk (fbX11_wrong_77_ok hk35 v0 v1 v2 v3 v4 h4 r hF) (And.intro rfl (And.intro rfl (And.intro rfl (And.intro rfl (And.intro rfl trivial)))))
      · replace hF := gb_ifT c8 hF
        refine gb_iload_n dX11_wrong_66 rfl rfl ?_
        refine gb_aload_n dX11_wrong_67 rfl rfl ?_
        refine gb_iload_n dX11_wrong_68 rfl rfl ?_
        refine gb_iload dX11_wrong_69 rfl ?_
        refine gb_iload_n dX11_wrong_71 rfl rfl ?_
        obtain ⟨g9, hF⟩ := gb_gdE hF
        obtain ⟨x10, h11, cx10, hF⟩ := gb_bdE hF
        refine gb_cV (As := [.int v1, .int v4, .int v2]) (S := [.int v3]) (v := some (.int x10)) (h1 := h11) (S2 := [.int x10, .int v3]) cf11 dX11_wrong_72 mtX11_countedOf lX11_348 inX11_countedOf seX11_countedOf (gb_kE g9) (fnX11_countedOf_ok _ _ cx10) (by decide) rfl (Nat.le_of_ble_eq_true rfl) (Nat.le_of_ble_eq_true rfl) rfl rfl ?_
        refine gb_iadd dX11_wrong_75 ?_
        obtain ⟨x12, ex12, hF⟩ := gb_ltE hF
        refine gb_topI ex12 ?_
        refine gb_istore_n (L' := [some (.ref v0), some (.int v1), some (.int v2), some (.int x12), some (.int v4)]) dX11_wrong_76 rfl (by decide) rfl rfl ?_
        exact gb_wk (fbX11_wrong_77_ok hk35 v0 v1 v2 x12 v4 h11 r hF) (And.intro rfl (And.intro rfl (And.intro rfl (And.intro rfl (And.intro rfl trivial)))))
def lpX11_wrong_35 (n : Nat) (v0 : Nat) (v1 : Int32) (v2 : Int32) (v3 : Int32) (v4 : Int32) (h : gb_H) : Option (Int32 × gb_H) := gb_lp (σ := Nat × Int32 × Int32 × Int32 × Int32 × gb_H) (fun k s => fbX11_wrong_35 (fun v0 v1 v2 v3 v4 h => k (v0, v1, v2, v3, v4, h)) s.1 s.2.1 s.2.2.1 s.2.2.2.1 s.2.2.2.2.1 s.2.2.2.2.2) n (v0, v1, v2, v3, v4, h)
theorem lpX11_wrong_35_ok {X : gb_X}  (n : Nat) (v0 : Nat) (v1 : Int32) (v2 : Int32) (v3 : Int32) (v4 : Int32) (h : gb_H) (r : Int32 × gb_H) (hF : lpX11_wrong_35 n v0 v1 v2 v3 v4 h = some r) : gb_Ev X 8 mX11_wrong 35 [some (.ref v0), some (.int v1), some (.int v2), some (.int v3), some (.int v4)] [] h (gb_wI r) := by
  exact gb_lpE (σ := Nat × Int32 × Int32 × Int32 × Int32 × gb_H) (P := fun s r => gb_Ev X 8 mX11_wrong 35 [some (.ref s.1), some (.int s.2.1), some (.int s.2.2.1), some (.int s.2.2.2.1), some (.int s.2.2.2.2.1)] [] s.2.2.2.2.2 (gb_wI r)) (fun k hk s r hs => fbX11_wrong_35_ok (fun v0 v1 v2 v3 v4 h r e => hk (v0, v1, v2, v3, v4, h) r e) _ _ _ _ _ _ r hs) n (v0, v1, v2, v3, v4, h) r hF
def fnX11_wrong (p0 : Nat) (p1 : Int32) (p2 : Int32) (h : gb_H) : Option (Int32 × gb_H) :=
  gb_bd (fnX11_in p1 (0 : Int32) (3 : Int32) h) fun x1 h2 =>
  if x1 = 0 then
    fbX11_wrong_28 h2
  else
    gb_bd (fnX11_in p2 (0 : Int32) (999 : Int32) h2) fun x4 h5 =>
    if x4 = 0 then
      fbX11_wrong_28 h5
    else
      gb_gd (gb_k h5 p0 11) <|
      gb_bd (fnX11_laysBench p0 p1 h5) fun x8 h9 =>
      if x8 = 0 then
        fbX11_wrong_28 h9
      else
        lpX11_wrong_35 gb_FU p0 p1 p2 (0 : Int32) (0 : Int32) h9
theorem fnX11_wrong_ok {X : gb_X}  {p0 : Nat} {p1 : Int32} {p2 : Int32} (h : gb_H) (r : Int32 × gb_H) (hF : fnX11_wrong p0 p1 p2 h = some r) : gb_Ev X 8 mX11_wrong 0 (gb_L0 [.ref p0, .int p1, .int p2]) [] h (gb_wI r) := by
  unfold fnX11_wrong at hF
  refine gb_weak (L' := [some (.ref p0), some (.int p1), some (.int p2), none, none]) (And.intro rfl (And.intro rfl (And.intro rfl trivial))) ?_
  refine gb_iload_n dX11_wrong_0 rfl rfl ?_
  refine gb_iconst (v := (0 : Int32)) dX11_wrong_1 (by decide) ?_
  refine gb_iconst (v := (3 : Int32)) dX11_wrong_2 (by decide) ?_
  obtain ⟨x1, h2, cx1, hF⟩ := gb_bdE hF
  refine gb_cS (As := [.int p1, .int (0 : Int32), .int (3 : Int32)]) (S := []) (v := some (.int x1)) (h1 := h2) (S2 := [.int x1]) dX11_wrong_3 mtX11_in lX11_104 stX11_in (fnX11_in_ok _ _ cx1) (by decide) rfl (Nat.le_of_ble_eq_true rfl) (Nat.le_of_ble_eq_true rfl) rfl rfl ?_
  refine gb_if_eq (tgt := 28) dX11_wrong_6 (by decide) (fun c3 => ?_) (fun c3 => ?_)
  · replace hF := gb_ifT c3 hF
    exact gb_wk (fbX11_wrong_28_ok h2 r hF) trivial
  · replace hF := gb_ifF c3 hF
    refine gb_iload_n dX11_wrong_9 rfl rfl ?_
    refine gb_iconst (v := (0 : Int32)) dX11_wrong_10 (by decide) ?_
    refine gb_sipush (v := (999 : Int32)) dX11_wrong_11 (by decide) ?_
    obtain ⟨x4, h5, cx4, hF⟩ := gb_bdE hF
    refine gb_cS (As := [.int p2, .int (0 : Int32), .int (999 : Int32)]) (S := []) (v := some (.int x4)) (h1 := h5) (S2 := [.int x4]) dX11_wrong_14 mtX11_in lX11_104 stX11_in (fnX11_in_ok _ _ cx4) (by decide) rfl (Nat.le_of_ble_eq_true rfl) (Nat.le_of_ble_eq_true rfl) rfl rfl ?_
    refine gb_if_eq (tgt := 28) dX11_wrong_17 (by decide) (fun c6 => ?_) (fun c6 => ?_)
    · replace hF := gb_ifT c6 hF
      exact gb_wk (fbX11_wrong_28_ok h5 r hF) trivial
    · replace hF := gb_ifF c6 hF
      refine gb_aload_n dX11_wrong_20 rfl rfl ?_
      refine gb_iload_n dX11_wrong_21 rfl rfl ?_
      obtain ⟨g7, hF⟩ := gb_gdE hF
      obtain ⟨x8, h9, cx8, hF⟩ := gb_bdE hF
      refine gb_cV (As := [.int p1]) (S := []) (v := some (.int x8)) (h1 := h9) (S2 := [.int x8]) cf11 dX11_wrong_22 mtX11_laysBench lX11_319 inX11_laysBench seX11_laysBench (gb_kE g7) (fnX11_laysBench_ok _ _ cx8) (by decide) rfl (Nat.le_of_ble_eq_true rfl) (Nat.le_of_ble_eq_true rfl) rfl rfl ?_
      refine gb_if_ne (tgt := 30) dX11_wrong_25 (by decide) (fun c10 => ?_) (fun c10 => ?_)
      · replace hF := gb_ifF c10 hF
        refine gb_iconst (v := (0 : Int32)) dX11_wrong_30 (by decide) ?_
        refine gb_istore_n (L' := [some (.ref p0), some (.int p1), some (.int p2), some (.int (0 : Int32)), none]) dX11_wrong_31 rfl (by decide) rfl rfl ?_
        refine gb_iconst (v := (0 : Int32)) dX11_wrong_32 (by decide) ?_
        refine gb_istore (L' := [some (.ref p0), some (.int p1), some (.int p2), some (.int (0 : Int32)), some (.int (0 : Int32))]) dX11_wrong_33 (by decide) rfl rfl ?_
        exact gb_wk (lpX11_wrong_35_ok gb_FU p0 p1 p2 (0 : Int32) (0 : Int32) h9 r hF) (And.intro rfl (And.intro rfl (And.intro rfl (And.intro rfl (And.intro rfl trivial)))))
      · replace hF := gb_ifT c10 hF
        exact gb_wk (fbX11_wrong_28_ok h9 r hF) trivial
def fbX11_thousandths_18 (k18 : Int64 → Int64 → Int64 → Int32 → gb_H → Option (Int32 × gb_H)) (v2 : Int64) (v4 : Int64) (v6 : Int64) (v8 : Int32) (h : gb_H) : Option (Int32 × gb_H) :=
  if (3 : Int32) ≤ v8 then
    some (v6.toInt32, h)
  else
    gb_lt (v4 * (10 : Int64)) fun x2 =>
    gb_gd (gb_nzL v2) <|
    gb_lt (((10 : Int64) * v6) + (x2 / v2)) fun x4 =>
    gb_gd (gb_nzL v2) <|
    gb_lt (x2 - x2 / v2 * v2) fun x6 =>
    gb_lt (v8 + (1 : Int32)) fun x7 =>
    k18 v2 x6 x4 x7 h
theorem fbX11_thousandths_18_ok {X : gb_X} {k18 : Int64 → Int64 → Int64 → Int32 → gb_H → Option (Int32 × gb_H)} (hk18 : ∀ v2 v4 v6 v8 h r, k18 v2 v4 v6 v8 h = some r → gb_Ev X 1 mX11_thousandths 18 [none, none, some (.long v2), none, some (.long v4), none, some (.long v6), none, some (.int v8)] [] h (gb_wI r)) (v2 : Int64) (v4 : Int64) (v6 : Int64) (v8 : Int32) (h : gb_H) (r : Int32 × gb_H) (hF : fbX11_thousandths_18 k18 v2 v4 v6 v8 h = some r) : gb_Ev X 1 mX11_thousandths 18 [none, none, some (.long v2), none, some (.long v4), none, some (.long v6), none, some (.int v8)] [] h (gb_wI r) := by
  unfold fbX11_thousandths_18 at hF
  refine gb_iload dX11_thousandths_18 rfl ?_
  refine gb_iconst (v := (3 : Int32)) dX11_thousandths_20 (by decide) ?_
  refine gb_icmp_ge (tgt := 57) dX11_thousandths_21 (by decide) (fun c1 => ?_) (fun c1 => ?_)
  · replace hF := gb_ifT c1 hF
    refine gb_lload dX11_thousandths_57 rfl ?_
    refine gb_l2i dX11_thousandths_59 ?_
    cases hF
    exact gb_iret dX11_thousandths_60 rfl
  · replace hF := gb_ifF c1 hF
    refine gb_lload dX11_thousandths_24 rfl ?_
    refine gb_ldc2 (v := (10 : Int64)) dX11_thousandths_26 kX11_341 ?_
    refine gb_lmul dX11_thousandths_29 ?_
    obtain ⟨x2, ex2, hF⟩ := gb_ltE hF
    refine gb_topJ ex2 ?_
    refine gb_lstore (L' := [none, none, some (.long v2), none, some (.long x2), none, some (.long v6), none, some (.int v8)]) dX11_thousandths_30 (by decide) rfl rfl ?_
    refine gb_ldc2 (v := (10 : Int64)) dX11_thousandths_32 kX11_341 ?_
    refine gb_lload dX11_thousandths_35 rfl ?_
    refine gb_lmul dX11_thousandths_37 ?_
    refine gb_lload dX11_thousandths_38 rfl ?_
    refine gb_lload_n dX11_thousandths_40 rfl rfl ?_
    obtain ⟨g3, hF⟩ := gb_gdE hF
    refine gb_ldiv dX11_thousandths_41 (gb_nzLE g3) ?_
    refine gb_ladd dX11_thousandths_42 ?_
    obtain ⟨x4, ex4, hF⟩ := gb_ltE hF
    refine gb_topJ ex4 ?_
    refine gb_lstore (L' := [none, none, some (.long v2), none, some (.long x2), none, some (.long x4), none, some (.int v8)]) dX11_thousandths_43 (by decide) rfl rfl ?_
    refine gb_lload dX11_thousandths_45 rfl ?_
    refine gb_lload_n dX11_thousandths_47 rfl rfl ?_
    obtain ⟨g5, hF⟩ := gb_gdE hF
    refine gb_lrem dX11_thousandths_48 (gb_nzLE g5) ?_
    obtain ⟨x6, ex6, hF⟩ := gb_ltE hF
    refine gb_topJ ex6 ?_
    refine gb_lstore (L' := [none, none, some (.long v2), none, some (.long x6), none, some (.long x4), none, some (.int v8)]) dX11_thousandths_49 (by decide) rfl rfl ?_
    obtain ⟨x7, ex7, hF⟩ := gb_ltE hF
    refine gb_iinc (v := x7) (L' := [none, none, some (.long v2), none, some (.long x6), none, some (.long x4), none, some (.int x7)]) dX11_thousandths_51 rfl (by rw [ex7]; rfl) (by decide) rfl rfl ?_
    refine gb_goto (tgt := 18) dX11_thousandths_54 (by decide) ?_
    exact gb_wk (hk18 v2 x6 x4 x7 h r hF) (And.intro rfl (And.intro rfl (And.intro rfl (And.intro rfl trivial))))
def lpX11_thousandths_18 (n : Nat) (v2 : Int64) (v4 : Int64) (v6 : Int64) (v8 : Int32) (h : gb_H) : Option (Int32 × gb_H) := gb_lp (σ := Int64 × Int64 × Int64 × Int32 × gb_H) (fun k s => fbX11_thousandths_18 (fun v2 v4 v6 v8 h => k (v2, v4, v6, v8, h)) s.1 s.2.1 s.2.2.1 s.2.2.2.1 s.2.2.2.2) n (v2, v4, v6, v8, h)
theorem lpX11_thousandths_18_ok {X : gb_X}  (n : Nat) (v2 : Int64) (v4 : Int64) (v6 : Int64) (v8 : Int32) (h : gb_H) (r : Int32 × gb_H) (hF : lpX11_thousandths_18 n v2 v4 v6 v8 h = some r) : gb_Ev X 1 mX11_thousandths 18 [none, none, some (.long v2), none, some (.long v4), none, some (.long v6), none, some (.int v8)] [] h (gb_wI r) := by
  exact gb_lpE (σ := Int64 × Int64 × Int64 × Int32 × gb_H) (P := fun s r => gb_Ev X 1 mX11_thousandths 18 [none, none, some (.long s.1), none, some (.long s.2.1), none, some (.long s.2.2.1), none, some (.int s.2.2.2.1)] [] s.2.2.2.2 (gb_wI r)) (fun k hk s r hs => fbX11_thousandths_18_ok (fun v2 v4 v6 v8 h r e => hk (v2, v4, v6, v8, h) r e) _ _ _ _ _ r hs) n (v2, v4, v6, v8, h) r hF
def fnX11_thousandths (p0 : Int64) (p1 : Int64) (h : gb_H) : Option (Int32 × gb_H) :=
  gb_gd (gb_nzL p1) <|
  gb_lt (p0 / p1) fun x2 =>
  gb_gd (gb_nzL p1) <|
  gb_lt (p0 - p0 / p1 * p1) fun x4 =>
  lpX11_thousandths_18 gb_FU p1 x4 x2 (0 : Int32) h
theorem fnX11_thousandths_ok {X : gb_X}  {p0 : Int64} {p1 : Int64} (h : gb_H) (r : Int32 × gb_H) (hF : fnX11_thousandths p0 p1 h = some r) : gb_Ev X 1 mX11_thousandths 0 (gb_L0 [.long p0, .long p1]) [] h (gb_wI r) := by
  unfold fnX11_thousandths at hF
  refine gb_weak (L' := [some (.long p0), none, some (.long p1), none, none, none, none, none, none]) (And.intro rfl (And.intro rfl trivial)) ?_
  refine gb_lload_n dX11_thousandths_0 rfl rfl ?_
  refine gb_lstore (L' := [some (.long p0), none, some (.long p1), none, some (.long p0), none, none, none, none]) dX11_thousandths_1 (by decide) rfl rfl ?_
  refine gb_lload dX11_thousandths_3 rfl ?_
  refine gb_lload_n dX11_thousandths_5 rfl rfl ?_
  obtain ⟨g1, hF⟩ := gb_gdE hF
  refine gb_ldiv dX11_thousandths_6 (gb_nzLE g1) ?_
  obtain ⟨x2, ex2, hF⟩ := gb_ltE hF
  refine gb_topJ ex2 ?_
  refine gb_lstore (L' := [some (.long p0), none, some (.long p1), none, some (.long p0), none, some (.long x2), none, none]) dX11_thousandths_7 (by decide) rfl rfl ?_
  refine gb_lload dX11_thousandths_9 rfl ?_
  refine gb_lload_n dX11_thousandths_11 rfl rfl ?_
  obtain ⟨g3, hF⟩ := gb_gdE hF
  refine gb_lrem dX11_thousandths_12 (gb_nzLE g3) ?_
  obtain ⟨x4, ex4, hF⟩ := gb_ltE hF
  refine gb_topJ ex4 ?_
  refine gb_lstore (L' := [some (.long p0), none, some (.long p1), none, some (.long x4), none, some (.long x2), none, none]) dX11_thousandths_13 (by decide) rfl rfl ?_
  refine gb_iconst (v := (0 : Int32)) dX11_thousandths_15 (by decide) ?_
  refine gb_istore (L' := [some (.long p0), none, some (.long p1), none, some (.long x4), none, some (.long x2), none, some (.int (0 : Int32))]) dX11_thousandths_16 (by decide) rfl rfl ?_
  exact gb_wk (lpX11_thousandths_18_ok gb_FU p1 x4 x2 (0 : Int32) h r hF) (And.intro rfl (And.intro rfl (And.intro rfl (And.intro rfl trivial))))
def fbX11_misfit_28 (h : gb_H) : Option (Int32 × gb_H) :=
  some ((-1 : Int32), h)
theorem fbX11_misfit_28_ok {X : gb_X} (h : gb_H) (r : Int32 × gb_H) (hF : fbX11_misfit_28 h = some r) : gb_Ev X 8 mX11_misfit 28 [none, none, none, none, none, none, none, none, none, none, none, none, none, none, none] [] h (gb_wI r) := by
  unfold fbX11_misfit_28 at hF
  refine gb_iconst (v := (-1 : Int32)) dX11_misfit_28 (by decide) ?_
  cases hF
  exact gb_iret dX11_misfit_29 rfl
def fbX11_misfit_186 (k50 : Nat → Int32 → Int32 → Int32 → Int32 → Int32 → gb_H → Option (Int32 × gb_H)) (v0 : Nat) (v1 : Int32) (v2 : Int32) (v3 : Int32) (v5 : Int32) (s0 : Int32) (s1 : Int32) (h : gb_H) : Option (Int32 × gb_H) :=
  gb_lt (s0 + s1) fun x1 =>
  gb_lt (v5 + (1 : Int32)) fun x2 =>
  k50 v0 v1 v2 v3 x1 x2 h
theorem fbX11_misfit_186_ok {X : gb_X} {k50 : Nat → Int32 → Int32 → Int32 → Int32 → Int32 → gb_H → Option (Int32 × gb_H)} (hk50 : ∀ v0 v1 v2 v3 v4 v5 h r, k50 v0 v1 v2 v3 v4 v5 h = some r → gb_Ev X 8 mX11_misfit 50 [some (.ref v0), some (.int v1), some (.int v2), some (.int v3), some (.int v4), some (.int v5), none, none, none, none, none, none, none, none, none] [] h (gb_wI r)) (v0 : Nat) (v1 : Int32) (v2 : Int32) (v3 : Int32) (v5 : Int32) (s0 : Int32) (s1 : Int32) (h : gb_H) (r : Int32 × gb_H) (hF : fbX11_misfit_186 k50 v0 v1 v2 v3 v5 s0 s1 h = some r) : gb_Ev X 8 mX11_misfit 186 [some (.ref v0), some (.int v1), some (.int v2), some (.int v3), none, some (.int v5), none, none, none, none, none, none, none, none, none] [.int s1, .int s0] h (gb_wI r) := by
  unfold fbX11_misfit_186 at hF
  refine gb_iadd dX11_misfit_186 ?_
  obtain ⟨x1, ex1, hF⟩ := gb_ltE hF
  refine gb_topI ex1 ?_
  refine gb_istore (L' := [some (.ref v0), some (.int v1), some (.int v2), some (.int v3), some (.int x1), some (.int v5), none, none, none, none, none, none, none, none, none]) dX11_misfit_187 (by decide) rfl rfl ?_
  obtain ⟨x2, ex2, hF⟩ := gb_ltE hF
  refine gb_iinc (v := x2) (L' := [some (.ref v0), some (.int v1), some (.int v2), some (.int v3), some (.int x1), some (.int x2), none, none, none, none, none, none, none, none, none]) dX11_misfit_189 rfl (by rw [ex2]; rfl) (by decide) rfl rfl ?_
  refine gb_goto (tgt := 50) dX11_misfit_192 (by decide) ?_
  exact gb_wk (hk50 v0 v1 v2 v3 x1 x2 h r hF) (And.intro rfl (And.intro rfl (And.intro rfl (And.intro rfl (And.intro rfl (And.intro rfl trivial))))))
def fbX11_misfit_50 (k50 : Nat → Int32 → Int32 → Int32 → Int32 → Int32 → gb_H → Option (Int32 × gb_H)) (v0 : Nat) (v1 : Int32) (v2 : Int32) (v3 : Int32) (v4 : Int32) (v5 : Int32) (h : gb_H) : Option (Int32 × gb_H) :=
  if (32 : Int32) ≤ v5 then
    some (v4, h)
  else
    gb_gd (gb_k h v0 11) <|
    gb_bd (fnX11_clicksOf v0 v5 h) fun _ h4 =>
    gb_gd (gb_k h4 v0 11) <|
    gb_gd (gb_k h4 v0 11) <|
    gb_gd (gb_k h4 v0 11) <|
    gb_bd (fnX11_tells (gb_L h4 v0 34) (gb_L h4 v0 35) (gb_L h4 v0 36) (0 : Int32) h4) fun x8 h9 =>
    gb_gd (gb_k h9 v0 11) <|
    gb_gd (gb_k h9 v0 11) <|
    gb_gd (gb_k h9 v0 11) <|
    gb_bd (fnX11_tells (gb_L h9 v0 34) (gb_L h9 v0 35) (gb_L h9 v0 36) (1 : Int32) h9) fun x13 h14 =>
    gb_gd (gb_k h14 v0 11) <|
    gb_gd (gb_k h14 v0 11) <|
    gb_gd (gb_k h14 v0 11) <|
    gb_bd (fnX11_tells (gb_L h14 v0 34) (gb_L h14 v0 35) (gb_L h14 v0 36) (2 : Int32) h14) fun x18 h19 =>
    gb_gd (gb_nzL (1000 : Int64)) <|
    gb_gd (gb_nzL (1000 : Int64)) <|
    gb_gd (gb_nzL (1000 : Int64)) <|
    gb_lt ((x8 + ((x13 / (1000 : Int64)) * (1414 : Int64))) + (((x13 - x13 / (1000 : Int64) * (1000 : Int64)) * (1414 : Int64)) / (1000 : Int64))) fun x23 =>
    gb_gd (gb_k h19 v0 11) <|
    gb_bd (fnX11_countedOf v0 v1 v5 v2 h19) fun x25 h26 =>
    gb_gd (gb_nz v3) <|
    gb_bd (fnX11_thousandths x23 x18 h26) fun x28 h29 =>
    gb_lt ((((1000 : Int32) * x25) / v3) - x28) fun x30 =>
    if 0 ≤ x30 then
      fbX11_misfit_186 k50 v0 v1 v2 v3 v5 v4 x30 h29
    else
      fbX11_misfit_186 k50 v0 v1 v2 v3 v5 v4 (-x30) h29
theorem fbX11_misfit_50_ok {X : gb_X} {k50 : Nat → Int32 → Int32 → Int32 → Int32 → Int32 → gb_H → Option (Int32 × gb_H)} (hk50 : ∀ v0 v1 v2 v3 v4 v5 h r, k50 v0 v1 v2 v3 v4 v5 h = some r → gb_Ev X 8 mX11_misfit 50 [some (.ref v0), some (.int v1), some (.int v2), some (.int v3), some (.int v4), some (.int v5), none, none, none, none, none, none, none, none, none] [] h (gb_wI r)) (v0 : Nat) (v1 : Int32) (v2 : Int32) (v3 : Int32) (v4 : Int32) (v5 : Int32) (h : gb_H) (r : Int32 × gb_H) (hF : fbX11_misfit_50 k50 v0 v1 v2 v3 v4 v5 h = some r) : gb_Ev X 8 mX11_misfit 50 [some (.ref v0), some (.int v1), some (.int v2), some (.int v3), some (.int v4), some (.int v5), none, none, none, none, none, none, none, none, none] [] h (gb_wI r) := by
  unfold fbX11_misfit_50 at hF
  refine gb_iload dX11_misfit_50 rfl ?_
  refine gb_bipush (v := (32 : Int32)) dX11_misfit_52 (by decide) ?_
  refine gb_icmp_ge (tgt := 195) dX11_misfit_54 (by decide) (fun c1 => ?_) (fun c1 => ?_)
  · replace hF := gb_ifT c1 hF
    refine gb_iload dX11_misfit_195 rfl ?_
    cases hF
    exact gb_iret dX11_misfit_197 rfl
  · replace hF := gb_ifF c1 hF
    refine gb_aload_n dX11_misfit_57 rfl rfl ?_
    refine gb_iload dX11_misfit_58 rfl ?_
    obtain ⟨g2, hF⟩ := gb_gdE hF
    obtain ⟨x3, h4, cx3, hF⟩ := gb_bdE hF
    refine gb_cV (As := [.int v5]) (S := []) (v := none) (h1 := h4) (S2 := []) cf11 dX11_misfit_60 mtX11_clicksOf lX11_343 inX11_clicksOf seX11_clicksOf (gb_kE g2) (fnX11_clicksOf_ok _ _ cx3) (by decide) rfl (Nat.le_of_ble_eq_true rfl) (Nat.le_of_ble_eq_true rfl) rfl rfl ?_
    refine gb_aload_n dX11_misfit_63 rfl rfl ?_
    obtain ⟨g5, hF⟩ := gb_gdE hF
    refine gb_getL fX11_330 dX11_misfit_64 (gb_kE g5) ?_
    refine gb_aload_n dX11_misfit_67 rfl rfl ?_
    obtain ⟨g6, hF⟩ := gb_gdE hF
    refine gb_getL fX11_333 dX11_misfit_68 (gb_kE g6) ?_
    refine gb_aload_n dX11_misfit_71 rfl rfl ?_
    obtain ⟨g7, hF⟩ := gb_gdE hF
    refine gb_getL fX11_338 dX11_misfit_72 (gb_kE g7) ?_
    refine gb_iconst (v := (0 : Int32)) dX11_misfit_75 (by decide) ?_
    obtain ⟨x8, h9, cx8, hF⟩ := gb_bdE hF
    refine gb_cS (As := [.long (gb_L h4 v0 34), .long (gb_L h4 v0 35), .long (gb_L h4 v0 36), .int (0 : Int32)]) (S := []) (v := some (.long x8)) (h1 := h9) (S2 := [.long x8]) dX11_misfit_76 mtX11_tells lX11_326 stX11_tells (fnX11_tells_ok _ _ cx8) (by decide) rfl (Nat.le_of_ble_eq_true rfl) (Nat.le_of_ble_eq_true rfl) rfl rfl ?_
    refine gb_lstore (L' := [some (.ref v0), some (.int v1), some (.int v2), some (.int v3), some (.int v4), some (.int v5), some (.long x8), none, none, none, none, none, none, none, none]) dX11_misfit_79 (by decide) rfl rfl ?_
    refine gb_aload_n dX11_misfit_81 rfl rfl ?_
    obtain ⟨g10, hF⟩ := gb_gdE hF
    refine gb_getL fX11_330 dX11_misfit_82 (gb_kE g10) ?_
    refine gb_aload_n dX11_misfit_85 rfl rfl ?_
    obtain ⟨g11, hF⟩ := gb_gdE hF
    refine gb_getL fX11_333 dX11_misfit_86 (gb_kE g11) ?_
    refine gb_aload_n dX11_misfit_89 rfl rfl ?_
    obtain ⟨g12, hF⟩ := gb_gdE hF
    refine gb_getL fX11_338 dX11_misfit_90 (gb_kE g12) ?_
    refine gb_iconst (v := (1 : Int32)) dX11_misfit_93 (by decide) ?_
    obtain ⟨x13, h14, cx13, hF⟩ := gb_bdE hF
    refine gb_cS (As := [.long (gb_L h9 v0 34), .long (gb_L h9 v0 35), .long (gb_L h9 v0 36), .int (1 : Int32)]) (S := []) (v := some (.long x13)) (h1 := h14) (S2 := [.long x13]) dX11_misfit_94 mtX11_tells lX11_326 stX11_tells (fnX11_tells_ok _ _ cx13) (by decide) rfl (Nat.le_of_ble_eq_true rfl) (Nat.le_of_ble_eq_true rfl) rfl rfl ?_
    refine gb_lstore (L' := [some (.ref v0), some (.int v1), some (.int v2), some (.int v3), some (.int v4), some (.int v5), some (.long x8), none, some (.long x13), none, none, none, none, none, none]) dX11_misfit_97 (by decide) rfl rfl ?_
    refine gb_aload_n dX11_misfit_99 rfl rfl ?_
    obtain ⟨g15, hF⟩ := gb_gdE hF
    refine gb_getL fX11_330 dX11_misfit_100 (gb_kE g15) ?_
    refine gb_aload_n dX11_misfit_103 rfl rfl ?_
    obtain ⟨g16, hF⟩ := gb_gdE hF
    refine gb_getL fX11_333 dX11_misfit_104 (gb_kE g16) ?_
    refine gb_aload_n dX11_misfit_107 rfl rfl ?_
    obtain ⟨g17, hF⟩ := gb_gdE hF
    refine gb_getL fX11_338 dX11_misfit_108 (gb_kE g17) ?_
    refine gb_iconst (v := (2 : Int32)) dX11_misfit_111 (by decide) ?_
    obtain ⟨x18, h19, cx18, hF⟩ := gb_bdE hF
    refine gb_cS (As := [.long (gb_L h14 v0 34), .long (gb_L h14 v0 35), .long (gb_L h14 v0 36), .int (2 : Int32)]) (S := []) (v := some (.long x18)) (h1 := h19) (S2 := [.long x18]) dX11_misfit_112 mtX11_tells lX11_326 stX11_tells (fnX11_tells_ok _ _ cx18) (by decide) rfl (Nat.le_of_ble_eq_true rfl) (Nat.le_of_ble_eq_true rfl) rfl rfl ?_
    refine gb_lstore (L' := [some (.ref v0), some (.int v1), some (.int v2), some (.int v3), some (.int v4), some (.int v5), some (.long x8), none, some (.long x13), none, some (.long x18), none, none, none, none]) dX11_misfit_115 (by decide) rfl rfl ?_
    refine gb_lload dX11_misfit_117 rfl ?_
    refine gb_lload dX11_misfit_119 rfl ?_
    refine gb_ldc2 (v := (1000 : Int64)) dX11_misfit_121 kX11_351 ?_
    obtain ⟨g20, hF⟩ := gb_gdE hF
    refine gb_ldiv dX11_misfit_124 (gb_nzLE g20) ?_
    refine gb_ldc2 (v := (1414 : Int64)) dX11_misfit_125 kX11_353 ?_
    refine gb_lmul dX11_misfit_128 ?_
    refine gb_ladd dX11_misfit_129 ?_
    refine gb_lload dX11_misfit_130 rfl ?_
    refine gb_ldc2 (v := (1000 : Int64)) dX11_misfit_132 kX11_351 ?_
    obtain ⟨g21, hF⟩ := gb_gdE hF
    refine gb_lrem dX11_misfit_135 (gb_nzLE g21) ?_
    refine gb_ldc2 (v := (1414 : Int64)) dX11_misfit_136 kX11_353 ?_
    refine gb_lmul dX11_misfit_139 ?_
    refine gb_ldc2 (v := (1000 : Int64)) dX11_misfit_140 kX11_351 ?_
    obtain ⟨g22, hF⟩ := gb_gdE hF
    refine gb_ldiv dX11_misfit_143 (gb_nzLE g22) ?_
    refine gb_ladd dX11_misfit_144 ?_
    obtain ⟨x23, ex23, hF⟩ := gb_ltE hF
    refine gb_topJ ex23 ?_
    refine gb_lstore (L' := [some (.ref v0), some (.int v1), some (.int v2), some (.int v3), some (.int v4), some (.int v5), some (.long x8), none, some (.long x13), none, some (.long x18), none, some (.long x23), none, none]) dX11_misfit_145 (by decide) rfl rfl ?_
    refine gb_sipush (v := (1000 : Int32)) dX11_misfit_147 (by decide) ?_
    refine gb_aload_n dX11_misfit_150 rfl rfl ?_
    refine gb_iload_n dX11_misfit_151 rfl rfl ?_
    refine gb_iload dX11_misfit_152 rfl ?_
    refine gb_iload_n dX11_misfit_154 rfl rfl ?_
    obtain ⟨g24, hF⟩ := gb_gdE hF
    obtain ⟨x25, h26, cx25, hF⟩ := gb_bdE hF
    refine gb_cV (As := [.int v1, .int v5, .int v2]) (S := [.int (1000 : Int32)]) (v := some (.int x25)) (h1 := h26) (S2 := [.int x25, .int (1000 : Int32)]) cf11 dX11_misfit_155 mtX11_countedOf lX11_348 inX11_countedOf seX11_countedOf (gb_kE g24) (fnX11_countedOf_ok _ _ cx25) (by decide) rfl (Nat.le_of_ble_eq_true rfl) (Nat.le_of_ble_eq_true rfl) rfl rfl ?_
    refine gb_imul dX11_misfit_158 ?_
    refine gb_iload_n dX11_misfit_159 rfl rfl ?_
    obtain ⟨g27, hF⟩ := gb_gdE hF
    refine gb_idiv dX11_misfit_160 (gb_nzE g27) ?_
    refine gb_lload dX11_misfit_161 rfl ?_
    refine gb_lload dX11_misfit_163 rfl ?_
    obtain ⟨x28, h29, cx28, hF⟩ := gb_bdE hF
    refine gb_cS (As := [.long x23, .long x18]) (S := [.int (((1000 : Int32) * x25) / v3)]) (v := some (.int x28)) (h1 := h29) (S2 := [.int x28, .int (((1000 : Int32) * x25) / v3)]) dX11_misfit_165 mtX11_thousandths lX11_355 stX11_thousandths (fnX11_thousandths_ok _ _ cx28) (by decide) rfl (Nat.le_of_ble_eq_true rfl) (Nat.le_of_ble_eq_true rfl) rfl rfl ?_
    refine gb_isub dX11_misfit_168 ?_
    obtain ⟨x30, ex30, hF⟩ := gb_ltE hF
    refine gb_topI ex30 ?_
    refine gb_istore (L' := [some (.ref v0), some (.int v1), some (.int v2), some (.int v3), some (.int v4), some (.int v5), some (.long x8), none, some (.long x13), none, some (.long x18), none, some (.long x23), none, some (.int x30)]) dX11_misfit_169 (by decide) rfl rfl ?_
    refine gb_iload dX11_misfit_171 rfl ?_
    refine gb_iload dX11_misfit_173 rfl ?_
    refine gb_if_ge (tgt := 184) dX11_misfit_175 (by decide) (fun c31 => ?_) (fun c31 => ?_)
    · replace hF := gb_ifT c31 hF
      refine gb_iload dX11_misfit_184 rfl ?_
      exact gb_wk (fbX11_misfit_186_ok hk50 v0 v1 v2 v3 v5 v4 x30 h29 r hF) (And.intro rfl (And.intro rfl (And.intro rfl (And.intro rfl (And.intro rfl trivial)))))
    · replace hF := gb_ifF c31 hF
      refine gb_iload dX11_misfit_178 rfl ?_
      refine gb_ineg dX11_misfit_180 ?_
      refine gb_goto (tgt := 186) dX11_misfit_181 (by decide) ?_
      exact gb_wk (fbX11_misfit_186_ok hk50 v0 v1 v2 v3 v5 v4 (-x30) h29 r hF) (And.intro rfl (And.intro rfl (And.intro rfl (And.intro rfl (And.intro rfl trivial)))))
def lpX11_misfit_50 (n : Nat) (v0 : Nat) (v1 : Int32) (v2 : Int32) (v3 : Int32) (v4 : Int32) (v5 : Int32) (h : gb_H) : Option (Int32 × gb_H) := gb_lp (σ := Nat × Int32 × Int32 × Int32 × Int32 × Int32 × gb_H) (fun k s => fbX11_misfit_50 (fun v0 v1 v2 v3 v4 v5 h => k (v0, v1, v2, v3, v4, v5, h)) s.1 s.2.1 s.2.2.1 s.2.2.2.1 s.2.2.2.2.1 s.2.2.2.2.2.1 s.2.2.2.2.2.2) n (v0, v1, v2, v3, v4, v5, h)
theorem lpX11_misfit_50_ok {X : gb_X}  (n : Nat) (v0 : Nat) (v1 : Int32) (v2 : Int32) (v3 : Int32) (v4 : Int32) (v5 : Int32) (h : gb_H) (r : Int32 × gb_H) (hF : lpX11_misfit_50 n v0 v1 v2 v3 v4 v5 h = some r) : gb_Ev X 8 mX11_misfit 50 [some (.ref v0), some (.int v1), some (.int v2), some (.int v3), some (.int v4), some (.int v5), none, none, none, none, none, none, none, none, none] [] h (gb_wI r) := by
  exact gb_lpE (σ := Nat × Int32 × Int32 × Int32 × Int32 × Int32 × gb_H) (P := fun s r => gb_Ev X 8 mX11_misfit 50 [some (.ref s.1), some (.int s.2.1), some (.int s.2.2.1), some (.int s.2.2.2.1), some (.int s.2.2.2.2.1), some (.int s.2.2.2.2.2.1), none, none, none, none, none, none, none, none, none] [] s.2.2.2.2.2.2 (gb_wI r)) (fun k hk s r hs => fbX11_misfit_50_ok (fun v0 v1 v2 v3 v4 v5 h r e => hk (v0, v1, v2, v3, v4, v5, h) r e) _ _ _ _ _ _ _ r hs) n (v0, v1, v2, v3, v4, v5, h) r hF
def fnX11_misfit (p0 : Nat) (p1 : Int32) (p2 : Int32) (h : gb_H) : Option (Int32 × gb_H) :=
  gb_bd (fnX11_in p1 (0 : Int32) (3 : Int32) h) fun x1 h2 =>
  if x1 = 0 then
    fbX11_misfit_28 h2
  else
    gb_bd (fnX11_in p2 (0 : Int32) (999 : Int32) h2) fun x4 h5 =>
    if x4 = 0 then
      fbX11_misfit_28 h5
    else
      gb_gd (gb_k h5 p0 11) <|
      gb_bd (fnX11_laysBench p0 p1 h5) fun x8 h9 =>
      if x8 = 0 then
        fbX11_misfit_28 h9
      else
        gb_gd (gb_k h9 p0 11) <|
        gb_bd (fnX11_countedOf p0 p1 (-1 : Int32) p2 h9) fun x12 h13 =>
        if x12 = 0 then
          some ((-1 : Int32), h13)
        else
          lpX11_misfit_50 gb_FU p0 p1 p2 x12 (0 : Int32) (0 : Int32) h13
theorem fnX11_misfit_ok {X : gb_X}  {p0 : Nat} {p1 : Int32} {p2 : Int32} (h : gb_H) (r : Int32 × gb_H) (hF : fnX11_misfit p0 p1 p2 h = some r) : gb_Ev X 8 mX11_misfit 0 (gb_L0 [.ref p0, .int p1, .int p2]) [] h (gb_wI r) := by
  unfold fnX11_misfit at hF
  refine gb_weak (L' := [some (.ref p0), some (.int p1), some (.int p2), none, none, none, none, none, none, none, none, none, none, none, none]) (And.intro rfl (And.intro rfl (And.intro rfl trivial))) ?_
  refine gb_iload_n dX11_misfit_0 rfl rfl ?_
  refine gb_iconst (v := (0 : Int32)) dX11_misfit_1 (by decide) ?_
  refine gb_iconst (v := (3 : Int32)) dX11_misfit_2 (by decide) ?_
  obtain ⟨x1, h2, cx1, hF⟩ := gb_bdE hF
  refine gb_cS (As := [.int p1, .int (0 : Int32), .int (3 : Int32)]) (S := []) (v := some (.int x1)) (h1 := h2) (S2 := [.int x1]) dX11_misfit_3 mtX11_in lX11_104 stX11_in (fnX11_in_ok _ _ cx1) (by decide) rfl (Nat.le_of_ble_eq_true rfl) (Nat.le_of_ble_eq_true rfl) rfl rfl ?_
  refine gb_if_eq (tgt := 28) dX11_misfit_6 (by decide) (fun c3 => ?_) (fun c3 => ?_)
  · replace hF := gb_ifT c3 hF
    exact gb_wk (fbX11_misfit_28_ok h2 r hF) trivial
  · replace hF := gb_ifF c3 hF
    refine gb_iload_n dX11_misfit_9 rfl rfl ?_
    refine gb_iconst (v := (0 : Int32)) dX11_misfit_10 (by decide) ?_
    refine gb_sipush (v := (999 : Int32)) dX11_misfit_11 (by decide) ?_
    obtain ⟨x4, h5, cx4, hF⟩ := gb_bdE hF
    refine gb_cS (As := [.int p2, .int (0 : Int32), .int (999 : Int32)]) (S := []) (v := some (.int x4)) (h1 := h5) (S2 := [.int x4]) dX11_misfit_14 mtX11_in lX11_104 stX11_in (fnX11_in_ok _ _ cx4) (by decide) rfl (Nat.le_of_ble_eq_true rfl) (Nat.le_of_ble_eq_true rfl) rfl rfl ?_
    refine gb_if_eq (tgt := 28) dX11_misfit_17 (by decide) (fun c6 => ?_) (fun c6 => ?_)
    · replace hF := gb_ifT c6 hF
      exact gb_wk (fbX11_misfit_28_ok h5 r hF) trivial
    · replace hF := gb_ifF c6 hF
      refine gb_aload_n dX11_misfit_20 rfl rfl ?_
      refine gb_iload_n dX11_misfit_21 rfl rfl ?_
      obtain ⟨g7, hF⟩ := gb_gdE hF
      obtain ⟨x8, h9, cx8, hF⟩ := gb_bdE hF
      refine gb_cV (As := [.int p1]) (S := []) (v := some (.int x8)) (h1 := h9) (S2 := [.int x8]) cf11 dX11_misfit_22 mtX11_laysBench lX11_319 inX11_laysBench seX11_laysBench (gb_kE g7) (fnX11_laysBench_ok _ _ cx8) (by decide) rfl (Nat.le_of_ble_eq_true rfl) (Nat.le_of_ble_eq_true rfl) rfl rfl ?_
      refine gb_if_ne (tgt := 30) dX11_misfit_25 (by decide) (fun c10 => ?_) (fun c10 => ?_)
      · replace hF := gb_ifF c10 hF
        refine gb_aload_n dX11_misfit_30 rfl rfl ?_
        refine gb_iload_n dX11_misfit_31 rfl rfl ?_
        refine gb_iconst (v := (-1 : Int32)) dX11_misfit_32 (by decide) ?_
        refine gb_iload_n dX11_misfit_33 rfl rfl ?_
        obtain ⟨g11, hF⟩ := gb_gdE hF
        obtain ⟨x12, h13, cx12, hF⟩ := gb_bdE hF
        refine gb_cV (As := [.int p1, .int (-1 : Int32), .int p2]) (S := []) (v := some (.int x12)) (h1 := h13) (S2 := [.int x12]) cf11 dX11_misfit_34 mtX11_countedOf lX11_348 inX11_countedOf seX11_countedOf (gb_kE g11) (fnX11_countedOf_ok _ _ cx12) (by decide) rfl (Nat.le_of_ble_eq_true rfl) (Nat.le_of_ble_eq_true rfl) rfl rfl ?_
        refine gb_istore_n (L' := [some (.ref p0), some (.int p1), some (.int p2), some (.int x12), none, none, none, none, none, none, none, none, none, none, none]) dX11_misfit_37 rfl (by decide) rfl rfl ?_
        refine gb_iload_n dX11_misfit_38 rfl rfl ?_
        refine gb_if_ne (tgt := 44) dX11_misfit_39 (by decide) (fun c14 => ?_) (fun c14 => ?_)
        · replace hF := gb_ifF c14 hF
          refine gb_iconst (v := (0 : Int32)) dX11_misfit_44 (by decide) ?_
          refine gb_istore (L' := [some (.ref p0), some (.int p1), some (.int p2), some (.int x12), some (.int (0 : Int32)), none, none, none, none, none, none, none, none, none, none]) dX11_misfit_45 (by decide) rfl rfl ?_
          refine gb_iconst (v := (0 : Int32)) dX11_misfit_47 (by decide) ?_
          refine gb_istore (L' := [some (.ref p0), some (.int p1), some (.int p2), some (.int x12), some (.int (0 : Int32)), some (.int (0 : Int32)), none, none, none, none, none, none, none, none, none]) dX11_misfit_48 (by decide) rfl rfl ?_
          exact gb_wk (lpX11_misfit_50_ok gb_FU p0 p1 p2 x12 (0 : Int32) (0 : Int32) h13 r hF) (And.intro rfl (And.intro rfl (And.intro rfl (And.intro rfl (And.intro rfl (And.intro rfl trivial))))))
        · replace hF := gb_ifT c14 hF
          refine gb_iconst (v := (-1 : Int32)) dX11_misfit_42 (by decide) ?_
          cases hF
          exact gb_iret dX11_misfit_43 rfl
      · replace hF := gb_ifT c10 hF
        exact gb_wk (fbX11_misfit_28_ok h9 r hF) trivial
def fbX11_fits_41 (k4 : Nat → Int32 → Int32 → Int32 → gb_H → Option (Int32 × gb_H)) (v0 : Nat) (v1 : Int32) (v2 : Int32) (v3 : Int32) (h : gb_H) : Option (Int32 × gb_H) :=
  gb_lt (v3 + (1 : Int32)) fun x1 =>
  k4 v0 v1 v2 x1 h
theorem fbX11_fits_41_ok {X : gb_X} {k4 : Nat → Int32 → Int32 → Int32 → gb_H → Option (Int32 × gb_H)} (hk4 : ∀ v0 v1 v2 v3 h r, k4 v0 v1 v2 v3 h = some r → gb_Ev X 9 mX11_fits 4 [some (.ref v0), some (.int v1), some (.int v2), some (.int v3)] [] h (gb_wI r)) (v0 : Nat) (v1 : Int32) (v2 : Int32) (v3 : Int32) (h : gb_H) (r : Int32 × gb_H) (hF : fbX11_fits_41 k4 v0 v1 v2 v3 h = some r) : gb_Ev X 9 mX11_fits 41 [some (.ref v0), some (.int v1), some (.int v2), some (.int v3)] [] h (gb_wI r) := by
  unfold fbX11_fits_41 at hF
  obtain ⟨x1, ex1, hF⟩ := gb_ltE hF
  refine gb_iinc (v := x1) (L' := [some (.ref v0), some (.int v1), some (.int v2), some (.int x1)]) dX11_fits_41 rfl (by rw [ex1]; rfl) (by decide) rfl rfl ?_
  refine gb_goto (tgt := 4) dX11_fits_44 (by decide) ?_
  exact gb_wk (hk4 v0 v1 v2 x1 h r hF) (And.intro rfl (And.intro rfl (And.intro rfl (And.intro rfl trivial))))
def fbX11_fits_39 (k4 : Nat → Int32 → Int32 → Int32 → gb_H → Option (Int32 × gb_H)) (v0 : Nat) (v1 : Int32) (v3 : Int32) (h : gb_H) : Option (Int32 × gb_H) :=
  fbX11_fits_41 k4 v0 v1 v3 v3 h
theorem fbX11_fits_39_ok {X : gb_X} {k4 : Nat → Int32 → Int32 → Int32 → gb_H → Option (Int32 × gb_H)} (hk4 : ∀ v0 v1 v2 v3 h r, k4 v0 v1 v2 v3 h = some r → gb_Ev X 9 mX11_fits 4 [some (.ref v0), some (.int v1), some (.int v2), some (.int v3)] [] h (gb_wI r)) (v0 : Nat) (v1 : Int32) (v3 : Int32) (h : gb_H) (r : Int32 × gb_H) (hF : fbX11_fits_39 k4 v0 v1 v3 h = some r) : gb_Ev X 9 mX11_fits 39 [some (.ref v0), some (.int v1), none, some (.int v3)] [] h (gb_wI r) := by
  unfold fbX11_fits_39 at hF
  refine gb_iload_n dX11_fits_39 rfl rfl ?_
  refine gb_istore_n (L' := [some (.ref v0), some (.int v1), some (.int v3), some (.int v3)]) dX11_fits_40 rfl (by decide) rfl rfl ?_
  exact gb_wk (fbX11_fits_41_ok hk4 v0 v1 v3 v3 h r hF) (And.intro rfl (And.intro rfl (And.intro rfl (And.intro rfl trivial))))
def fbX11_fits_4 (k4 : Nat → Int32 → Int32 → Int32 → gb_H → Option (Int32 × gb_H)) (v0 : Nat) (v1 : Int32) (v2 : Int32) (v3 : Int32) (h : gb_H) : Option (Int32 × gb_H) :=
  if (4 : Int32) ≤ v3 then
    some (v2, h)
  else
    gb_gd (gb_k h v0 11) <|
    gb_bd (fnX11_misfit v0 v3 v1 h) fun x3 h4 =>
    if x3 = (-1 : Int32) then
      fbX11_fits_41 k4 v0 v1 v2 v3 h4
    else
      if v2 = (-1 : Int32) then
        fbX11_fits_39 k4 v0 v1 v3 h4
      else
        gb_gd (gb_k h4 v0 11) <|
        gb_bd (fnX11_misfit v0 v3 v1 h4) fun x8 h9 =>
        gb_gd (gb_k h9 v0 11) <|
        gb_bd (fnX11_misfit v0 v2 v1 h9) fun x11 h12 =>
        if x11 ≤ x8 then
          fbX11_fits_41 k4 v0 v1 v2 v3 h12
        else
          fbX11_fits_39 k4 v0 v1 v3 h12
theorem fbX11_fits_4_ok {X : gb_X} {k4 : Nat → Int32 → Int32 → Int32 → gb_H → Option (Int32 × gb_H)} (hk4 : ∀ v0 v1 v2 v3 h r, k4 v0 v1 v2 v3 h = some r → gb_Ev X 9 mX11_fits 4 [some (.ref v0), some (.int v1), some (.int v2), some (.int v3)] [] h (gb_wI r)) (v0 : Nat) (v1 : Int32) (v2 : Int32) (v3 : Int32) (h : gb_H) (r : Int32 × gb_H) (hF : fbX11_fits_4 k4 v0 v1 v2 v3 h = some r) : gb_Ev X 9 mX11_fits 4 [some (.ref v0), some (.int v1), some (.int v2), some (.int v3)] [] h (gb_wI r) := by
  unfold fbX11_fits_4 at hF
  refine gb_iload_n dX11_fits_4 rfl rfl ?_
  refine gb_iconst (v := (4 : Int32)) dX11_fits_5 (by decide) ?_
  refine gb_icmp_ge (tgt := 47) dX11_fits_6 (by decide) (fun c1 => ?_) (fun c1 => ?_)
  · replace hF := gb_ifT c1 hF
    refine gb_iload_n dX11_fits_47 rfl rfl ?_
    cases hF
    exact gb_iret dX11_fits_48 rfl
  · replace hF := gb_ifF c1 hF
    refine gb_aload_n dX11_fits_9 rfl rfl ?_
    refine gb_iload_n dX11_fits_10 rfl rfl ?_
    refine gb_iload_n dX11_fits_11 rfl rfl ?_
    obtain ⟨g2, hF⟩ := gb_gdE hF
    obtain ⟨x3, h4, cx3, hF⟩ := gb_bdE hF
    refine gb_cV (As := [.int v3, .int v1]) (S := []) (v := some (.int x3)) (h1 := h4) (S2 := [.int x3]) cf11 dX11_fits_12 mtX11_misfit lX11_359 inX11_misfit seX11_misfit (gb_kE g2) (fnX11_misfit_ok _ _ cx3) (by decide) rfl (Nat.le_of_ble_eq_true rfl) (Nat.le_of_ble_eq_true rfl) rfl rfl ?_
    refine gb_iconst (v := (-1 : Int32)) dX11_fits_15 (by decide) ?_
    refine gb_icmp_eq (tgt := 41) dX11_fits_16 (by decide) (fun c5 => ?_) (fun c5 => ?_)
    · replace hF := gb_ifT c5 hF
      exact gb_wk (fbX11_fits_41_ok hk4 v0 v1 v2 v3 h4 r hF) (And.intro rfl (And.intro rfl (And.intro rfl (And.intro rfl trivial))))
    · replace hF := gb_ifF c5 hF
      refine gb_iload_n dX11_fits_19 rfl rfl ?_
      refine gb_iconst (v := (-1 : Int32)) dX11_fits_20 (by decide) ?_
      refine gb_icmp_eq (tgt := 39) dX11_fits_21 (by decide) (fun c6 => ?_) (fun c6 => ?_)
      · replace hF := gb_ifT c6 hF
        exact gb_wk (fbX11_fits_39_ok hk4 v0 v1 v3 h4 r hF) (And.intro rfl (And.intro rfl (And.intro rfl trivial)))
      · replace hF := gb_ifF c6 hF
        refine gb_aload_n dX11_fits_24 rfl rfl ?_
        refine gb_iload_n dX11_fits_25 rfl rfl ?_
        refine gb_iload_n dX11_fits_26 rfl rfl ?_
        obtain ⟨g7, hF⟩ := gb_gdE hF
        obtain ⟨x8, h9, cx8, hF⟩ := gb_bdE hF
        refine gb_cV (As := [.int v3, .int v1]) (S := []) (v := some (.int x8)) (h1 := h9) (S2 := [.int x8]) cf11 dX11_fits_27 mtX11_misfit lX11_359 inX11_misfit seX11_misfit (gb_kE g7) (fnX11_misfit_ok _ _ cx8) (by decide) rfl (Nat.le_of_ble_eq_true rfl) (Nat.le_of_ble_eq_true rfl) rfl rfl ?_
        refine gb_aload_n dX11_fits_30 rfl rfl ?_
        refine gb_iload_n dX11_fits_31 rfl rfl ?_
        refine gb_iload_n dX11_fits_32 rfl rfl ?_
        obtain ⟨g10, hF⟩ := gb_gdE hF
        obtain ⟨x11, h12, cx11, hF⟩ := gb_bdE hF
        refine gb_cV (As := [.int v2, .int v1]) (S := [.int x8]) (v := some (.int x11)) (h1 := h12) (S2 := [.int x11, .int x8]) cf11 dX11_fits_33 mtX11_misfit lX11_359 inX11_misfit seX11_misfit (gb_kE g10) (fnX11_misfit_ok _ _ cx11) (by decide) rfl (Nat.le_of_ble_eq_true rfl) (Nat.le_of_ble_eq_true rfl) rfl rfl ?_
        refine gb_icmp_ge (tgt := 41) dX11_fits_36 (by decide) (fun c13 => ?_) (fun c13 => ?_)
        · replace hF := gb_ifT c13 hF
          exact gb_wk (fbX11_fits_41_ok hk4 v0 v1 v2 v3 h12 r hF) (And.intro rfl (And.intro rfl (And.intro rfl (And.intro rfl trivial))))
        · replace hF := gb_ifF c13 hF
          exact gb_wk (fbX11_fits_39_ok hk4 v0 v1 v3 h12 r hF) (And.intro rfl (And.intro rfl (And.intro rfl trivial)))
def lpX11_fits_4 (n : Nat) (v0 : Nat) (v1 : Int32) (v2 : Int32) (v3 : Int32) (h : gb_H) : Option (Int32 × gb_H) := gb_lp (σ := Nat × Int32 × Int32 × Int32 × gb_H) (fun k s => fbX11_fits_4 (fun v0 v1 v2 v3 h => k (v0, v1, v2, v3, h)) s.1 s.2.1 s.2.2.1 s.2.2.2.1 s.2.2.2.2) n (v0, v1, v2, v3, h)
theorem lpX11_fits_4_ok {X : gb_X}  (n : Nat) (v0 : Nat) (v1 : Int32) (v2 : Int32) (v3 : Int32) (h : gb_H) (r : Int32 × gb_H) (hF : lpX11_fits_4 n v0 v1 v2 v3 h = some r) : gb_Ev X 9 mX11_fits 4 [some (.ref v0), some (.int v1), some (.int v2), some (.int v3)] [] h (gb_wI r) := by
  exact gb_lpE (σ := Nat × Int32 × Int32 × Int32 × gb_H) (P := fun s r => gb_Ev X 9 mX11_fits 4 [some (.ref s.1), some (.int s.2.1), some (.int s.2.2.1), some (.int s.2.2.2.1)] [] s.2.2.2.2 (gb_wI r)) (fun k hk s r hs => fbX11_fits_4_ok (fun v0 v1 v2 v3 h r e => hk (v0, v1, v2, v3, h) r e) _ _ _ _ _ r hs) n (v0, v1, v2, v3, h) r hF
def fnX11_fits (p0 : Nat) (p1 : Int32) (h : gb_H) : Option (Int32 × gb_H) :=
  lpX11_fits_4 gb_FU p0 p1 (-1 : Int32) (0 : Int32) h
theorem fnX11_fits_ok {X : gb_X}  {p0 : Nat} {p1 : Int32} (h : gb_H) (r : Int32 × gb_H) (hF : fnX11_fits p0 p1 h = some r) : gb_Ev X 9 mX11_fits 0 (gb_L0 [.ref p0, .int p1]) [] h (gb_wI r) := by
  unfold fnX11_fits at hF
  refine gb_weak (L' := [some (.ref p0), some (.int p1), none, none]) (And.intro rfl (And.intro rfl trivial)) ?_
  refine gb_iconst (v := (-1 : Int32)) dX11_fits_0 (by decide) ?_
  refine gb_istore_n (L' := [some (.ref p0), some (.int p1), some (.int (-1 : Int32)), none]) dX11_fits_1 rfl (by decide) rfl rfl ?_
  refine gb_iconst (v := (0 : Int32)) dX11_fits_2 (by decide) ?_
  refine gb_istore_n (L' := [some (.ref p0), some (.int p1), some (.int (-1 : Int32)), some (.int (0 : Int32))]) dX11_fits_3 rfl (by decide) rfl rfl ?_
  exact gb_wk (lpX11_fits_4_ok gb_FU p0 p1 (-1 : Int32) (0 : Int32) h r hF) (And.intro rfl (And.intro rfl (And.intro rfl (And.intro rfl trivial))))
def fbX11_pair_36 (h : gb_H) : Option (Int32 × gb_H) :=
  some ((-1 : Int32), h)
theorem fbX11_pair_36_ok {X : gb_X} (h : gb_H) (r : Int32 × gb_H) (hF : fbX11_pair_36 h = some r) : gb_Ev X 1 mX11_pair 36 [none, none, none] [] h (gb_wI r) := by
  unfold fbX11_pair_36 at hF
  refine gb_iconst (v := (-1 : Int32)) dX11_pair_36 (by decide) ?_
  cases hF
  exact gb_iret dX11_pair_37 rfl
def fbX11_pair_48 (s0 : Int32) (h : gb_H) : Option (Int32 × gb_H) :=
  some (s0, h)
theorem fbX11_pair_48_ok {X : gb_X} (s0 : Int32) (h : gb_H) (r : Int32 × gb_H) (hF : fbX11_pair_48 s0 h = some r) : gb_Ev X 1 mX11_pair 48 [none, none, none] [.int s0] h (gb_wI r) := by
  unfold fbX11_pair_48 at hF
  cases hF
  exact gb_iret dX11_pair_48 rfl
def fbX11_pair_30 (v0 : Int32) (v1 : Int32) (v2 : Int32) (h : gb_H) : Option (Int32 × gb_H) :=
  if v0 < (16 : Int32) then
    if v1 = v2 then
      fbX11_pair_48 (1 : Int32) h
    else
      fbX11_pair_48 (0 : Int32) h
  else
    fbX11_pair_36 h
theorem fbX11_pair_30_ok {X : gb_X} (v0 : Int32) (v1 : Int32) (v2 : Int32) (h : gb_H) (r : Int32 × gb_H) (hF : fbX11_pair_30 v0 v1 v2 h = some r) : gb_Ev X 1 mX11_pair 30 [some (.int v0), some (.int v1), some (.int v2)] [] h (gb_wI r) := by
  unfold fbX11_pair_30 at hF
  refine gb_iload_n dX11_pair_30 rfl rfl ?_
  refine gb_bipush (v := (16 : Int32)) dX11_pair_31 (by decide) ?_
  refine gb_icmp_lt (tgt := 38) dX11_pair_33 (by decide) (fun c1 => ?_) (fun c1 => ?_)
  · replace hF := gb_ifT c1 hF
    refine gb_iload_n dX11_pair_38 rfl rfl ?_
    refine gb_iload_n dX11_pair_39 rfl rfl ?_
    refine gb_icmp_ne (tgt := 47) dX11_pair_40 (by decide) (fun c2 => ?_) (fun c2 => ?_)
    · replace hF := gb_ifF c2 hF
      refine gb_iconst (v := (0 : Int32)) dX11_pair_47 (by decide) ?_
      exact gb_wk (fbX11_pair_48_ok (0 : Int32) h r hF) trivial
    · replace hF := gb_ifT c2 hF
      refine gb_iconst (v := (1 : Int32)) dX11_pair_43 (by decide) ?_
      refine gb_goto (tgt := 48) dX11_pair_44 (by decide) ?_
      exact gb_wk (fbX11_pair_48_ok (1 : Int32) h r hF) trivial
  · replace hF := gb_ifF c1 hF
    exact gb_wk (fbX11_pair_36_ok h r hF) trivial
def fbX11_pair_20 (v0 : Int32) (v1 : Int32) (v2 : Int32) (h : gb_H) : Option (Int32 × gb_H) :=
  if v2 = (1 : Int32) then
    fbX11_pair_30 v0 v1 v2 h
  else
    if v2 = (2 : Int32) then
      fbX11_pair_30 v0 v1 v2 h
    else
      fbX11_pair_36 h
theorem fbX11_pair_20_ok {X : gb_X} (v0 : Int32) (v1 : Int32) (v2 : Int32) (h : gb_H) (r : Int32 × gb_H) (hF : fbX11_pair_20 v0 v1 v2 h = some r) : gb_Ev X 1 mX11_pair 20 [some (.int v0), some (.int v1), some (.int v2)] [] h (gb_wI r) := by
  unfold fbX11_pair_20 at hF
  refine gb_iload_n dX11_pair_20 rfl rfl ?_
  refine gb_iconst (v := (1 : Int32)) dX11_pair_21 (by decide) ?_
  refine gb_icmp_eq (tgt := 30) dX11_pair_22 (by decide) (fun c1 => ?_) (fun c1 => ?_)
  · replace hF := gb_ifT c1 hF
    exact gb_wk (fbX11_pair_30_ok v0 v1 v2 h r hF) (And.intro rfl (And.intro rfl (And.intro rfl trivial)))
  · replace hF := gb_ifF c1 hF
    refine gb_iload_n dX11_pair_25 rfl rfl ?_
    refine gb_iconst (v := (2 : Int32)) dX11_pair_26 (by decide) ?_
    refine gb_icmp_ne (tgt := 36) dX11_pair_27 (by decide) (fun c2 => ?_) (fun c2 => ?_)
    · replace hF := gb_ifF c2 hF
      exact gb_wk (fbX11_pair_36_ok h r hF) trivial
    · replace hF := gb_ifT c2 hF
      exact gb_wk (fbX11_pair_30_ok v0 v1 v2 h r hF) (And.intro rfl (And.intro rfl (And.intro rfl trivial)))
def fnX11_pair (p0 : Int32) (h : gb_H) : Option (Int32 × gb_H) :=
  gb_lt (p0 &&& (3 : Int32)) fun x1 =>
  gb_lt ((p0 >>> ((2 : Int32) &&& 31)) &&& (3 : Int32)) fun x2 =>
  if x1 = (1 : Int32) then
    fbX11_pair_20 p0 x1 x2 h
  else
    if x1 = (2 : Int32) then
      fbX11_pair_20 p0 x1 x2 h
    else
      fbX11_pair_36 h
theorem fnX11_pair_ok {X : gb_X}  {p0 : Int32} (h : gb_H) (r : Int32 × gb_H) (hF : fnX11_pair p0 h = some r) : gb_Ev X 1 mX11_pair 0 (gb_L0 [.int p0]) [] h (gb_wI r) := by
  unfold fnX11_pair at hF
  refine gb_weak (L' := [some (.int p0), none, none]) (And.intro rfl trivial) ?_
  refine gb_iload_n dX11_pair_0 rfl rfl ?_
  refine gb_iconst (v := (3 : Int32)) dX11_pair_1 (by decide) ?_
  refine gb_iand dX11_pair_2 ?_
  obtain ⟨x1, ex1, hF⟩ := gb_ltE hF
  refine gb_topI ex1 ?_
  refine gb_istore_n (L' := [some (.int p0), some (.int x1), none]) dX11_pair_3 rfl (by decide) rfl rfl ?_
  refine gb_iload_n dX11_pair_4 rfl rfl ?_
  refine gb_iconst (v := (2 : Int32)) dX11_pair_5 (by decide) ?_
  refine gb_ishr dX11_pair_6 ?_
  refine gb_iconst (v := (3 : Int32)) dX11_pair_7 (by decide) ?_
  refine gb_iand dX11_pair_8 ?_
  obtain ⟨x2, ex2, hF⟩ := gb_ltE hF
  refine gb_topI ex2 ?_
  refine gb_istore_n (L' := [some (.int p0), some (.int x1), some (.int x2)]) dX11_pair_9 rfl (by decide) rfl rfl ?_
  refine gb_iload_n dX11_pair_10 rfl rfl ?_
  refine gb_iconst (v := (1 : Int32)) dX11_pair_11 (by decide) ?_
  refine gb_icmp_eq (tgt := 20) dX11_pair_12 (by decide) (fun c3 => ?_) (fun c3 => ?_)
  · replace hF := gb_ifT c3 hF
    exact gb_wk (fbX11_pair_20_ok p0 x1 x2 h r hF) (And.intro rfl (And.intro rfl (And.intro rfl trivial)))
  · replace hF := gb_ifF c3 hF
    refine gb_iload_n dX11_pair_15 rfl rfl ?_
    refine gb_iconst (v := (2 : Int32)) dX11_pair_16 (by decide) ?_
    refine gb_icmp_ne (tgt := 36) dX11_pair_17 (by decide) (fun c4 => ?_) (fun c4 => ?_)
    · replace hF := gb_ifF c4 hF
      exact gb_wk (fbX11_pair_36_ok h r hF) trivial
    · replace hF := gb_ifT c4 hF
      exact gb_wk (fbX11_pair_20_ok p0 x1 x2 h r hF) (And.intro rfl (And.intro rfl (And.intro rfl trivial)))
def fbX11_pairsOf_35 (k6 : Nat → Int32 → Int32 → Int32 → Int32 → Int32 → gb_H → Option (Int32 × gb_H)) (v0 : Nat) (v1 : Int32) (v2 : Int32) (v3 : Int32) (v4 : Int32) (v5 : Int32) (h : gb_H) : Option (Int32 × gb_H) :=
  gb_lt (v5 + (1 : Int32)) fun x1 =>
  k6 v0 v1 v2 v3 v4 x1 h
theorem fbX11_pairsOf_35_ok {X : gb_X} {k6 : Nat → Int32 → Int32 → Int32 → Int32 → Int32 → gb_H → Option (Int32 × gb_H)} (hk6 : ∀ v0 v1 v2 v3 v4 v5 h r, k6 v0 v1 v2 v3 v4 v5 h = some r → gb_Ev X 2 mX11_pairsOf 6 [some (.ref v0), some (.int v1), some (.int v2), some (.int v3), some (.int v4), some (.int v5)] [] h (gb_wI r)) (v0 : Nat) (v1 : Int32) (v2 : Int32) (v3 : Int32) (v4 : Int32) (v5 : Int32) (h : gb_H) (r : Int32 × gb_H) (hF : fbX11_pairsOf_35 k6 v0 v1 v2 v3 v4 v5 h = some r) : gb_Ev X 2 mX11_pairsOf 35 [some (.ref v0), some (.int v1), some (.int v2), some (.int v3), some (.int v4), some (.int v5)] [] h (gb_wI r) := by
  unfold fbX11_pairsOf_35 at hF
  obtain ⟨x1, ex1, hF⟩ := gb_ltE hF
  refine gb_iinc (v := x1) (L' := [some (.ref v0), some (.int v1), some (.int v2), some (.int v3), some (.int v4), some (.int x1)]) dX11_pairsOf_35 rfl (by rw [ex1]; rfl) (by decide) rfl rfl ?_
  refine gb_goto (tgt := 6) dX11_pairsOf_38 (by decide) ?_
  exact gb_wk (hk6 v0 v1 v2 v3 v4 x1 h r hF) (And.intro rfl (And.intro rfl (And.intro rfl (And.intro rfl (And.intro rfl (And.intro rfl trivial))))))
def fbX11_pairsOf_6 (k6 : Nat → Int32 → Int32 → Int32 → Int32 → Int32 → gb_H → Option (Int32 × gb_H)) (v0 : Nat) (v1 : Int32) (v2 : Int32) (v3 : Int32) (v4 : Int32) (v5 : Int32) (h : gb_H) : Option (Int32 × gb_H) :=
  if (32 : Int32) ≤ v5 then
    some (v4, h)
  else
    gb_bd (fnX11_pair v5 h) fun x2 h3 =>
    if x2 = v3 then
      gb_gd (gb_k h3 v0 11) <|
      gb_bd (fnX11_countedOf v0 v1 v5 v2 h3) fun x6 h7 =>
      gb_lt (v4 + x6) fun x8 =>
      fbX11_pairsOf_35 k6 v0 v1 v2 v3 x8 v5 h7
    else
      fbX11_pairsOf_35 k6 v0 v1 v2 v3 v4 v5 h3
theorem fbX11_pairsOf_6_ok {X : gb_X} {k6 : Nat → Int32 → Int32 → Int32 → Int32 → Int32 → gb_H → Option (Int32 × gb_H)} (hk6 : ∀ v0 v1 v2 v3 v4 v5 h r, k6 v0 v1 v2 v3 v4 v5 h = some r → gb_Ev X 2 mX11_pairsOf 6 [some (.ref v0), some (.int v1), some (.int v2), some (.int v3), some (.int v4), some (.int v5)] [] h (gb_wI r)) (v0 : Nat) (v1 : Int32) (v2 : Int32) (v3 : Int32) (v4 : Int32) (v5 : Int32) (h : gb_H) (r : Int32 × gb_H) (hF : fbX11_pairsOf_6 k6 v0 v1 v2 v3 v4 v5 h = some r) : gb_Ev X 2 mX11_pairsOf 6 [some (.ref v0), some (.int v1), some (.int v2), some (.int v3), some (.int v4), some (.int v5)] [] h (gb_wI r) := by
  unfold fbX11_pairsOf_6 at hF
  refine gb_iload dX11_pairsOf_6 rfl ?_
  refine gb_bipush (v := (32 : Int32)) dX11_pairsOf_8 (by decide) ?_
  refine gb_icmp_ge (tgt := 41) dX11_pairsOf_10 (by decide) (fun c1 => ?_) (fun c1 => ?_)
  · replace hF := gb_ifT c1 hF
    refine gb_iload dX11_pairsOf_41 rfl ?_
    cases hF
    exact gb_iret dX11_pairsOf_43 rfl
  · replace hF := gb_ifF c1 hF
    refine gb_iload dX11_pairsOf_13 rfl ?_
    obtain ⟨x2, h3, cx2, hF⟩ := gb_bdE hF
    refine gb_cS (As := [.int v5]) (S := []) (v := some (.int x2)) (h1 := h3) (S2 := [.int x2]) dX11_pairsOf_15 mtX11_pair lX11_362 stX11_pair (fnX11_pair_ok _ _ cx2) (by decide) rfl (Nat.le_of_ble_eq_true rfl) (Nat.le_of_ble_eq_true rfl) rfl rfl ?_
    refine gb_iload_n dX11_pairsOf_18 rfl rfl ?_
    refine gb_icmp_ne (tgt := 35) dX11_pairsOf_19 (by decide) (fun c4 => ?_) (fun c4 => ?_)
    · replace hF := gb_ifF c4 hF
      exact gb_wk (fbX11_pairsOf_35_ok hk6 v0 v1 v2 v3 v4 v5 h3 r hF) (And.intro rfl (And.intro rfl (And.intro rfl (And.intro rfl (And.intro rfl (And.intro rfl trivial))))))
    · replace hF := gb_ifT c4 hF
      refine gb_iload dX11_pairsOf_22 rfl ?_
      refine gb_aload_n dX11_pairsOf_24 rfl rfl ?_
      refine gb_iload_n dX11_pairsOf_25 rfl rfl ?_
      refine gb_iload dX11_pairsOf_26 rfl ?_
      refine gb_iload_n dX11_pairsOf_28 rfl rfl ?_
      obtain ⟨g5, hF⟩ := gb_gdE hF
      obtain ⟨x6, h7, cx6, hF⟩ := gb_bdE hF
      refine gb_cV (As := [.int v1, .int v5, .int v2]) (S := [.int v4]) (v := some (.int x6)) (h1 := h7) (S2 := [.int x6, .int v4]) cf11 dX11_pairsOf_29 mtX11_countedOf lX11_348 inX11_countedOf seX11_countedOf (gb_kE g5) (fnX11_countedOf_ok _ _ cx6) (by decide) rfl (Nat.le_of_ble_eq_true rfl) (Nat.le_of_ble_eq_true rfl) rfl rfl ?_
      refine gb_iadd dX11_pairsOf_32 ?_
      obtain ⟨x8, ex8, hF⟩ := gb_ltE hF
      refine gb_topI ex8 ?_
      refine gb_istore (L' := [some (.ref v0), some (.int v1), some (.int v2), some (.int v3), some (.int x8), some (.int v5)]) dX11_pairsOf_33 (by decide) rfl rfl ?_
      exact gb_wk (fbX11_pairsOf_35_ok hk6 v0 v1 v2 v3 x8 v5 h7 r hF) (And.intro rfl (And.intro rfl (And.intro rfl (And.intro rfl (And.intro rfl (And.intro rfl trivial))))))
def lpX11_pairsOf_6 (n : Nat) (v0 : Nat) (v1 : Int32) (v2 : Int32) (v3 : Int32) (v4 : Int32) (v5 : Int32) (h : gb_H) : Option (Int32 × gb_H) := gb_lp (σ := Nat × Int32 × Int32 × Int32 × Int32 × Int32 × gb_H) (fun k s => fbX11_pairsOf_6 (fun v0 v1 v2 v3 v4 v5 h => k (v0, v1, v2, v3, v4, v5, h)) s.1 s.2.1 s.2.2.1 s.2.2.2.1 s.2.2.2.2.1 s.2.2.2.2.2.1 s.2.2.2.2.2.2) n (v0, v1, v2, v3, v4, v5, h)
theorem lpX11_pairsOf_6_ok {X : gb_X}  (n : Nat) (v0 : Nat) (v1 : Int32) (v2 : Int32) (v3 : Int32) (v4 : Int32) (v5 : Int32) (h : gb_H) (r : Int32 × gb_H) (hF : lpX11_pairsOf_6 n v0 v1 v2 v3 v4 v5 h = some r) : gb_Ev X 2 mX11_pairsOf 6 [some (.ref v0), some (.int v1), some (.int v2), some (.int v3), some (.int v4), some (.int v5)] [] h (gb_wI r) := by
  exact gb_lpE (σ := Nat × Int32 × Int32 × Int32 × Int32 × Int32 × gb_H) (P := fun s r => gb_Ev X 2 mX11_pairsOf 6 [some (.ref s.1), some (.int s.2.1), some (.int s.2.2.1), some (.int s.2.2.2.1), some (.int s.2.2.2.2.1), some (.int s.2.2.2.2.2.1)] [] s.2.2.2.2.2.2 (gb_wI r)) (fun k hk s r hs => fbX11_pairsOf_6_ok (fun v0 v1 v2 v3 v4 v5 h r e => hk (v0, v1, v2, v3, v4, v5, h) r e) _ _ _ _ _ _ _ r hs) n (v0, v1, v2, v3, v4, v5, h) r hF
def fnX11_pairsOf (p0 : Nat) (p1 : Int32) (p2 : Int32) (p3 : Int32) (h : gb_H) : Option (Int32 × gb_H) :=
  lpX11_pairsOf_6 gb_FU p0 p1 p2 p3 (0 : Int32) (0 : Int32) h
theorem fnX11_pairsOf_ok {X : gb_X}  {p0 : Nat} {p1 : Int32} {p2 : Int32} {p3 : Int32} (h : gb_H) (r : Int32 × gb_H) (hF : fnX11_pairsOf p0 p1 p2 p3 h = some r) : gb_Ev X 2 mX11_pairsOf 0 (gb_L0 [.ref p0, .int p1, .int p2, .int p3]) [] h (gb_wI r) := by
  unfold fnX11_pairsOf at hF
  refine gb_weak (L' := [some (.ref p0), some (.int p1), some (.int p2), some (.int p3), none, none]) (And.intro rfl (And.intro rfl (And.intro rfl (And.intro rfl trivial)))) ?_
  refine gb_iconst (v := (0 : Int32)) dX11_pairsOf_0 (by decide) ?_
  refine gb_istore (L' := [some (.ref p0), some (.int p1), some (.int p2), some (.int p3), some (.int (0 : Int32)), none]) dX11_pairsOf_1 (by decide) rfl rfl ?_
  refine gb_iconst (v := (0 : Int32)) dX11_pairsOf_3 (by decide) ?_
  refine gb_istore (L' := [some (.ref p0), some (.int p1), some (.int p2), some (.int p3), some (.int (0 : Int32)), some (.int (0 : Int32))]) dX11_pairsOf_4 (by decide) rfl rfl ?_
  exact gb_wk (lpX11_pairsOf_6_ok gb_FU p0 p1 p2 p3 (0 : Int32) (0 : Int32) h r hF) (And.intro rfl (And.intro rfl (And.intro rfl (And.intro rfl (And.intro rfl (And.intro rfl trivial))))))
def fbX11_pairs_42 (s0 : Int32) (h : gb_H) : Option (Int32 × gb_H) :=
  some (s0, h)
theorem fbX11_pairs_42_ok {X : gb_X} (s0 : Int32) (h : gb_H) (r : Int32 × gb_H) (hF : fbX11_pairs_42 s0 h = some r) : gb_Ev X 3 mX11_pairs 42 [none, none, none, none] [.int s0] h (gb_wI r) := by
  unfold fbX11_pairs_42 at hF
  cases hF
  exact gb_iret dX11_pairs_42 rfl
def fbX11_pairs_41 (h : gb_H) : Option (Int32 × gb_H) :=
  fbX11_pairs_42 (-1 : Int32) h
theorem fbX11_pairs_41_ok {X : gb_X} (h : gb_H) (r : Int32 × gb_H) (hF : fbX11_pairs_41 h = some r) : gb_Ev X 3 mX11_pairs 41 [none, none, none, none] [] h (gb_wI r) := by
  unfold fbX11_pairs_41 at hF
  refine gb_iconst (v := (-1 : Int32)) dX11_pairs_41 (by decide) ?_
  exact gb_wk (fbX11_pairs_42_ok (-1 : Int32) h r hF) trivial
def fnX11_pairs (p0 : Nat) (p1 : Int32) (p2 : Int32) (p3 : Int32) (h : gb_H) : Option (Int32 × gb_H) :=
  gb_bd (fnX11_in p1 (0 : Int32) (3 : Int32) h) fun x1 h2 =>
  if x1 = 0 then
    fbX11_pairs_41 h2
  else
    gb_bd (fnX11_in p2 (0 : Int32) (999 : Int32) h2) fun x4 h5 =>
    if x4 = 0 then
      fbX11_pairs_41 h5
    else
      gb_bd (fnX11_in p3 (0 : Int32) (1 : Int32) h5) fun x7 h8 =>
      if x7 = 0 then
        fbX11_pairs_41 h8
      else
        gb_gd (gb_k h8 p0 11) <|
        gb_bd (fnX11_pairsOf p0 p1 p2 ((1 : Int32) - p3) h8) fun x11 h12 =>
        fbX11_pairs_42 x11 h12
theorem fnX11_pairs_ok {X : gb_X}  {p0 : Nat} {p1 : Int32} {p2 : Int32} {p3 : Int32} (h : gb_H) (r : Int32 × gb_H) (hF : fnX11_pairs p0 p1 p2 p3 h = some r) : gb_Ev X 3 mX11_pairs 0 (gb_L0 [.ref p0, .int p1, .int p2, .int p3]) [] h (gb_wI r) := by
  unfold fnX11_pairs at hF
  refine gb_weak (L' := [some (.ref p0), some (.int p1), some (.int p2), some (.int p3)]) (And.intro rfl (And.intro rfl (And.intro rfl (And.intro rfl trivial)))) ?_
  refine gb_iload_n dX11_pairs_0 rfl rfl ?_
  refine gb_iconst (v := (0 : Int32)) dX11_pairs_1 (by decide) ?_
  refine gb_iconst (v := (3 : Int32)) dX11_pairs_2 (by decide) ?_
  obtain ⟨x1, h2, cx1, hF⟩ := gb_bdE hF
  refine gb_cS (As := [.int p1, .int (0 : Int32), .int (3 : Int32)]) (S := []) (v := some (.int x1)) (h1 := h2) (S2 := [.int x1]) dX11_pairs_3 mtX11_in lX11_104 stX11_in (fnX11_in_ok _ _ cx1) (by decide) rfl (Nat.le_of_ble_eq_true rfl) (Nat.le_of_ble_eq_true rfl) rfl rfl ?_
  refine gb_if_eq (tgt := 41) dX11_pairs_6 (by decide) (fun c3 => ?_) (fun c3 => ?_)
  · replace hF := gb_ifT c3 hF
    exact gb_wk (fbX11_pairs_41_ok h2 r hF) trivial
  · replace hF := gb_ifF c3 hF
    refine gb_iload_n dX11_pairs_9 rfl rfl ?_
    refine gb_iconst (v := (0 : Int32)) dX11_pairs_10 (by decide) ?_
    refine gb_sipush (v := (999 : Int32)) dX11_pairs_11 (by decide) ?_
    obtain ⟨x4, h5, cx4, hF⟩ := gb_bdE hF
    refine gb_cS (As := [.int p2, .int (0 : Int32), .int (999 : Int32)]) (S := []) (v := some (.int x4)) (h1 := h5) (S2 := [.int x4]) dX11_pairs_14 mtX11_in lX11_104 stX11_in (fnX11_in_ok _ _ cx4) (by decide) rfl (Nat.le_of_ble_eq_true rfl) (Nat.le_of_ble_eq_true rfl) rfl rfl ?_
    refine gb_if_eq (tgt := 41) dX11_pairs_17 (by decide) (fun c6 => ?_) (fun c6 => ?_)
    · replace hF := gb_ifT c6 hF
      exact gb_wk (fbX11_pairs_41_ok h5 r hF) trivial
    · replace hF := gb_ifF c6 hF
      refine gb_iload_n dX11_pairs_20 rfl rfl ?_
      refine gb_iconst (v := (0 : Int32)) dX11_pairs_21 (by decide) ?_
      refine gb_iconst (v := (1 : Int32)) dX11_pairs_22 (by decide) ?_
      obtain ⟨x7, h8, cx7, hF⟩ := gb_bdE hF
      refine gb_cS (As := [.int p3, .int (0 : Int32), .int (1 : Int32)]) (S := []) (v := some (.int x7)) (h1 := h8) (S2 := [.int x7]) dX11_pairs_23 mtX11_in lX11_104 stX11_in (fnX11_in_ok _ _ cx7) (by decide) rfl (Nat.le_of_ble_eq_true rfl) (Nat.le_of_ble_eq_true rfl) rfl rfl ?_
      refine gb_if_eq (tgt := 41) dX11_pairs_26 (by decide) (fun c9 => ?_) (fun c9 => ?_)
      · replace hF := gb_ifT c9 hF
        exact gb_wk (fbX11_pairs_41_ok h8 r hF) trivial
      · replace hF := gb_ifF c9 hF
        refine gb_aload_n dX11_pairs_29 rfl rfl ?_
        refine gb_iload_n dX11_pairs_30 rfl rfl ?_
        refine gb_iload_n dX11_pairs_31 rfl rfl ?_
        refine gb_iconst (v := (1 : Int32)) dX11_pairs_32 (by decide) ?_
        refine gb_iload_n dX11_pairs_33 rfl rfl ?_
        refine gb_isub dX11_pairs_34 ?_
        obtain ⟨g10, hF⟩ := gb_gdE hF
        obtain ⟨x11, h12, cx11, hF⟩ := gb_bdE hF
        refine gb_cV (As := [.int p1, .int p2, .int ((1 : Int32) - p3)]) (S := []) (v := some (.int x11)) (h1 := h12) (S2 := [.int x11]) cf11 dX11_pairs_35 mtX11_pairsOf lX11_365 inX11_pairsOf seX11_pairsOf (gb_kE g10) (fnX11_pairsOf_ok _ _ cx11) (by decide) rfl (Nat.le_of_ble_eq_true rfl) (Nat.le_of_ble_eq_true rfl) rfl rfl ?_
        refine gb_goto (tgt := 42) dX11_pairs_38 (by decide) ?_
        exact gb_wk (fbX11_pairs_42_ok x11 h12 r hF) trivial
def fbX11_notes_20 (h : gb_H) : Option (Int64 × gb_H) :=
  some ((-2000000000 : Int64), h)
theorem fbX11_notes_20_ok {X : gb_X} (h : gb_H) (r : Int64 × gb_H) (hF : fbX11_notes_20 h = some r) : gb_Ev X 3 mX11_notes 20 [none, none, none, none, none, none, none, none, none, none, none, none, none, none, none, none] [] h (gb_wJ r) := by
  unfold fbX11_notes_20 at hF
  refine gb_ldc2 (v := (-2000000000 : Int64)) dX11_notes_20 kX11_368 ?_
  cases hF
  exact gb_lret dX11_notes_23 rfl
def fbX11_notes_170 (k81 : Nat → Int32 → Int32 → Int64 → Int64 → Int32 → Int32 → gb_H → Option (Int64 × gb_H)) (k97 : Nat → Int32 → Int32 → Int64 → Int64 → Int32 → Int32 → Int64 → Int32 → Int32 → gb_H → Option (Int64 × gb_H)) (v0 : Nat) (v1 : Int32) (v2 : Int32) (v3 : Int64) (v5 : Int64) (v7 : Int32) (v8 : Int32) (v11 : Int32) (v12 : Int32) (v13 : Int32) (v14 : Int32) (s0 : Int64) (s1 : Int64) (h : gb_H) : Option (Int64 × gb_H) :=
  gb_lt ((v13 + v14).toInt64) fun x1 =>
  gb_gd (gb_nzL x1) <|
  gb_lt (s0 + ((s1 * ((v13 - v14).toInt64)) * (v3 / x1))) fun x3 =>
  gb_lt (v12 + (1 : Int32)) fun x4 =>
  k97 v0 v1 v2 v3 v5 v7 v8 x3 v11 x4 h
theorem fbX11_notes_170_ok {X : gb_X} {k81 : Nat → Int32 → Int32 → Int64 → Int64 → Int32 → Int32 → gb_H → Option (Int64 × gb_H)} {k97 : Nat → Int32 → Int32 → Int64 → Int64 → Int32 → Int32 → Int64 → Int32 → Int32 → gb_H → Option (Int64 × gb_H)} (hk81 : ∀ v0 v1 v2 v3 v5 v7 v8 h r, k81 v0 v1 v2 v3 v5 v7 v8 h = some r → gb_Ev X 3 mX11_notes 81 [some (.ref v0), some (.int v1), some (.int v2), some (.long v3), none, some (.long v5), none, some (.int v7), some (.int v8), none, none, none, none, none, none, none] [] h (gb_wJ r)) (hk97 : ∀ v0 v1 v2 v3 v5 v7 v8 v9 v11 v12 h r, k97 v0 v1 v2 v3 v5 v7 v8 v9 v11 v12 h = some r → gb_Ev X 3 mX11_notes 97 [some (.ref v0), some (.int v1), some (.int v2), some (.long v3), none, some (.long v5), none, some (.int v7), some (.int v8), some (.long v9), none, some (.int v11), some (.int v12), none, none, none] [] h (gb_wJ r)) (v0 : Nat) (v1 : Int32) (v2 : Int32) (v3 : Int64) (v5 : Int64) (v7 : Int32) (v8 : Int32) (v11 : Int32) (v12 : Int32) (v13 : Int32) (v14 : Int32) (s0 : Int64) (s1 : Int64) (h : gb_H) (r : Int64 × gb_H) (hF : fbX11_notes_170 k81 k97 v0 v1 v2 v3 v5 v7 v8 v11 v12 v13 v14 s0 s1 h = some r) : gb_Ev X 3 mX11_notes 170 [some (.ref v0), some (.int v1), some (.int v2), some (.long v3), none, some (.long v5), none, some (.int v7), some (.int v8), none, none, some (.int v11), some (.int v12), some (.int v13), some (.int v14), none] [.long s1, .long s0] h (gb_wJ r) := by
  unfold fbX11_notes_170 at hF
  refine gb_iload dX11_notes_170 rfl ?_
  refine gb_iload dX11_notes_172 rfl ?_
  refine gb_isub dX11_notes_174 ?_
  refine gb_i2l dX11_notes_175 ?_
  refine gb_lmul dX11_notes_176 ?_
  refine gb_lload_n dX11_notes_177 rfl rfl ?_
  refine gb_iload dX11_notes_178 rfl ?_
  refine gb_iload dX11_notes_180 rfl ?_
  refine gb_iadd dX11_notes_182 ?_
  refine gb_i2l dX11_notes_183 ?_
  obtain ⟨x1, ex1, hF⟩ := gb_ltE hF
  refine gb_topJ ex1 ?_
  obtain ⟨g2, hF⟩ := gb_gdE hF
  refine gb_ldiv dX11_notes_184 (gb_nzLE g2) ?_
  refine gb_lmul dX11_notes_185 ?_
  refine gb_ladd dX11_notes_186 ?_
  obtain ⟨x3, ex3, hF⟩ := gb_ltE hF
  refine gb_topJ ex3 ?_
  refine gb_lstore (L' := [some (.ref v0), some (.int v1), some (.int v2), some (.long v3), none, some (.long v5), none, some (.int v7), some (.int v8), some (.long x3), none, some (.int v11), some (.int v12), some (.int v13), some (.int v14), none]) dX11_notes_187 (by decide) rfl rfl ?_
  obtain ⟨x4, ex4, hF⟩ := gb_ltE hF
  refine gb_iinc (v := x4) (L' := [some (.ref v0), some (.int v1), some (.int v2), some (.long v3), none, some (.long v5), none, some (.int v7), some (.int v8), some (.long x3), none, some (.int v11), some (.int x4), some (.int v13), some (.int v14), none]) dX11_notes_189 rfl (by rw [ex4]; rfl) (by decide) rfl rfl ?_
  refine gb_goto (tgt := 97) dX11_notes_192 (by decide) ?_
  exact gb_wk (hk97 v0 v1 v2 v3 v5 v7 v8 x3 v11 x4 h r hF) (And.intro rfl (And.intro rfl (And.intro rfl (And.intro rfl (And.intro rfl (And.intro rfl (And.intro rfl (And.intro rfl (And.intro rfl (And.intro rfl trivial))))))))))
def fbX11_notes_153 (k81 : Nat → Int32 → Int32 → Int64 → Int64 → Int32 → Int32 → gb_H → Option (Int64 × gb_H)) (k97 : Nat → Int32 → Int32 → Int64 → Int64 → Int32 → Int32 → Int64 → Int32 → Int32 → gb_H → Option (Int64 × gb_H)) (v0 : Nat) (v1 : Int32) (v2 : Int32) (v3 : Int64) (v5 : Int64) (v7 : Int32) (v8 : Int32) (v9 : Int64) (v12 : Int32) (v13 : Int32) (v14 : Int32) (v15 : Int32) (s0 : Int32) (s1 : Int32) (h : gb_H) : Option (Int64 × gb_H) :=
  gb_lt (s0 + s1) fun x1 =>
  if v15 = 0 then
    fbX11_notes_170 k81 k97 v0 v1 v2 v3 v5 v7 v8 x1 v12 v13 v14 v9 (1 : Int64) h
  else
    fbX11_notes_170 k81 k97 v0 v1 v2 v3 v5 v7 v8 x1 v12 v13 v14 v9 (-1 : Int64) h
theorem fbX11_notes_153_ok {X : gb_X} {k81 : Nat → Int32 → Int32 → Int64 → Int64 → Int32 → Int32 → gb_H → Option (Int64 × gb_H)} {k97 : Nat → Int32 → Int32 → Int64 → Int64 → Int32 → Int32 → Int64 → Int32 → Int32 → gb_H → Option (Int64 × gb_H)} (hk81 : ∀ v0 v1 v2 v3 v5 v7 v8 h r, k81 v0 v1 v2 v3 v5 v7 v8 h = some r → gb_Ev X 3 mX11_notes 81 [some (.ref v0), some (.int v1), some (.int v2), some (.long v3), none, some (.long v5), none, some (.int v7), some (.int v8), none, none, none, none, none, none, none] [] h (gb_wJ r)) (hk97 : ∀ v0 v1 v2 v3 v5 v7 v8 v9 v11 v12 h r, k97 v0 v1 v2 v3 v5 v7 v8 v9 v11 v12 h = some r → gb_Ev X 3 mX11_notes 97 [some (.ref v0), some (.int v1), some (.int v2), some (.long v3), none, some (.long v5), none, some (.int v7), some (.int v8), some (.long v9), none, some (.int v11), some (.int v12), none, none, none] [] h (gb_wJ r)) (v0 : Nat) (v1 : Int32) (v2 : Int32) (v3 : Int64) (v5 : Int64) (v7 : Int32) (v8 : Int32) (v9 : Int64) (v12 : Int32) (v13 : Int32) (v14 : Int32) (v15 : Int32) (s0 : Int32) (s1 : Int32) (h : gb_H) (r : Int64 × gb_H) (hF : fbX11_notes_153 k81 k97 v0 v1 v2 v3 v5 v7 v8 v9 v12 v13 v14 v15 s0 s1 h = some r) : gb_Ev X 3 mX11_notes 153 [some (.ref v0), some (.int v1), some (.int v2), some (.long v3), none, some (.long v5), none, some (.int v7), some (.int v8), some (.long v9), none, none, some (.int v12), some (.int v13), some (.int v14), some (.int v15)] [.int s1, .int s0] h (gb_wJ r) := by
  unfold fbX11_notes_153 at hF
  refine gb_iadd dX11_notes_153 ?_
  obtain ⟨x1, ex1, hF⟩ := gb_ltE hF
  refine gb_topI ex1 ?_
  refine gb_istore (L' := [some (.ref v0), some (.int v1), some (.int v2), some (.long v3), none, some (.long v5), none, some (.int v7), some (.int v8), some (.long v9), none, some (.int x1), some (.int v12), some (.int v13), some (.int v14), some (.int v15)]) dX11_notes_154 (by decide) rfl rfl ?_
  refine gb_lload dX11_notes_156 rfl ?_
  refine gb_iload dX11_notes_158 rfl ?_
  refine gb_if_eq (tgt := 169) dX11_notes_160 (by decide) (fun c2 => ?_) (fun c2 => ?_)
  · replace hF := gb_ifT c2 hF
    refine gb_lconst (v := (1 : Int64)) dX11_notes_169 (by decide) ?_
    exact gb_wk (fbX11_notes_170_ok hk81 hk97 v0 v1 v2 v3 v5 v7 v8 x1 v12 v13 v14 v9 (1 : Int64) h r hF) (And.intro rfl (And.intro rfl (And.intro rfl (And.intro rfl (And.intro rfl (And.intro rfl (And.intro rfl (And.intro rfl (And.intro rfl (And.intro rfl (And.intro rfl trivial)))))))))))
  · replace hF := gb_ifF c2 hF
    refine gb_ldc2 (v := (-1 : Int64)) dX11_notes_163 kX11_245 ?_
    refine gb_goto (tgt := 170) dX11_notes_166 (by decide) ?_
    exact gb_wk (fbX11_notes_170_ok hk81 hk97 v0 v1 v2 v3 v5 v7 v8 x1 v12 v13 v14 v9 (-1 : Int64) h r hF) (And.intro rfl (And.intro rfl (And.intro rfl (And.intro rfl (And.intro rfl (And.intro rfl (And.intro rfl (And.intro rfl (And.intro rfl (And.intro rfl (And.intro rfl trivial)))))))))))
def fbX11_notes_139 (k81 : Nat → Int32 → Int32 → Int64 → Int64 → Int32 → Int32 → gb_H → Option (Int64 × gb_H)) (k97 : Nat → Int32 → Int32 → Int64 → Int64 → Int32 → Int32 → Int64 → Int32 → Int32 → gb_H → Option (Int64 × gb_H)) (v0 : Nat) (v1 : Int32) (v2 : Int32) (v3 : Int64) (v5 : Int64) (v7 : Int32) (v8 : Int32) (v9 : Int64) (v11 : Int32) (v12 : Int32) (v13 : Int32) (v14 : Int32) (s0 : Int32) (h : gb_H) : Option (Int64 × gb_H) :=
  if s0 = 0 then
    fbX11_notes_153 k81 k97 v0 v1 v2 v3 v5 v7 v8 v9 v12 v13 v14 s0 v11 (0 : Int32) h
  else
    fbX11_notes_153 k81 k97 v0 v1 v2 v3 v5 v7 v8 v9 v12 v13 v14 s0 v11 (1 : Int32) h
theorem fbX11_notes_139_ok {X : gb_X} {k81 : Nat → Int32 → Int32 → Int64 → Int64 → Int32 → Int32 → gb_H → Option (Int64 × gb_H)} {k97 : Nat → Int32 → Int32 → Int64 → Int64 → Int32 → Int32 → Int64 → Int32 → Int32 → gb_H → Option (Int64 × gb_H)} (hk81 : ∀ v0 v1 v2 v3 v5 v7 v8 h r, k81 v0 v1 v2 v3 v5 v7 v8 h = some r → gb_Ev X 3 mX11_notes 81 [some (.ref v0), some (.int v1), some (.int v2), some (.long v3), none, some (.long v5), none, some (.int v7), some (.int v8), none, none, none, none, none, none, none] [] h (gb_wJ r)) (hk97 : ∀ v0 v1 v2 v3 v5 v7 v8 v9 v11 v12 h r, k97 v0 v1 v2 v3 v5 v7 v8 v9 v11 v12 h = some r → gb_Ev X 3 mX11_notes 97 [some (.ref v0), some (.int v1), some (.int v2), some (.long v3), none, some (.long v5), none, some (.int v7), some (.int v8), some (.long v9), none, some (.int v11), some (.int v12), none, none, none] [] h (gb_wJ r)) (v0 : Nat) (v1 : Int32) (v2 : Int32) (v3 : Int64) (v5 : Int64) (v7 : Int32) (v8 : Int32) (v9 : Int64) (v11 : Int32) (v12 : Int32) (v13 : Int32) (v14 : Int32) (s0 : Int32) (h : gb_H) (r : Int64 × gb_H) (hF : fbX11_notes_139 k81 k97 v0 v1 v2 v3 v5 v7 v8 v9 v11 v12 v13 v14 s0 h = some r) : gb_Ev X 3 mX11_notes 139 [some (.ref v0), some (.int v1), some (.int v2), some (.long v3), none, some (.long v5), none, some (.int v7), some (.int v8), some (.long v9), none, some (.int v11), some (.int v12), some (.int v13), some (.int v14), none] [.int s0] h (gb_wJ r) := by
  unfold fbX11_notes_139 at hF
  refine gb_istore (L' := [some (.ref v0), some (.int v1), some (.int v2), some (.long v3), none, some (.long v5), none, some (.int v7), some (.int v8), some (.long v9), none, some (.int v11), some (.int v12), some (.int v13), some (.int v14), some (.int s0)]) dX11_notes_139 (by decide) rfl rfl ?_
  refine gb_iload dX11_notes_141 rfl ?_
  refine gb_iload dX11_notes_143 rfl ?_
  refine gb_if_eq (tgt := 152) dX11_notes_145 (by decide) (fun c1 => ?_) (fun c1 => ?_)
  · replace hF := gb_ifT c1 hF
    refine gb_iconst (v := (0 : Int32)) dX11_notes_152 (by decide) ?_
    exact gb_wk (fbX11_notes_153_ok hk81 hk97 v0 v1 v2 v3 v5 v7 v8 v9 v12 v13 v14 s0 v11 (0 : Int32) h r hF) (And.intro rfl (And.intro rfl (And.intro rfl (And.intro rfl (And.intro rfl (And.intro rfl (And.intro rfl (And.intro rfl (And.intro rfl (And.intro rfl (And.intro rfl (And.intro rfl trivial))))))))))))
  · replace hF := gb_ifF c1 hF
    refine gb_iconst (v := (1 : Int32)) dX11_notes_148 (by decide) ?_
    refine gb_goto (tgt := 153) dX11_notes_149 (by decide) ?_
    exact gb_wk (fbX11_notes_153_ok hk81 hk97 v0 v1 v2 v3 v5 v7 v8 v9 v12 v13 v14 s0 v11 (1 : Int32) h r hF) (And.intro rfl (And.intro rfl (And.intro rfl (And.intro rfl (And.intro rfl (And.intro rfl (And.intro rfl (And.intro rfl (And.intro rfl (And.intro rfl (And.intro rfl (And.intro rfl trivial))))))))))))
def fbX11_notes_225 (k81 : Nat → Int32 → Int32 → Int64 → Int64 → Int32 → Int32 → gb_H → Option (Int64 × gb_H)) (v0 : Nat) (v1 : Int32) (v2 : Int32) (v3 : Int64) (v5 : Int64) (v7 : Int32) (v8 : Int32) (h : gb_H) : Option (Int64 × gb_H) :=
  gb_lt (v8 + (1 : Int32)) fun x1 =>
  k81 v0 v1 v2 v3 v5 v7 x1 h
theorem fbX11_notes_225_ok {X : gb_X} {k81 : Nat → Int32 → Int32 → Int64 → Int64 → Int32 → Int32 → gb_H → Option (Int64 × gb_H)} (hk81 : ∀ v0 v1 v2 v3 v5 v7 v8 h r, k81 v0 v1 v2 v3 v5 v7 v8 h = some r → gb_Ev X 3 mX11_notes 81 [some (.ref v0), some (.int v1), some (.int v2), some (.long v3), none, some (.long v5), none, some (.int v7), some (.int v8), none, none, none, none, none, none, none] [] h (gb_wJ r)) (v0 : Nat) (v1 : Int32) (v2 : Int32) (v3 : Int64) (v5 : Int64) (v7 : Int32) (v8 : Int32) (h : gb_H) (r : Int64 × gb_H) (hF : fbX11_notes_225 k81 v0 v1 v2 v3 v5 v7 v8 h = some r) : gb_Ev X 3 mX11_notes 225 [some (.ref v0), some (.int v1), some (.int v2), some (.long v3), none, some (.long v5), none, some (.int v7), some (.int v8), none, none, none, none, none, none, none] [] h (gb_wJ r) := by
  unfold fbX11_notes_225 at hF
  obtain ⟨x1, ex1, hF⟩ := gb_ltE hF
  refine gb_iinc (v := x1) (L' := [some (.ref v0), some (.int v1), some (.int v2), some (.long v3), none, some (.long v5), none, some (.int v7), some (.int x1), none, none, none, none, none, none, none]) dX11_notes_225 rfl (by rw [ex1]; rfl) (by decide) rfl rfl ?_
  refine gb_goto (tgt := 81) dX11_notes_228 (by decide) ?_
  exact gb_wk (hk81 v0 v1 v2 v3 v5 v7 x1 h r hF) (And.intro rfl (And.intro rfl (And.intro rfl (And.intro rfl (And.intro rfl (And.intro rfl (And.intro rfl trivial)))))))
def fbX11_notes_218 (k81 : Nat → Int32 → Int32 → Int64 → Int64 → Int32 → Int32 → gb_H → Option (Int64 × gb_H)) (v0 : Nat) (v1 : Int32) (v2 : Int32) (v3 : Int64) (v8 : Int32) (v9 : Int64) (h : gb_H) : Option (Int64 × gb_H) :=
  fbX11_notes_225 k81 v0 v1 v2 v3 v9 (1 : Int32) v8 h
theorem fbX11_notes_218_ok {X : gb_X} {k81 : Nat → Int32 → Int32 → Int64 → Int64 → Int32 → Int32 → gb_H → Option (Int64 × gb_H)} (hk81 : ∀ v0 v1 v2 v3 v5 v7 v8 h r, k81 v0 v1 v2 v3 v5 v7 v8 h = some r → gb_Ev X 3 mX11_notes 81 [some (.ref v0), some (.int v1), some (.int v2), some (.long v3), none, some (.long v5), none, some (.int v7), some (.int v8), none, none, none, none, none, none, none] [] h (gb_wJ r)) (v0 : Nat) (v1 : Int32) (v2 : Int32) (v3 : Int64) (v8 : Int32) (v9 : Int64) (h : gb_H) (r : Int64 × gb_H) (hF : fbX11_notes_218 k81 v0 v1 v2 v3 v8 v9 h = some r) : gb_Ev X 3 mX11_notes 218 [some (.ref v0), some (.int v1), some (.int v2), some (.long v3), none, none, none, none, some (.int v8), some (.long v9), none, none, none, none, none, none] [] h (gb_wJ r) := by
  unfold fbX11_notes_218 at hF
  refine gb_lload dX11_notes_218 rfl ?_
  refine gb_lstore (L' := [some (.ref v0), some (.int v1), some (.int v2), some (.long v3), none, some (.long v9), none, none, some (.int v8), some (.long v9), none, none, none, none, none, none]) dX11_notes_220 (by decide) rfl rfl ?_
  refine gb_iconst (v := (1 : Int32)) dX11_notes_222 (by decide) ?_
  refine gb_istore (L' := [some (.ref v0), some (.int v1), some (.int v2), some (.long v3), none, some (.long v9), none, some (.int (1 : Int32)), some (.int v8), some (.long v9), none, none, none, none, none, none]) dX11_notes_223 (by decide) rfl rfl ?_
  exact gb_wk (fbX11_notes_225_ok hk81 v0 v1 v2 v3 v9 (1 : Int32) v8 h r hF) (And.intro rfl (And.intro rfl (And.intro rfl (And.intro rfl (And.intro rfl (And.intro rfl (And.intro rfl trivial)))))))
def fbX11_notes_97 (k81 : Nat → Int32 → Int32 → Int64 → Int64 → Int32 → Int32 → gb_H → Option (Int64 × gb_H)) (k97 : Nat → Int32 → Int32 → Int64 → Int64 → Int32 → Int32 → Int64 → Int32 → Int32 → gb_H → Option (Int64 × gb_H)) (v0 : Nat) (v1 : Int32) (v2 : Int32) (v3 : Int64) (v5 : Int64) (v7 : Int32) (v8 : Int32) (v9 : Int64) (v11 : Int32) (v12 : Int32) (h : gb_H) : Option (Int64 × gb_H) :=
  if (4 : Int32) ≤ v12 then
    gb_gd (gb_nz (2 : Int32)) <|
    if (v11 - v11 / (2 : Int32) * (2 : Int32)) = 0 then
      fbX11_notes_225 k81 v0 v1 v2 v3 v5 v7 v8 h
    else
      if v7 = 0 then
        fbX11_notes_218 k81 v0 v1 v2 v3 v8 v9 h
      else
        if v5 < v9 then
          fbX11_notes_218 k81 v0 v1 v2 v3 v8 v9 h
        else
          fbX11_notes_225 k81 v0 v1 v2 v3 v5 v7 v8 h
  else
    gb_gd (gb_k h v0 11) <|
    gb_bd (fnX11_pairsOf v0 v12 v1 (1 : Int32) h) fun x7 h8 =>
    gb_gd (gb_k h8 v0 11) <|
    gb_bd (fnX11_pairsOf v0 v12 v1 (0 : Int32) h8) fun x10 h11 =>
    if ((v8 >>> (v12 &&& 31)) &&& (1 : Int32)) = (1 : Int32) then
      fbX11_notes_139 k81 k97 v0 v1 v2 v3 v5 v7 v8 v9 v11 v12 x7 x10 (1 : Int32) h11
    else
      fbX11_notes_139 k81 k97 v0 v1 v2 v3 v5 v7 v8 v9 v11 v12 x7 x10 (0 : Int32) h11
theorem fbX11_notes_97_ok {X : gb_X} {k81 : Nat → Int32 → Int32 → Int64 → Int64 → Int32 → Int32 → gb_H → Option (Int64 × gb_H)} {k97 : Nat → Int32 → Int32 → Int64 → Int64 → Int32 → Int32 → Int64 → Int32 → Int32 → gb_H → Option (Int64 × gb_H)} (hk81 : ∀ v0 v1 v2 v3 v5 v7 v8 h r, k81 v0 v1 v2 v3 v5 v7 v8 h = some r → gb_Ev X 3 mX11_notes 81 [some (.ref v0), some (.int v1), some (.int v2), some (.long v3), none, some (.long v5), none, some (.int v7), some (.int v8), none, none, none, none, none, none, none] [] h (gb_wJ r)) (hk97 : ∀ v0 v1 v2 v3 v5 v7 v8 v9 v11 v12 h r, k97 v0 v1 v2 v3 v5 v7 v8 v9 v11 v12 h = some r → gb_Ev X 3 mX11_notes 97 [some (.ref v0), some (.int v1), some (.int v2), some (.long v3), none, some (.long v5), none, some (.int v7), some (.int v8), some (.long v9), none, some (.int v11), some (.int v12), none, none, none] [] h (gb_wJ r)) (v0 : Nat) (v1 : Int32) (v2 : Int32) (v3 : Int64) (v5 : Int64) (v7 : Int32) (v8 : Int32) (v9 : Int64) (v11 : Int32) (v12 : Int32) (h : gb_H) (r : Int64 × gb_H) (hF : fbX11_notes_97 k81 k97 v0 v1 v2 v3 v5 v7 v8 v9 v11 v12 h = some r) : gb_Ev X 3 mX11_notes 97 [some (.ref v0), some (.int v1), some (.int v2), some (.long v3), none, some (.long v5), none, some (.int v7), some (.int v8), some (.long v9), none, some (.int v11), some (.int v12), none, none, none] [] h (gb_wJ r) := by
  unfold fbX11_notes_97 at hF
  refine gb_iload dX11_notes_97 rfl ?_
  refine gb_iconst (v := (4 : Int32)) dX11_notes_99 (by decide) ?_
  refine gb_icmp_ge (tgt := 195) dX11_notes_100 (by decide) (fun c1 => ?_) (fun c1 => ?_)
  · replace hF := gb_ifT c1 hF
    refine gb_iload dX11_notes_195 rfl ?_
    refine gb_iconst (v := (2 : Int32)) dX11_notes_197 (by decide) ?_
    obtain ⟨g2, hF⟩ := gb_gdE hF
    refine gb_irem dX11_notes_198 (gb_nzE g2) ?_
    refine gb_if_eq (tgt := 225) dX11_notes_199 (by decide) (fun c3 => ?_) (fun c3 => ?_)
    · replace hF := gb_ifT c3 hF
      exact gb_wk (fbX11_notes_225_ok hk81 v0 v1 v2 v3 v5 v7 v8 h r hF) (And.intro rfl (And.intro rfl (And.intro rfl (And.intro rfl (And.intro rfl (And.intro rfl (And.intro rfl trivial)))))))
    · replace hF := gb_ifF c3 hF
      refine gb_iload dX11_notes_202 rfl ?_
      refine gb_if_eq (tgt := 218) dX11_notes_204 (by decide) (fun c4 => ?_) (fun c4 => ?_)
      · replace hF := gb_ifT c4 hF
        exact gb_wk (fbX11_notes_218_ok hk81 v0 v1 v2 v3 v8 v9 h r hF) (And.intro rfl (And.intro rfl (And.intro rfl (And.intro rfl (And.intro rfl (And.intro rfl trivial))))))
      · replace hF := gb_ifF c4 hF
        refine gb_lload dX11_notes_207 rfl ?_
        refine gb_lload dX11_notes_209 rfl ?_
        refine gb_lc_gt (tgt := 218) dX11_notes_211 dX11_notes_212 (by decide) (fun c5 => ?_) (fun c5 => ?_)
        · replace hF := gb_ifT c5 hF
          exact gb_wk (fbX11_notes_218_ok hk81 v0 v1 v2 v3 v8 v9 h r hF) (And.intro rfl (And.intro rfl (And.intro rfl (And.intro rfl (And.intro rfl (And.intro rfl trivial))))))
        · replace hF := gb_ifF c5 hF
          refine gb_goto (tgt := 225) dX11_notes_215 (by decide) ?_
          exact gb_wk (fbX11_notes_225_ok hk81 v0 v1 v2 v3 v5 v7 v8 h r hF) (And.intro rfl (And.intro rfl (And.intro rfl (And.intro rfl (And.intro rfl (And.intro rfl (And.intro rfl trivial)))))))
  · replace hF := gb_ifF c1 hF
    refine gb_aload_n dX11_notes_103 rfl rfl ?_
    refine gb_iload dX11_notes_104 rfl ?_
    refine gb_iload_n dX11_notes_106 rfl rfl ?_
    refine gb_iconst (v := (1 : Int32)) dX11_notes_107 (by decide) ?_
    obtain ⟨g6, hF⟩ := gb_gdE hF
    obtain ⟨x7, h8, cx7, hF⟩ := gb_bdE hF
    refine gb_cV (As := [.int v12, .int v1, .int (1 : Int32)]) (S := []) (v := some (.int x7)) (h1 := h8) (S2 := [.int x7]) cf11 dX11_notes_108 mtX11_pairsOf lX11_365 inX11_pairsOf seX11_pairsOf (gb_kE g6) (fnX11_pairsOf_ok _ _ cx7) (by decide) rfl (Nat.le_of_ble_eq_true rfl) (Nat.le_of_ble_eq_true rfl) rfl rfl ?_
    refine gb_istore (L' := [some (.ref v0), some (.int v1), some (.int v2), some (.long v3), none, some (.long v5), none, some (.int v7), some (.int v8), some (.long v9), none, some (.int v11), some (.int v12), some (.int x7), none, none]) dX11_notes_111 (by decide) rfl rfl ?_
    refine gb_aload_n dX11_notes_113 rfl rfl ?_
    refine gb_iload dX11_notes_114 rfl ?_
    refine gb_iload_n dX11_notes_116 rfl rfl ?_
    refine gb_iconst (v := (0 : Int32)) dX11_notes_117 (by decide) ?_
    obtain ⟨g9, hF⟩ := gb_gdE hF
    obtain ⟨x10, h11, cx10, hF⟩ := gb_bdE hF
    refine gb_cV (As := [.int v12, .int v1, .int (0 : Int32)]) (S := []) (v := some (.int x10)) (h1 := h11) (S2 := [.int x10]) cf11 dX11_notes_118 mtX11_pairsOf lX11_365 inX11_pairsOf seX11_pairsOf (gb_kE g9) (fnX11_pairsOf_ok _ _ cx10) (by decide) rfl (Nat.le_of_ble_eq_true rfl) (Nat.le_of_ble_eq_true rfl) rfl rfl ?_
    refine gb_istore (L' := [some (.ref v0), some (.int v1), some (.int v2), some (.long v3), none, some (.long v5), none, some (.int v7), some (.int v8), some (.long v9), none, some (.int v11), some (.int v12), some (.int x7), some (.int x10), none]) dX11_notes_121 (by decide) rfl rfl ?_
    refine gb_iload dX11_notes_123 rfl ?_
    refine gb_iload dX11_notes_125 rfl ?_
    refine gb_ishr dX11_notes_127 ?_
    refine gb_iconst (v := (1 : Int32)) dX11_notes_128 (by decide) ?_
    refine gb_iand dX11_notes_129 ?_
    refine gb_iconst (v := (1 : Int32)) dX11_notes_130 (by decide) ?_
    refine gb_icmp_ne (tgt := 138) dX11_notes_131 (by decide) (fun c12 => ?_) (fun c12 => ?_)
    · replace hF := gb_ifF c12 hF
      refine gb_iconst (v := (0 : Int32)) dX11_notes_138 (by decide) ?_
      exact gb_wk (fbX11_notes_139_ok hk81 hk97 v0 v1 v2 v3 v5 v7 v8 v9 v11 v12 x7 x10 (0 : Int32) h11 r hF) (And.intro rfl (And.intro rfl (And.intro rfl (And.intro rfl (And.intro rfl (And.intro rfl (And.intro rfl (And.intro rfl (And.intro rfl (And.intro rfl (And.intro rfl (And.intro rfl trivial))))))))))))
    · replace hF := gb_ifT c12 hF
      refine gb_iconst (v := (1 : Int32)) dX11_notes_134 (by decide) ?_
      refine gb_goto (tgt := 139) dX11_notes_135 (by decide) ?_
      exact gb_wk (fbX11_notes_139_ok hk81 hk97 v0 v1 v2 v3 v5 v7 v8 v9 v11 v12 x7 x10 (1 : Int32) h11 r hF) (And.intro rfl (And.intro rfl (And.intro rfl (And.intro rfl (And.intro rfl (And.intro rfl (And.intro rfl (And.intro rfl (And.intro rfl (And.intro rfl (And.intro rfl (And.intro rfl trivial))))))))))))
def lpX11_notes_97 (k81 : Nat → Int32 → Int32 → Int64 → Int64 → Int32 → Int32 → gb_H → Option (Int64 × gb_H)) (n : Nat) (v0 : Nat) (v1 : Int32) (v2 : Int32) (v3 : Int64) (v5 : Int64) (v7 : Int32) (v8 : Int32) (v9 : Int64) (v11 : Int32) (v12 : Int32) (h : gb_H) : Option (Int64 × gb_H) := gb_lp (σ := Nat × Int32 × Int32 × Int64 × Int64 × Int32 × Int32 × Int64 × Int32 × Int32 × gb_H) (fun k s => fbX11_notes_97 k81 (fun v0 v1 v2 v3 v5 v7 v8 v9 v11 v12 h => k (v0, v1, v2, v3, v5, v7, v8, v9, v11, v12, h)) s.1 s.2.1 s.2.2.1 s.2.2.2.1 s.2.2.2.2.1 s.2.2.2.2.2.1 s.2.2.2.2.2.2.1 s.2.2.2.2.2.2.2.1 s.2.2.2.2.2.2.2.2.1 s.2.2.2.2.2.2.2.2.2.1 s.2.2.2.2.2.2.2.2.2.2) n (v0, v1, v2, v3, v5, v7, v8, v9, v11, v12, h)
theorem lpX11_notes_97_ok {X : gb_X}  {k81 : Nat → Int32 → Int32 → Int64 → Int64 → Int32 → Int32 → gb_H → Option (Int64 × gb_H)} (hk81 : ∀ v0 v1 v2 v3 v5 v7 v8 h r, k81 v0 v1 v2 v3 v5 v7 v8 h = some r → gb_Ev X 3 mX11_notes 81 [some (.ref v0), some (.int v1), some (.int v2), some (.long v3), none, some (.long v5), none, some (.int v7), some (.int v8), none, none, none, none, none, none, none] [] h (gb_wJ r)) (n : Nat) (v0 : Nat) (v1 : Int32) (v2 : Int32) (v3 : Int64) (v5 : Int64) (v7 : Int32) (v8 : Int32) (v9 : Int64) (v11 : Int32) (v12 : Int32) (h : gb_H) (r : Int64 × gb_H) (hF : lpX11_notes_97 k81 n v0 v1 v2 v3 v5 v7 v8 v9 v11 v12 h = some r) : gb_Ev X 3 mX11_notes 97 [some (.ref v0), some (.int v1), some (.int v2), some (.long v3), none, some (.long v5), none, some (.int v7), some (.int v8), some (.long v9), none, some (.int v11), some (.int v12), none, none, none] [] h (gb_wJ r) := by
  exact gb_lpE (σ := Nat × Int32 × Int32 × Int64 × Int64 × Int32 × Int32 × Int64 × Int32 × Int32 × gb_H) (P := fun s r => gb_Ev X 3 mX11_notes 97 [some (.ref s.1), some (.int s.2.1), some (.int s.2.2.1), some (.long s.2.2.2.1), none, some (.long s.2.2.2.2.1), none, some (.int s.2.2.2.2.2.1), some (.int s.2.2.2.2.2.2.1), some (.long s.2.2.2.2.2.2.2.1), none, some (.int s.2.2.2.2.2.2.2.2.1), some (.int s.2.2.2.2.2.2.2.2.2.1), none, none, none] [] s.2.2.2.2.2.2.2.2.2.2 (gb_wJ r)) (fun k hk s r hs => fbX11_notes_97_ok hk81 (fun v0 v1 v2 v3 v5 v7 v8 v9 v11 v12 h r e => hk (v0, v1, v2, v3, v5, v7, v8, v9, v11, v12, h) r e) _ _ _ _ _ _ _ _ _ _ _ r hs) n (v0, v1, v2, v3, v5, v7, v8, v9, v11, v12, h) r hF
def fbX11_notes_279 (s0 : Int64) (h : gb_H) : Option (Int64 × gb_H) :=
  some (s0, h)
theorem fbX11_notes_279_ok {X : gb_X} (s0 : Int64) (h : gb_H) (r : Int64 × gb_H) (hF : fbX11_notes_279 s0 h = some r) : gb_Ev X 3 mX11_notes 279 [none, none, none, none, none, none, none, none, none, none, none, none, none, none, none, none] [.long s0] h (gb_wJ r) := by
  unfold fbX11_notes_279 at hF
  cases hF
  exact gb_lret dX11_notes_279 rfl
def fbX11_notes_81 (k81 : Nat → Int32 → Int32 → Int64 → Int64 → Int32 → Int32 → gb_H → Option (Int64 × gb_H)) (v0 : Nat) (v1 : Int32) (v2 : Int32) (v3 : Int64) (v5 : Int64) (v7 : Int32) (v8 : Int32) (h : gb_H) : Option (Int64 × gb_H) :=
  if (16 : Int32) ≤ v8 then
    gb_bd (fnX11_divisor v5 v3 h) fun x2 h3 =>
    if v2 = 0 then
      gb_gd (gb_nzL x2) <|
      fbX11_notes_279 (v5 / x2) h3
    else
      if v2 = (1 : Int32) then
        gb_gd (gb_nzL x2) <|
        fbX11_notes_279 (v3 / x2) h3
      else
        if v5 ≤ ((2 : Int64) * v3) then
          fbX11_notes_279 (0 : Int64) h3
        else
          fbX11_notes_279 (1 : Int64) h3
  else
    lpX11_notes_97 k81 gb_FU v0 v1 v2 v3 v5 v7 v8 (0 : Int64) (0 : Int32) (0 : Int32) h
theorem fbX11_notes_81_ok {X : gb_X} {k81 : Nat → Int32 → Int32 → Int64 → Int64 → Int32 → Int32 → gb_H → Option (Int64 × gb_H)} (hk81 : ∀ v0 v1 v2 v3 v5 v7 v8 h r, k81 v0 v1 v2 v3 v5 v7 v8 h = some r → gb_Ev X 3 mX11_notes 81 [some (.ref v0), some (.int v1), some (.int v2), some (.long v3), none, some (.long v5), none, some (.int v7), some (.int v8), none, none, none, none, none, none, none] [] h (gb_wJ r)) (v0 : Nat) (v1 : Int32) (v2 : Int32) (v3 : Int64) (v5 : Int64) (v7 : Int32) (v8 : Int32) (h : gb_H) (r : Int64 × gb_H) (hF : fbX11_notes_81 k81 v0 v1 v2 v3 v5 v7 v8 h = some r) : gb_Ev X 3 mX11_notes 81 [some (.ref v0), some (.int v1), some (.int v2), some (.long v3), none, some (.long v5), none, some (.int v7), some (.int v8), none, none, none, none, none, none, none] [] h (gb_wJ r) := by
  unfold fbX11_notes_81 at hF
  refine gb_iload dX11_notes_81 rfl ?_
  refine gb_bipush (v := (16 : Int32)) dX11_notes_83 (by decide) ?_
  refine gb_icmp_ge (tgt := 231) dX11_notes_85 (by decide) (fun c1 => ?_) (fun c1 => ?_)
  · replace hF := gb_ifT c1 hF
    refine gb_lload dX11_notes_231 rfl ?_
    refine gb_lload_n dX11_notes_233 rfl rfl ?_
    obtain ⟨x2, h3, cx2, hF⟩ := gb_bdE hF
    refine gb_cS (As := [.long v5, .long v3]) (S := []) (v := some (.long x2)) (h1 := h3) (S2 := [.long x2]) dX11_notes_234 mtX11_divisor lX11_307 stX11_divisor (fnX11_divisor_ok _ _ cx2) (by decide) rfl (Nat.le_of_ble_eq_true rfl) (Nat.le_of_ble_eq_true rfl) rfl rfl ?_
    refine gb_lstore (L' := [some (.ref v0), some (.int v1), some (.int v2), some (.long v3), none, some (.long v5), none, some (.int v7), some (.long x2), none, none, none, none, none, none, none]) dX11_notes_237 (by decide) rfl rfl ?_
    refine gb_iload_n dX11_notes_239 rfl rfl ?_
    refine gb_if_ne (tgt := 251) dX11_notes_240 (by decide) (fun c4 => ?_) (fun c4 => ?_)
    · replace hF := gb_ifF c4 hF
      refine gb_iload_n dX11_notes_251 rfl rfl ?_
      refine gb_iconst (v := (1 : Int32)) dX11_notes_252 (by decide) ?_
      refine gb_icmp_ne (tgt := 263) dX11_notes_253 (by decide) (fun c6 => ?_) (fun c6 => ?_)
      · replace hF := gb_ifF c6 hF
        refine gb_lload dX11_notes_263 rfl ?_
        refine gb_ldc2 (v := (2 : Int64)) dX11_notes_265 kX11_247 ?_
        refine gb_lload_n dX11_notes_268 rfl rfl ?_
        refine gb_lmul dX11_notes_269 ?_
        refine gb_lc_le (tgt := 278) dX11_notes_270 dX11_notes_271 (by decide) (fun c8 => ?_) (fun c8 => ?_)
        · replace hF := gb_ifT c8 hF
          refine gb_lconst (v := (0 : Int64)) dX11_notes_278 (by decide) ?_
          exact gb_wk (fbX11_notes_279_ok (0 : Int64) h3 r hF) trivial
        · replace hF := gb_ifF c8 hF
          refine gb_lconst (v := (1 : Int64)) dX11_notes_274 (by decide) ?_
          refine gb_goto (tgt := 279) dX11_notes_275 (by decide) ?_
          exact gb_wk (fbX11_notes_279_ok (1 : Int64) h3 r hF) trivial
      · replace hF := gb_ifT c6 hF
        refine gb_lload_n dX11_notes_256 rfl rfl ?_
        refine gb_lload dX11_notes_257 rfl ?_
        obtain ⟨g7, hF⟩ := gb_gdE hF
        refine gb_ldiv dX11_notes_259 (gb_nzLE g7) ?_
        refine gb_goto (tgt := 279) dX11_notes_260 (by decide) ?_
        exact gb_wk (fbX11_notes_279_ok (v3 / x2) h3 r hF) trivial
    · replace hF := gb_ifT c4 hF
      refine gb_lload dX11_notes_243 rfl ?_
      refine gb_lload dX11_notes_245 rfl ?_
      obtain ⟨g5, hF⟩ := gb_gdE hF
      refine gb_ldiv dX11_notes_247 (gb_nzLE g5) ?_
      refine gb_goto (tgt := 279) dX11_notes_248 (by decide) ?_
      exact gb_wk (fbX11_notes_279_ok (v5 / x2) h3 r hF) trivial
  · replace hF := gb_ifF c1 hF
    refine gb_lconst (v := (0 : Int64)) dX11_notes_88 (by decide) ?_
    refine gb_lstore (L' := [some (.ref v0), some (.int v1), some (.int v2), some (.long v3), none, some (.long v5), none, some (.int v7), some (.int v8), some (.long (0 : Int64)), none, none, none, none, none, none]) dX11_notes_89 (by decide) rfl rfl ?_
    refine gb_iconst (v := (0 : Int32)) dX11_notes_91 (by decide) ?_
    refine gb_istore (L' := [some (.ref v0), some (.int v1), some (.int v2), some (.long v3), none, some (.long v5), none, some (.int v7), some (.int v8), some (.long (0 : Int64)), none, some (.int (0 : Int32)), none, none, none, none]) dX11_notes_92 (by decide) rfl rfl ?_
    refine gb_iconst (v := (0 : Int32)) dX11_notes_94 (by decide) ?_
    refine gb_istore (L' := [some (.ref v0), some (.int v1), some (.int v2), some (.long v3), none, some (.long v5), none, some (.int v7), some (.int v8), some (.long (0 : Int64)), none, some (.int (0 : Int32)), some (.int (0 : Int32)), none, none, none]) dX11_notes_95 (by decide) rfl rfl ?_
    exact gb_wk (lpX11_notes_97_ok hk81 gb_FU v0 v1 v2 v3 v5 v7 v8 (0 : Int64) (0 : Int32) (0 : Int32) h r hF) (And.intro rfl (And.intro rfl (And.intro rfl (And.intro rfl (And.intro rfl (And.intro rfl (And.intro rfl (And.intro rfl (And.intro rfl (And.intro rfl trivial))))))))))
def lpX11_notes_81 (n : Nat) (v0 : Nat) (v1 : Int32) (v2 : Int32) (v3 : Int64) (v5 : Int64) (v7 : Int32) (v8 : Int32) (h : gb_H) : Option (Int64 × gb_H) := gb_lp (σ := Nat × Int32 × Int32 × Int64 × Int64 × Int32 × Int32 × gb_H) (fun k s => fbX11_notes_81 (fun v0 v1 v2 v3 v5 v7 v8 h => k (v0, v1, v2, v3, v5, v7, v8, h)) s.1 s.2.1 s.2.2.1 s.2.2.2.1 s.2.2.2.2.1 s.2.2.2.2.2.1 s.2.2.2.2.2.2.1 s.2.2.2.2.2.2.2) n (v0, v1, v2, v3, v5, v7, v8, h)
theorem lpX11_notes_81_ok {X : gb_X}  (n : Nat) (v0 : Nat) (v1 : Int32) (v2 : Int32) (v3 : Int64) (v5 : Int64) (v7 : Int32) (v8 : Int32) (h : gb_H) (r : Int64 × gb_H) (hF : lpX11_notes_81 n v0 v1 v2 v3 v5 v7 v8 h = some r) : gb_Ev X 3 mX11_notes 81 [some (.ref v0), some (.int v1), some (.int v2), some (.long v3), none, some (.long v5), none, some (.int v7), some (.int v8), none, none, none, none, none, none, none] [] h (gb_wJ r) := by
  exact gb_lpE (σ := Nat × Int32 × Int32 × Int64 × Int64 × Int32 × Int32 × gb_H) (P := fun s r => gb_Ev X 3 mX11_notes 81 [some (.ref s.1), some (.int s.2.1), some (.int s.2.2.1), some (.long s.2.2.2.1), none, some (.long s.2.2.2.2.1), none, some (.int s.2.2.2.2.2.1), some (.int s.2.2.2.2.2.2.1), none, none, none, none, none, none, none] [] s.2.2.2.2.2.2.2 (gb_wJ r)) (fun k hk s r hs => fbX11_notes_81_ok (fun v0 v1 v2 v3 v5 v7 v8 h r e => hk (v0, v1, v2, v3, v5, v7, v8, h) r e) _ _ _ _ _ _ _ _ r hs) n (v0, v1, v2, v3, v5, v7, v8, h) r hF
def fbX11_notes_29 (k29 : Nat → Int32 → Int32 → Int64 → Int32 → gb_H → Option (Int64 × gb_H)) (v0 : Nat) (v1 : Int32) (v2 : Int32) (v3 : Int64) (v5 : Int32) (h : gb_H) : Option (Int64 × gb_H) :=
  if (4 : Int32) ≤ v5 then
    if v3 = (0 : Int64) then
      some ((-2000000000 : Int64), h)
    else
      lpX11_notes_81 gb_FU v0 v1 v2 v3 (0 : Int64) (0 : Int32) (0 : Int32) h
  else
    gb_gd (gb_k h v0 11) <|
    gb_bd (fnX11_pairsOf v0 v5 v1 (1 : Int32) h) fun x4 h5 =>
    gb_gd (gb_k h5 v0 11) <|
    gb_bd (fnX11_pairsOf v0 v5 v1 (0 : Int32) h5) fun x7 h8 =>
    gb_lt (v3 * ((x4 + x7).toInt64)) fun x9 =>
    gb_lt (v5 + (1 : Int32)) fun x10 =>
    k29 v0 v1 v2 x9 x10 h8
theorem fbX11_notes_29_ok {X : gb_X} {k29 : Nat → Int32 → Int32 → Int64 → Int32 → gb_H → Option (Int64 × gb_H)} (hk29 : ∀ v0 v1 v2 v3 v5 h r, k29 v0 v1 v2 v3 v5 h = some r → gb_Ev X 3 mX11_notes 29 [some (.ref v0), some (.int v1), some (.int v2), some (.long v3), none, some (.int v5), none, none, none, none, none, none, none, none, none, none] [] h (gb_wJ r)) (v0 : Nat) (v1 : Int32) (v2 : Int32) (v3 : Int64) (v5 : Int32) (h : gb_H) (r : Int64 × gb_H) (hF : fbX11_notes_29 k29 v0 v1 v2 v3 v5 h = some r) : gb_Ev X 3 mX11_notes 29 [some (.ref v0), some (.int v1), some (.int v2), some (.long v3), none, some (.int v5), none, none, none, none, none, none, none, none, none, none] [] h (gb_wJ r) := by
  unfold fbX11_notes_29 at hF
  refine gb_iload dX11_notes_29 rfl ?_
  refine gb_iconst (v := (4 : Int32)) dX11_notes_31 (by decide) ?_
  refine gb_icmp_ge (tgt := 62) dX11_notes_32 (by decide) (fun c1 => ?_) (fun c1 => ?_)
  · replace hF := gb_ifT c1 hF
    refine gb_lload_n dX11_notes_62 rfl rfl ?_
    refine gb_lconst (v := (0 : Int64)) dX11_notes_63 (by decide) ?_
    refine gb_lc_ne (tgt := 72) dX11_notes_64 dX11_notes_65 (by decide) (fun c2 => ?_) (fun c2 => ?_)
    · replace hF := gb_ifF c2 hF
      refine gb_lconst (v := (0 : Int64)) dX11_notes_72 (by decide) ?_
      refine gb_lstore (L' := [some (.ref v0), some (.int v1), some (.int v2), some (.long v3), none, some (.long (0 : Int64)), none, none, none, none, none, none, none, none, none, none]) dX11_notes_73 (by decide) rfl rfl ?_
      refine gb_iconst (v := (0 : Int32)) dX11_notes_75 (by decide) ?_
      refine gb_istore (L' := [some (.ref v0), some (.int v1), some (.int v2), some (.long v3), none, some (.long (0 : Int64)), none, some (.int (0 : Int32)), none, none, none, none, none, none, none, none]) dX11_notes_76 (by decide) rfl rfl ?_
      refine gb_iconst (v := (0 : Int32)) dX11_notes_78 (by decide) ?_
      refine gb_istore (L' := [some (.ref v0), some (.int v1), some (.int v2), some (.long v3), none, some (.long (0 : Int64)), none, some (.int (0 : Int32)), some (.int (0 : Int32)), none, none, none, none, none, none, none]) dX11_notes_79 (by decide) rfl rfl ?_
      exact gb_wk (lpX11_notes_81_ok gb_FU v0 v1 v2 v3 (0 : Int64) (0 : Int32) (0 : Int32) h r hF) (And.intro rfl (And.intro rfl (And.intro rfl (And.intro rfl (And.intro rfl (And.intro rfl (And.intro rfl trivial)))))))
    · replace hF := gb_ifT c2 hF
      refine gb_ldc2 (v := (-2000000000 : Int64)) dX11_notes_68 kX11_368 ?_
      cases hF
      exact gb_lret dX11_notes_71 rfl
  · replace hF := gb_ifF c1 hF
    refine gb_lload_n dX11_notes_35 rfl rfl ?_
    refine gb_aload_n dX11_notes_36 rfl rfl ?_
    refine gb_iload dX11_notes_37 rfl ?_
    refine gb_iload_n dX11_notes_39 rfl rfl ?_
    refine gb_iconst (v := (1 : Int32)) dX11_notes_40 (by decide) ?_
    obtain ⟨g3, hF⟩ := gb_gdE hF
    obtain ⟨x4, h5, cx4, hF⟩ := gb_bdE hF
    refine gb_cV (As := [.int v5, .int v1, .int (1 : Int32)]) (S := [.long v3]) (v := some (.int x4)) (h1 := h5) (S2 := [.int x4, .long v3]) cf11 dX11_notes_41 mtX11_pairsOf lX11_365 inX11_pairsOf seX11_pairsOf (gb_kE g3) (fnX11_pairsOf_ok _ _ cx4) (by decide) rfl (Nat.le_of_ble_eq_true rfl) (Nat.le_of_ble_eq_true rfl) rfl rfl ?_
    refine gb_aload_n dX11_notes_44 rfl rfl ?_
    refine gb_iload dX11_notes_45 rfl ?_
    refine gb_iload_n dX11_notes_47 rfl rfl ?_
    refine gb_iconst (v := (0 : Int32)) dX11_notes_48 (by decide) ?_
    obtain ⟨g6, hF⟩ := gb_gdE hF
    obtain ⟨x7, h8, cx7, hF⟩ := gb_bdE hF
    refine gb_cV (As := [.int v5, .int v1, .int (0 : Int32)]) (S := [.int x4, .long v3]) (v := some (.int x7)) (h1 := h8) (S2 := [.int x7, .int x4, .long v3]) cf11 dX11_notes_49 mtX11_pairsOf lX11_365 inX11_pairsOf seX11_pairsOf (gb_kE g6) (fnX11_pairsOf_ok _ _ cx7) (by decide) rfl (Nat.le_of_ble_eq_true rfl) (Nat.le_of_ble_eq_true rfl) rfl rfl ?_
    refine gb_iadd dX11_notes_52 ?_
    refine gb_i2l dX11_notes_53 ?_
    refine gb_lmul dX11_notes_54 ?_
    obtain ⟨x9, ex9, hF⟩ := gb_ltE hF
    refine gb_topJ ex9 ?_
    refine gb_lstore_n (L' := [some (.ref v0), some (.int v1), some (.int v2), some (.long x9), none, some (.int v5), none, none, none, none, none, none, none, none, none, none]) dX11_notes_55 rfl (by decide) rfl rfl ?_
    obtain ⟨x10, ex10, hF⟩ := gb_ltE hF
    refine gb_iinc (v := x10) (L' := [some (.ref v0), some (.int v1), some (.int v2), some (.long x9), none, some (.int x10), none, none, none, none, none, none, none, none, none, none]) dX11_notes_56 rfl (by rw [ex10]; rfl) (by decide) rfl rfl ?_
    refine gb_goto (tgt := 29) dX11_notes_59 (by decide) ?_
    exact gb_wk (hk29 v0 v1 v2 x9 x10 h8 r hF) (And.intro rfl (And.intro rfl (And.intro rfl (And.intro rfl (And.intro rfl trivial)))))
def lpX11_notes_29 (n : Nat) (v0 : Nat) (v1 : Int32) (v2 : Int32) (v3 : Int64) (v5 : Int32) (h : gb_H) : Option (Int64 × gb_H) := gb_lp (σ := Nat × Int32 × Int32 × Int64 × Int32 × gb_H) (fun k s => fbX11_notes_29 (fun v0 v1 v2 v3 v5 h => k (v0, v1, v2, v3, v5, h)) s.1 s.2.1 s.2.2.1 s.2.2.2.1 s.2.2.2.2.1 s.2.2.2.2.2) n (v0, v1, v2, v3, v5, h)
theorem lpX11_notes_29_ok {X : gb_X}  (n : Nat) (v0 : Nat) (v1 : Int32) (v2 : Int32) (v3 : Int64) (v5 : Int32) (h : gb_H) (r : Int64 × gb_H) (hF : lpX11_notes_29 n v0 v1 v2 v3 v5 h = some r) : gb_Ev X 3 mX11_notes 29 [some (.ref v0), some (.int v1), some (.int v2), some (.long v3), none, some (.int v5), none, none, none, none, none, none, none, none, none, none] [] h (gb_wJ r) := by
  exact gb_lpE (σ := Nat × Int32 × Int32 × Int64 × Int32 × gb_H) (P := fun s r => gb_Ev X 3 mX11_notes 29 [some (.ref s.1), some (.int s.2.1), some (.int s.2.2.1), some (.long s.2.2.2.1), none, some (.int s.2.2.2.2.1), none, none, none, none, none, none, none, none, none, none] [] s.2.2.2.2.2 (gb_wJ r)) (fun k hk s r hs => fbX11_notes_29_ok (fun v0 v1 v2 v3 v5 h r e => hk (v0, v1, v2, v3, v5, h) r e) _ _ _ _ _ _ r hs) n (v0, v1, v2, v3, v5, h) r hF
def fnX11_notes (p0 : Nat) (p1 : Int32) (p2 : Int32) (h : gb_H) : Option (Int64 × gb_H) :=
  gb_bd (fnX11_in p1 (0 : Int32) (999 : Int32) h) fun x1 h2 =>
  if x1 = 0 then
    fbX11_notes_20 h2
  else
    gb_bd (fnX11_in p2 (0 : Int32) (2 : Int32) h2) fun x4 h5 =>
    if x4 = 0 then
      fbX11_notes_20 h5
    else
      lpX11_notes_29 gb_FU p0 p1 p2 (1 : Int64) (0 : Int32) h5
theorem fnX11_notes_ok {X : gb_X}  {p0 : Nat} {p1 : Int32} {p2 : Int32} (h : gb_H) (r : Int64 × gb_H) (hF : fnX11_notes p0 p1 p2 h = some r) : gb_Ev X 3 mX11_notes 0 (gb_L0 [.ref p0, .int p1, .int p2]) [] h (gb_wJ r) := by
  unfold fnX11_notes at hF
  refine gb_weak (L' := [some (.ref p0), some (.int p1), some (.int p2), none, none, none, none, none, none, none, none, none, none, none, none, none]) (And.intro rfl (And.intro rfl (And.intro rfl trivial))) ?_
  refine gb_iload_n dX11_notes_0 rfl rfl ?_
  refine gb_iconst (v := (0 : Int32)) dX11_notes_1 (by decide) ?_
  refine gb_sipush (v := (999 : Int32)) dX11_notes_2 (by decide) ?_
  obtain ⟨x1, h2, cx1, hF⟩ := gb_bdE hF
  refine gb_cS (As := [.int p1, .int (0 : Int32), .int (999 : Int32)]) (S := []) (v := some (.int x1)) (h1 := h2) (S2 := [.int x1]) dX11_notes_5 mtX11_in lX11_104 stX11_in (fnX11_in_ok _ _ cx1) (by decide) rfl (Nat.le_of_ble_eq_true rfl) (Nat.le_of_ble_eq_true rfl) rfl rfl ?_
  refine gb_if_eq (tgt := 20) dX11_notes_8 (by decide) (fun c3 => ?_) (fun c3 => ?_)
  · replace hF := gb_ifT c3 hF
    exact gb_wk (fbX11_notes_20_ok h2 r hF) trivial
  · replace hF := gb_ifF c3 hF
    refine gb_iload_n dX11_notes_11 rfl rfl ?_
    refine gb_iconst (v := (0 : Int32)) dX11_notes_12 (by decide) ?_
    refine gb_iconst (v := (2 : Int32)) dX11_notes_13 (by decide) ?_
    obtain ⟨x4, h5, cx4, hF⟩ := gb_bdE hF
    refine gb_cS (As := [.int p2, .int (0 : Int32), .int (2 : Int32)]) (S := []) (v := some (.int x4)) (h1 := h5) (S2 := [.int x4]) dX11_notes_14 mtX11_in lX11_104 stX11_in (fnX11_in_ok _ _ cx4) (by decide) rfl (Nat.le_of_ble_eq_true rfl) (Nat.le_of_ble_eq_true rfl) rfl rfl ?_
    refine gb_if_ne (tgt := 24) dX11_notes_17 (by decide) (fun c6 => ?_) (fun c6 => ?_)
    · replace hF := gb_ifF c6 hF
      refine gb_lconst (v := (1 : Int64)) dX11_notes_24 (by decide) ?_
      refine gb_lstore_n (L' := [some (.ref p0), some (.int p1), some (.int p2), some (.long (1 : Int64)), none, none, none, none, none, none, none, none, none, none, none, none]) dX11_notes_25 rfl (by decide) rfl rfl ?_
      refine gb_iconst (v := (0 : Int32)) dX11_notes_26 (by decide) ?_
      refine gb_istore (L' := [some (.ref p0), some (.int p1), some (.int p2), some (.long (1 : Int64)), none, some (.int (0 : Int32)), none, none, none, none, none, none, none, none, none, none]) dX11_notes_27 (by decide) rfl rfl ?_
      exact gb_wk (lpX11_notes_29_ok gb_FU p0 p1 p2 (1 : Int64) (0 : Int32) h5 r hF) (And.intro rfl (And.intro rfl (And.intro rfl (And.intro rfl (And.intro rfl trivial)))))
    · replace hF := gb_ifT c6 hF
      exact gb_wk (fbX11_notes_20_ok h5 r hF) trivial
def fnX11_squares (p0 : Nat) (p1 : Int64) (h : gb_H) : Option (Unit × gb_H) :=
  gb_lt (p1 >>> ((25 : Int32).toInt64 &&& 63)) fun x1 =>
  gb_lt (p1 &&& (33554431 : Int64)) fun x2 =>
  gb_lt (((2 : Int64) * x1) * x2) fun x3 =>
  gb_gd (gb_k h p0 11) <|
  gb_lt (gb_sL h p0 56 ((x2 * x2) + ((x3 &&& (33554431 : Int64)) <<< ((25 : Int32).toInt64 &&& 63)))) fun h5 =>
  gb_gd (gb_k h5 p0 11) <|
  gb_gd (gb_k h5 p0 11) <|
  gb_lt (gb_sL h5 p0 55 (((x1 * x1) + (x3 >>> ((25 : Int32).toInt64 &&& 63))) + ((gb_L h5 p0 56) >>> ((50 : Int32).toInt64 &&& 63)))) fun h8 =>
  gb_gd (gb_k h8 p0 11) <|
  gb_gd (gb_k h8 p0 11) <|
  gb_lt (gb_sL h8 p0 56 ((gb_L h8 p0 56) &&& (1125899906842623 : Int64))) fun h11 =>
  some ((), h11)
theorem fnX11_squares_ok {X : gb_X}  {p0 : Nat} {p1 : Int64} (h : gb_H) (r : Unit × gb_H) (hF : fnX11_squares p0 p1 h = some r) : gb_Ev X 1 mX11_squares 0 (gb_L0 [.ref p0, .long p1]) [] h (gb_wV r) := by
  unfold fnX11_squares at hF
  refine gb_weak (L' := [some (.ref p0), some (.long p1), none, none, none, none, none, none, none]) (And.intro rfl (And.intro rfl trivial)) ?_
  refine gb_lload_n dX11_squares_0 rfl rfl ?_
  refine gb_bipush (v := (25 : Int32)) dX11_squares_1 (by decide) ?_
  refine gb_lshr dX11_squares_3 ?_
  obtain ⟨x1, ex1, hF⟩ := gb_ltE hF
  refine gb_topJ ex1 ?_
  refine gb_lstore_n (L' := [some (.ref p0), some (.long p1), none, some (.long x1), none, none, none, none, none]) dX11_squares_4 rfl (by decide) rfl rfl ?_
  refine gb_lload_n dX11_squares_5 rfl rfl ?_
  refine gb_ldc2 (v := (33554431 : Int64)) dX11_squares_6 kX11_370 ?_
  refine gb_land dX11_squares_9 ?_
  obtain ⟨x2, ex2, hF⟩ := gb_ltE hF
  refine gb_topJ ex2 ?_
  refine gb_lstore (L' := [some (.ref p0), some (.long p1), none, some (.long x1), none, some (.long x2), none, none, none]) dX11_squares_10 (by decide) rfl rfl ?_
  refine gb_ldc2 (v := (2 : Int64)) dX11_squares_12 kX11_247 ?_
  refine gb_lload_n dX11_squares_15 rfl rfl ?_
  refine gb_lmul dX11_squares_16 ?_
  refine gb_lload dX11_squares_17 rfl ?_
  refine gb_lmul dX11_squares_19 ?_
  obtain ⟨x3, ex3, hF⟩ := gb_ltE hF
  refine gb_topJ ex3 ?_
  refine gb_lstore (L' := [some (.ref p0), some (.long p1), none, some (.long x1), none, some (.long x2), none, some (.long x3), none]) dX11_squares_20 (by decide) rfl rfl ?_
  refine gb_aload_n dX11_squares_22 rfl rfl ?_
  refine gb_lload dX11_squares_23 rfl ?_
  refine gb_lload dX11_squares_25 rfl ?_
  refine gb_lmul dX11_squares_27 ?_
  refine gb_lload dX11_squares_28 rfl ?_
  refine gb_ldc2 (v := (33554431 : Int64)) dX11_squares_30 kX11_370 ?_
  refine gb_land dX11_squares_33 ?_
  refine gb_bipush (v := (25 : Int32)) dX11_squares_34 (by decide) ?_
  refine gb_lshl dX11_squares_36 ?_
  refine gb_ladd dX11_squares_37 ?_
  obtain ⟨g4, hF⟩ := gb_gdE hF
  obtain ⟨h5, eh5, hF⟩ := gb_ltE hF
  refine gb_putL fX11_372 (gb_nff nf11_56) dX11_squares_38 (gb_kE g4) (fun _ => ⟨rfl, rfl⟩) (gb_hp eh5 ?_)
  refine gb_aload_n dX11_squares_41 rfl rfl ?_
  refine gb_lload_n dX11_squares_42 rfl rfl ?_
  refine gb_lload_n dX11_squares_43 rfl rfl ?_
  refine gb_lmul dX11_squares_44 ?_
  refine gb_lload dX11_squares_45 rfl ?_
  refine gb_bipush (v := (25 : Int32)) dX11_squares_47 (by decide) ?_
  refine gb_lshr dX11_squares_49 ?_
  refine gb_ladd dX11_squares_50 ?_
  refine gb_aload_n dX11_squares_51 rfl rfl ?_
  obtain ⟨g6, hF⟩ := gb_gdE hF
  refine gb_getL fX11_372 dX11_squares_52 (gb_kE g6) ?_
  refine gb_bipush (v := (50 : Int32)) dX11_squares_55 (by decide) ?_
  refine gb_lshr dX11_squares_57 ?_
  refine gb_ladd dX11_squares_58 ?_
  obtain ⟨g7, hF⟩ := gb_gdE hF
  obtain ⟨h8, eh8, hF⟩ := gb_ltE hF
  refine gb_putL fX11_375 (gb_nff nf11_55) dX11_squares_59 (gb_kE g7) (fun _ => ⟨rfl, rfl⟩) (gb_hp eh8 ?_)
  refine gb_aload_n dX11_squares_62 rfl rfl ?_
  refine gb_dup dX11_squares_63 rfl ?_
  obtain ⟨g9, hF⟩ := gb_gdE hF
  refine gb_getL fX11_372 dX11_squares_64 (gb_kE g9) ?_
  refine gb_ldc2 (v := (1125899906842623 : Int64)) dX11_squares_67 kX11_378 ?_
  refine gb_land dX11_squares_70 ?_
  obtain ⟨g10, hF⟩ := gb_gdE hF
  obtain ⟨h11, eh11, hF⟩ := gb_ltE hF
  refine gb_putL fX11_372 (gb_nff nf11_56) dX11_squares_71 (gb_kE g10) (fun _ => ⟨rfl, rfl⟩) (gb_hp eh11 ?_)
  cases hF
  exact gb_vret dX11_squares_74 rfl
def fbX11_isAbove_29 (s0 : Int32) (h : gb_H) : Option (Int32 × gb_H) :=
  gb_gd (gb_b s0) <|
  some (s0, h)
theorem fbX11_isAbove_29_ok {X : gb_X} (s0 : Int32) (h : gb_H) (r : Int32 × gb_H) (hF : fbX11_isAbove_29 s0 h = some r) : gb_Ev X 2 mX11_isAbove 29 [none, none, none, none, none, none, none, none, none, none, none, none, none, none] [.int s0] h (gb_wI r) := by
  unfold fbX11_isAbove_29 at hF
  obtain ⟨g1, hF⟩ := gb_gdE hF
  cases hF
  exact gb_zret dX11_isAbove_29 rfl (gb_bE g1)
def fbX11_isAbove_24 (h : gb_H) : Option (Int32 × gb_H) :=
  fbX11_isAbove_29 (1 : Int32) h
theorem fbX11_isAbove_24_ok {X : gb_X} (h : gb_H) (r : Int32 × gb_H) (hF : fbX11_isAbove_24 h = some r) : gb_Ev X 2 mX11_isAbove 24 [none, none, none, none, none, none, none, none, none, none, none, none, none, none] [] h (gb_wI r) := by
  unfold fbX11_isAbove_24 at hF
  refine gb_iconst (v := (1 : Int32)) dX11_isAbove_24 (by decide) ?_
  refine gb_goto (tgt := 29) dX11_isAbove_25 (by decide) ?_
  exact gb_wk (fbX11_isAbove_29_ok (1 : Int32) h r hF) trivial
def fbX11_isAbove_191 (s0 : Int32) (h : gb_H) : Option (Int32 × gb_H) :=
  gb_gd (gb_b s0) <|
  some (s0, h)
theorem fbX11_isAbove_191_ok {X : gb_X} (s0 : Int32) (h : gb_H) (r : Int32 × gb_H) (hF : fbX11_isAbove_191 s0 h = some r) : gb_Ev X 2 mX11_isAbove 191 [none, none, none, none, none, none, none, none, none, none, none, none, none, none] [.int s0] h (gb_wI r) := by
  unfold fbX11_isAbove_191 at hF
  obtain ⟨g1, hF⟩ := gb_gdE hF
  cases hF
  exact gb_zret dX11_isAbove_191 rfl (gb_bE g1)
def fbX11_isAbove_159 (v1 : Int64) (v3 : Int64) (s0 : Int32) (h : gb_H) : Option (Int32 × gb_H) :=
  if s0 = 0 then
    if v3 ≤ (0 : Int64) then
      fbX11_isAbove_191 (0 : Int32) h
    else
      fbX11_isAbove_191 (1 : Int32) h
  else
    if v1 ≤ (0 : Int64) then
      fbX11_isAbove_191 (0 : Int32) h
    else
      fbX11_isAbove_191 (1 : Int32) h
theorem fbX11_isAbove_159_ok {X : gb_X} (v1 : Int64) (v3 : Int64) (s0 : Int32) (h : gb_H) (r : Int32 × gb_H) (hF : fbX11_isAbove_159 v1 v3 s0 h = some r) : gb_Ev X 2 mX11_isAbove 159 [none, some (.long v1), none, some (.long v3), none, none, none, none, none, none, none, none, none, none] [.int s0] h (gb_wI r) := by
  unfold fbX11_isAbove_159 at hF
  refine gb_istore (L' := [none, some (.long v1), none, some (.long v3), none, none, none, none, none, none, none, none, none, some (.int s0)]) dX11_isAbove_159 (by decide) rfl rfl ?_
  refine gb_iload dX11_isAbove_161 rfl ?_
  refine gb_if_eq (tgt := 180) dX11_isAbove_163 (by decide) (fun c1 => ?_) (fun c1 => ?_)
  · replace hF := gb_ifT c1 hF
    refine gb_lload_n dX11_isAbove_180 rfl rfl ?_
    refine gb_lconst (v := (0 : Int64)) dX11_isAbove_181 (by decide) ?_
    refine gb_lc_le (tgt := 190) dX11_isAbove_182 dX11_isAbove_183 (by decide) (fun c2 => ?_) (fun c2 => ?_)
    · replace hF := gb_ifT c2 hF
      refine gb_iconst (v := (0 : Int32)) dX11_isAbove_190 (by decide) ?_
      exact gb_wk (fbX11_isAbove_191_ok (0 : Int32) h r hF) trivial
    · replace hF := gb_ifF c2 hF
      refine gb_iconst (v := (1 : Int32)) dX11_isAbove_186 (by decide) ?_
      refine gb_goto (tgt := 191) dX11_isAbove_187 (by decide) ?_
      exact gb_wk (fbX11_isAbove_191_ok (1 : Int32) h r hF) trivial
  · replace hF := gb_ifF c1 hF
    refine gb_lload_n dX11_isAbove_166 rfl rfl ?_
    refine gb_lconst (v := (0 : Int64)) dX11_isAbove_167 (by decide) ?_
    refine gb_lc_le (tgt := 176) dX11_isAbove_168 dX11_isAbove_169 (by decide) (fun c3 => ?_) (fun c3 => ?_)
    · replace hF := gb_ifT c3 hF
      refine gb_iconst (v := (0 : Int32)) dX11_isAbove_176 (by decide) ?_
      refine gb_goto (tgt := 191) dX11_isAbove_177 (by decide) ?_
      exact gb_wk (fbX11_isAbove_191_ok (0 : Int32) h r hF) trivial
    · replace hF := gb_ifF c3 hF
      refine gb_iconst (v := (1 : Int32)) dX11_isAbove_172 (by decide) ?_
      refine gb_goto (tgt := 191) dX11_isAbove_173 (by decide) ?_
      exact gb_wk (fbX11_isAbove_191_ok (1 : Int32) h r hF) trivial
def fbX11_isAbove_85 (v0 : Nat) (v1 : Int64) (v3 : Int64) (v5 : Int64) (v7 : Int64) (s0 : Nat) (s1 : Int64) (h : gb_H) : Option (Int32 × gb_H) :=
  gb_gd (gb_k h s0 11) <|
  gb_bd (fnX11_squares s0 s1 h) fun _ h3 =>
  gb_gd (gb_k h3 v0 11) <|
  gb_lt ((2 : Int64) * (gb_L h3 v0 56)) fun x5 =>
  gb_gd (gb_k h3 v0 11) <|
  gb_lt (((2 : Int64) * (gb_L h3 v0 55)) + (x5 >>> ((50 : Int32).toInt64 &&& 63))) fun x7 =>
  gb_lt (x5 &&& (1125899906842623 : Int64)) fun x8 =>
  if v5 = x7 then
    if v7 ≤ x8 then
      fbX11_isAbove_159 v1 v3 (0 : Int32) h3
    else
      fbX11_isAbove_159 v1 v3 (1 : Int32) h3
  else
    if v5 ≤ x7 then
      fbX11_isAbove_159 v1 v3 (0 : Int32) h3
    else
      fbX11_isAbove_159 v1 v3 (1 : Int32) h3
theorem fbX11_isAbove_85_ok {X : gb_X} (v0 : Nat) (v1 : Int64) (v3 : Int64) (v5 : Int64) (v7 : Int64) (s0 : Nat) (s1 : Int64) (h : gb_H) (r : Int32 × gb_H) (hF : fbX11_isAbove_85 v0 v1 v3 v5 v7 s0 s1 h = some r) : gb_Ev X 2 mX11_isAbove 85 [some (.ref v0), some (.long v1), none, some (.long v3), none, some (.long v5), none, some (.long v7), none, none, none, none, none, none] [.long s1, .ref s0] h (gb_wI r) := by
  unfold fbX11_isAbove_85 at hF
  obtain ⟨g1, hF⟩ := gb_gdE hF
  obtain ⟨x2, h3, cx2, hF⟩ := gb_bdE hF
  refine gb_cV (As := [.long s1]) (S := []) (v := none) (h1 := h3) (S2 := []) cf11 dX11_isAbove_85 mtX11_squares lX11_380 inX11_squares seX11_squares (gb_kE g1) (fnX11_squares_ok _ _ cx2) (by decide) rfl (Nat.le_of_ble_eq_true rfl) (Nat.le_of_ble_eq_true rfl) rfl rfl ?_
  refine gb_ldc2 (v := (2 : Int64)) dX11_isAbove_88 kX11_247 ?_
  refine gb_aload_n dX11_isAbove_91 rfl rfl ?_
  obtain ⟨g4, hF⟩ := gb_gdE hF
  refine gb_getL fX11_372 dX11_isAbove_92 (gb_kE g4) ?_
  refine gb_lmul dX11_isAbove_95 ?_
  obtain ⟨x5, ex5, hF⟩ := gb_ltE hF
  refine gb_topJ ex5 ?_
  refine gb_lstore (L' := [some (.ref v0), some (.long v1), none, some (.long v3), none, some (.long v5), none, some (.long v7), none, some (.long x5), none, none, none, none]) dX11_isAbove_96 (by decide) rfl rfl ?_
  refine gb_ldc2 (v := (2 : Int64)) dX11_isAbove_98 kX11_247 ?_
  refine gb_aload_n dX11_isAbove_101 rfl rfl ?_
  obtain ⟨g6, hF⟩ := gb_gdE hF
  refine gb_getL fX11_375 dX11_isAbove_102 (gb_kE g6) ?_
  refine gb_lmul dX11_isAbove_105 ?_
  refine gb_lload dX11_isAbove_106 rfl ?_
  refine gb_bipush (v := (50 : Int32)) dX11_isAbove_108 (by decide) ?_
  refine gb_lshr dX11_isAbove_110 ?_
  refine gb_ladd dX11_isAbove_111 ?_
  obtain ⟨x7, ex7, hF⟩ := gb_ltE hF
  refine gb_topJ ex7 ?_
  refine gb_lstore (L' := [some (.ref v0), some (.long v1), none, some (.long v3), none, some (.long v5), none, some (.long v7), none, some (.long x5), none, some (.long x7), none, none]) dX11_isAbove_112 (by decide) rfl rfl ?_
  refine gb_lload dX11_isAbove_114 rfl ?_
  refine gb_ldc2 (v := (1125899906842623 : Int64)) dX11_isAbove_116 kX11_378 ?_
  refine gb_land dX11_isAbove_119 ?_
  obtain ⟨x8, ex8, hF⟩ := gb_ltE hF
  refine gb_topJ ex8 ?_
  refine gb_lstore (L' := [some (.ref v0), some (.long v1), none, some (.long v3), none, some (.long v5), none, some (.long v7), none, some (.long x8), none, some (.long x7), none, none]) dX11_isAbove_120 (by decide) rfl rfl ?_
  refine gb_lload dX11_isAbove_122 rfl ?_
  refine gb_lload dX11_isAbove_124 rfl ?_
  refine gb_lc_eq (tgt := 146) dX11_isAbove_126 dX11_isAbove_127 (by decide) (fun c9 => ?_) (fun c9 => ?_)
  · replace hF := gb_ifT c9 hF
    refine gb_lload dX11_isAbove_146 rfl ?_
    refine gb_lload dX11_isAbove_148 rfl ?_
    refine gb_lc_le (tgt := 158) dX11_isAbove_150 dX11_isAbove_151 (by decide) (fun c10 => ?_) (fun c10 => ?_)
    · replace hF := gb_ifT c10 hF
      refine gb_iconst (v := (0 : Int32)) dX11_isAbove_158 (by decide) ?_
      exact gb_wk (fbX11_isAbove_159_ok v1 v3 (0 : Int32) h3 r hF) (And.intro rfl (And.intro rfl trivial))
    · replace hF := gb_ifF c10 hF
      refine gb_iconst (v := (1 : Int32)) dX11_isAbove_154 (by decide) ?_
      refine gb_goto (tgt := 159) dX11_isAbove_155 (by decide) ?_
      exact gb_wk (fbX11_isAbove_159_ok v1 v3 (1 : Int32) h3 r hF) (And.intro rfl (And.intro rfl trivial))
  · replace hF := gb_ifF c9 hF
    refine gb_lload dX11_isAbove_130 rfl ?_
    refine gb_lload dX11_isAbove_132 rfl ?_
    refine gb_lc_le (tgt := 142) dX11_isAbove_134 dX11_isAbove_135 (by decide) (fun c11 => ?_) (fun c11 => ?_)
    · replace hF := gb_ifT c11 hF
      refine gb_iconst (v := (0 : Int32)) dX11_isAbove_142 (by decide) ?_
      refine gb_goto (tgt := 159) dX11_isAbove_143 (by decide) ?_
      exact gb_wk (fbX11_isAbove_159_ok v1 v3 (0 : Int32) h3 r hF) (And.intro rfl (And.intro rfl trivial))
    · replace hF := gb_ifF c11 hF
      refine gb_iconst (v := (1 : Int32)) dX11_isAbove_138 (by decide) ?_
      refine gb_goto (tgt := 159) dX11_isAbove_139 (by decide) ?_
      exact gb_wk (fbX11_isAbove_159_ok v1 v3 (1 : Int32) h3 r hF) (And.intro rfl (And.intro rfl trivial))
def fbX11_isAbove_57 (v0 : Nat) (v1 : Int64) (v3 : Int64) (s0 : Nat) (s1 : Int64) (h : gb_H) : Option (Int32 × gb_H) :=
  gb_gd (gb_k h s0 11) <|
  gb_bd (fnX11_squares s0 s1 h) fun _ h3 =>
  gb_gd (gb_k h3 v0 11) <|
  gb_lt (gb_L h3 v0 55) fun x5 =>
  gb_gd (gb_k h3 v0 11) <|
  gb_lt (gb_L h3 v0 56) fun x7 =>
  if (0 : Int64) ≤ v3 then
    fbX11_isAbove_85 v0 v1 v3 x5 x7 v0 v3 h3
  else
    fbX11_isAbove_85 v0 v1 v3 x5 x7 v0 (-v3) h3
theorem fbX11_isAbove_57_ok {X : gb_X} (v0 : Nat) (v1 : Int64) (v3 : Int64) (s0 : Nat) (s1 : Int64) (h : gb_H) (r : Int32 × gb_H) (hF : fbX11_isAbove_57 v0 v1 v3 s0 s1 h = some r) : gb_Ev X 2 mX11_isAbove 57 [some (.ref v0), some (.long v1), none, some (.long v3), none, none, none, none, none, none, none, none, none, none] [.long s1, .ref s0] h (gb_wI r) := by
  unfold fbX11_isAbove_57 at hF
  obtain ⟨g1, hF⟩ := gb_gdE hF
  obtain ⟨x2, h3, cx2, hF⟩ := gb_bdE hF
  refine gb_cV (As := [.long s1]) (S := []) (v := none) (h1 := h3) (S2 := []) cf11 dX11_isAbove_57 mtX11_squares lX11_380 inX11_squares seX11_squares (gb_kE g1) (fnX11_squares_ok _ _ cx2) (by decide) rfl (Nat.le_of_ble_eq_true rfl) (Nat.le_of_ble_eq_true rfl) rfl rfl ?_
  refine gb_aload_n dX11_isAbove_60 rfl rfl ?_
  obtain ⟨g4, hF⟩ := gb_gdE hF
  refine gb_getL fX11_375 dX11_isAbove_61 (gb_kE g4) ?_
  obtain ⟨x5, ex5, hF⟩ := gb_ltE hF
  refine gb_topJ ex5 ?_
  refine gb_lstore (L' := [some (.ref v0), some (.long v1), none, some (.long v3), none, some (.long x5), none, none, none, none, none, none, none, none]) dX11_isAbove_64 (by decide) rfl rfl ?_
  refine gb_aload_n dX11_isAbove_66 rfl rfl ?_
  obtain ⟨g6, hF⟩ := gb_gdE hF
  refine gb_getL fX11_372 dX11_isAbove_67 (gb_kE g6) ?_
  obtain ⟨x7, ex7, hF⟩ := gb_ltE hF
  refine gb_topJ ex7 ?_
  refine gb_lstore (L' := [some (.ref v0), some (.long v1), none, some (.long v3), none, some (.long x5), none, some (.long x7), none, none, none, none, none, none]) dX11_isAbove_70 (by decide) rfl rfl ?_
  refine gb_aload_n dX11_isAbove_72 rfl rfl ?_
  refine gb_lload_n dX11_isAbove_73 rfl rfl ?_
  refine gb_lconst (v := (0 : Int64)) dX11_isAbove_74 (by decide) ?_
  refine gb_lc_ge (tgt := 84) dX11_isAbove_75 dX11_isAbove_76 (by decide) (fun c8 => ?_) (fun c8 => ?_)
  · replace hF := gb_ifT c8 hF
    refine gb_lload_n dX11_isAbove_84 rfl rfl ?_
    exact gb_wk (fbX11_isAbove_85_ok v0 v1 v3 x5 x7 v0 v3 h3 r hF) (And.intro rfl (And.intro rfl (And.intro rfl (And.intro rfl (And.intro rfl trivial)))))
  · replace hF := gb_ifF c8 hF
    refine gb_lload_n dX11_isAbove_79 rfl rfl ?_
    refine gb_lneg dX11_isAbove_80 ?_
    refine gb_goto (tgt := 85) dX11_isAbove_81 (by decide) ?_
    exact gb_wk (fbX11_isAbove_85_ok v0 v1 v3 x5 x7 v0 (-v3) h3 r hF) (And.intro rfl (And.intro rfl (And.intro rfl (And.intro rfl (And.intro rfl trivial)))))
def fbX11_isAbove_44 (v0 : Nat) (v1 : Int64) (v3 : Int64) (h : gb_H) : Option (Int32 × gb_H) :=
  if (0 : Int64) ≤ v1 then
    fbX11_isAbove_57 v0 v1 v3 v0 v1 h
  else
    fbX11_isAbove_57 v0 v1 v3 v0 (-v1) h
theorem fbX11_isAbove_44_ok {X : gb_X} (v0 : Nat) (v1 : Int64) (v3 : Int64) (h : gb_H) (r : Int32 × gb_H) (hF : fbX11_isAbove_44 v0 v1 v3 h = some r) : gb_Ev X 2 mX11_isAbove 44 [some (.ref v0), some (.long v1), none, some (.long v3), none, none, none, none, none, none, none, none, none, none] [] h (gb_wI r) := by
  unfold fbX11_isAbove_44 at hF
  refine gb_aload_n dX11_isAbove_44 rfl rfl ?_
  refine gb_lload_n dX11_isAbove_45 rfl rfl ?_
  refine gb_lconst (v := (0 : Int64)) dX11_isAbove_46 (by decide) ?_
  refine gb_lc_ge (tgt := 56) dX11_isAbove_47 dX11_isAbove_48 (by decide) (fun c1 => ?_) (fun c1 => ?_)
  · replace hF := gb_ifT c1 hF
    refine gb_lload_n dX11_isAbove_56 rfl rfl ?_
    exact gb_wk (fbX11_isAbove_57_ok v0 v1 v3 v0 v1 h r hF) (And.intro rfl (And.intro rfl (And.intro rfl trivial)))
  · replace hF := gb_ifF c1 hF
    refine gb_lload_n dX11_isAbove_51 rfl rfl ?_
    refine gb_lneg dX11_isAbove_52 ?_
    refine gb_goto (tgt := 57) dX11_isAbove_53 (by decide) ?_
    exact gb_wk (fbX11_isAbove_57_ok v0 v1 v3 v0 (-v1) h r hF) (And.intro rfl (And.intro rfl (And.intro rfl trivial)))
def fbX11_isAbove_30 (v0 : Nat) (v1 : Int64) (v3 : Int64) (h : gb_H) : Option (Int32 × gb_H) :=
  if (0 : Int64) < v1 then
    fbX11_isAbove_44 v0 v1 v3 h
  else
    if (0 : Int64) < v3 then
      fbX11_isAbove_44 v0 v1 v3 h
    else
      some ((0 : Int32), h)
theorem fbX11_isAbove_30_ok {X : gb_X} (v0 : Nat) (v1 : Int64) (v3 : Int64) (h : gb_H) (r : Int32 × gb_H) (hF : fbX11_isAbove_30 v0 v1 v3 h = some r) : gb_Ev X 2 mX11_isAbove 30 [some (.ref v0), some (.long v1), none, some (.long v3), none, none, none, none, none, none, none, none, none, none] [] h (gb_wI r) := by
  unfold fbX11_isAbove_30 at hF
  refine gb_lload_n dX11_isAbove_30 rfl rfl ?_
  refine gb_lconst (v := (0 : Int64)) dX11_isAbove_31 (by decide) ?_
  refine gb_lc_gt (tgt := 44) dX11_isAbove_32 dX11_isAbove_33 (by decide) (fun c1 => ?_) (fun c1 => ?_)
  · replace hF := gb_ifT c1 hF
    exact gb_wk (fbX11_isAbove_44_ok v0 v1 v3 h r hF) (And.intro rfl (And.intro rfl (And.intro rfl trivial)))
  · replace hF := gb_ifF c1 hF
    refine gb_lload_n dX11_isAbove_36 rfl rfl ?_
    refine gb_lconst (v := (0 : Int64)) dX11_isAbove_37 (by decide) ?_
    refine gb_lc_gt (tgt := 44) dX11_isAbove_38 dX11_isAbove_39 (by decide) (fun c2 => ?_) (fun c2 => ?_)
    · replace hF := gb_ifT c2 hF
      exact gb_wk (fbX11_isAbove_44_ok v0 v1 v3 h r hF) (And.intro rfl (And.intro rfl (And.intro rfl trivial)))
    · replace hF := gb_ifF c2 hF
      refine gb_iconst (v := (0 : Int32)) dX11_isAbove_42 (by decide) ?_
      cases hF
      exact gb_zret dX11_isAbove_43 rfl (by decide)
def fnX11_isAbove (p0 : Nat) (p1 : Int64) (p2 : Int64) (h : gb_H) : Option (Int32 × gb_H) :=
  if p1 < (0 : Int64) then
    fbX11_isAbove_30 p0 p1 p2 h
  else
    if p2 < (0 : Int64) then
      fbX11_isAbove_30 p0 p1 p2 h
    else
      if (0 : Int64) < p1 then
        fbX11_isAbove_24 h
      else
        if p2 ≤ (0 : Int64) then
          fbX11_isAbove_29 (0 : Int32) h
        else
          fbX11_isAbove_24 h
theorem fnX11_isAbove_ok {X : gb_X}  {p0 : Nat} {p1 : Int64} {p2 : Int64} (h : gb_H) (r : Int32 × gb_H) (hF : fnX11_isAbove p0 p1 p2 h = some r) : gb_Ev X 2 mX11_isAbove 0 (gb_L0 [.ref p0, .long p1, .long p2]) [] h (gb_wI r) := by
  unfold fnX11_isAbove at hF
  refine gb_weak (L' := [some (.ref p0), some (.long p1), none, some (.long p2), none, none, none, none, none, none, none, none, none, none]) (And.intro rfl (And.intro rfl (And.intro rfl trivial))) ?_
  refine gb_lload_n dX11_isAbove_0 rfl rfl ?_
  refine gb_lconst (v := (0 : Int64)) dX11_isAbove_1 (by decide) ?_
  refine gb_lc_lt (tgt := 30) dX11_isAbove_2 dX11_isAbove_3 (by decide) (fun c1 => ?_) (fun c1 => ?_)
  · replace hF := gb_ifT c1 hF
    exact gb_wk (fbX11_isAbove_30_ok p0 p1 p2 h r hF) (And.intro rfl (And.intro rfl (And.intro rfl trivial)))
  · replace hF := gb_ifF c1 hF
    refine gb_lload_n dX11_isAbove_6 rfl rfl ?_
    refine gb_lconst (v := (0 : Int64)) dX11_isAbove_7 (by decide) ?_
    refine gb_lc_lt (tgt := 30) dX11_isAbove_8 dX11_isAbove_9 (by decide) (fun c2 => ?_) (fun c2 => ?_)
    · replace hF := gb_ifT c2 hF
      exact gb_wk (fbX11_isAbove_30_ok p0 p1 p2 h r hF) (And.intro rfl (And.intro rfl (And.intro rfl trivial)))
    · replace hF := gb_ifF c2 hF
      refine gb_lload_n dX11_isAbove_12 rfl rfl ?_
      refine gb_lconst (v := (0 : Int64)) dX11_isAbove_13 (by decide) ?_
      refine gb_lc_gt (tgt := 24) dX11_isAbove_14 dX11_isAbove_15 (by decide) (fun c3 => ?_) (fun c3 => ?_)
      · replace hF := gb_ifT c3 hF
        exact gb_wk (fbX11_isAbove_24_ok h r hF) trivial
      · replace hF := gb_ifF c3 hF
        refine gb_lload_n dX11_isAbove_18 rfl rfl ?_
        refine gb_lconst (v := (0 : Int64)) dX11_isAbove_19 (by decide) ?_
        refine gb_lc_le (tgt := 28) dX11_isAbove_20 dX11_isAbove_21 (by decide) (fun c4 => ?_) (fun c4 => ?_)
        · replace hF := gb_ifT c4 hF
          refine gb_iconst (v := (0 : Int32)) dX11_isAbove_28 (by decide) ?_
          exact gb_wk (fbX11_isAbove_29_ok (0 : Int32) h r hF) trivial
        · replace hF := gb_ifF c4 hF
          exact gb_wk (fbX11_isAbove_24_ok h r hF) trivial
def fbX11_looks_191 (k191 : Nat → Int32 → Int32 → gb_H → Option (Unit × gb_H)) (v0 : Nat) (v1 : Int32) (v10 : Int32) (h : gb_H) : Option (Unit × gb_H) :=
  if v1 ≤ v10 then
    some ((), h)
  else
    gb_gd (gb_k h v0 11) <|
    gb_rd (gb_R h v0 43) fun a3 =>
    gb_gd (gb_k h v0 11) <|
    gb_rd (gb_R h v0 42) fun a5 =>
    gb_gd (gb_k h a5 20) <|
    gb_gd (gb_in h a5 v10) <|
    gb_gd (gb_k h a3 20) <|
    gb_gd (gb_in h a3 v10) <|
    gb_lt (gb_sI h a3 v10.toNatClampNeg (gb_I h a5 v10.toNatClampNeg)) fun h10 =>
    gb_lt (v10 + (1 : Int32)) fun x11 =>
    k191 v0 v1 x11 h10
theorem fbX11_looks_191_ok {X : gb_X} {k191 : Nat → Int32 → Int32 → gb_H → Option (Unit × gb_H)} (hk191 : ∀ v0 v1 v10 h r, k191 v0 v1 v10 h = some r → gb_Ev X 7 mX11_looks 191 [some (.ref v0), some (.int v1), none, none, none, none, none, none, none, none, some (.int v10)] [] h (gb_wV r)) (v0 : Nat) (v1 : Int32) (v10 : Int32) (h : gb_H) (r : Unit × gb_H) (hF : fbX11_looks_191 k191 v0 v1 v10 h = some r) : gb_Ev X 7 mX11_looks 191 [some (.ref v0), some (.int v1), none, none, none, none, none, none, none, none, some (.int v10)] [] h (gb_wV r) := by
  unfold fbX11_looks_191 at hF
  refine gb_iload dX11_looks_191 rfl ?_
  refine gb_iload_n dX11_looks_193 rfl rfl ?_
  refine gb_icmp_ge (tgt := 217) dX11_looks_194 (by decide) (fun c1 => ?_) (fun c1 => ?_)
  · replace hF := gb_ifT c1 hF
    cases hF
    exact gb_vret dX11_looks_217 rfl
  · replace hF := gb_ifF c1 hF
    refine gb_aload_n dX11_looks_197 rfl rfl ?_
    obtain ⟨g2, hF⟩ := gb_gdE hF
    obtain ⟨a3, ea3, hF⟩ := gb_rdE hF
    refine gb_getR fX11_89 dX11_looks_198 (gb_kE g2) ea3 ?_
    refine gb_iload dX11_looks_201 rfl ?_
    refine gb_aload_n dX11_looks_203 rfl rfl ?_
    obtain ⟨g4, hF⟩ := gb_gdE hF
    obtain ⟨a5, ea5, hF⟩ := gb_rdE hF
    refine gb_getR fX11_86 dX11_looks_204 (gb_kE g4) ea5 ?_
    refine gb_iload dX11_looks_207 rfl ?_
    obtain ⟨g6, hF⟩ := gb_gdE hF
    obtain ⟨g7, hF⟩ := gb_gdE hF
    refine gb_iald dX11_looks_209 (gb_kE g6) (gb_inE g7) ?_
    obtain ⟨g8, hF⟩ := gb_gdE hF
    obtain ⟨g9, hF⟩ := gb_gdE hF
    obtain ⟨h10, eh10, hF⟩ := gb_ltE hF
    refine gb_iast dX11_looks_210 (gb_kE g8) (gb_inE g9) (gb_hp eh10 ?_)
    obtain ⟨x11, ex11, hF⟩ := gb_ltE hF
    refine gb_iinc (v := x11) (L' := [some (.ref v0), some (.int v1), none, none, none, none, none, none, none, none, some (.int x11)]) dX11_looks_211 rfl (by rw [ex11]; rfl) (by decide) rfl rfl ?_
    refine gb_goto (tgt := 191) dX11_looks_214 (by decide) ?_
    exact gb_wk (hk191 v0 v1 x11 h10 r hF) (And.intro rfl (And.intro rfl (And.intro rfl trivial)))
def lpX11_looks_191 (n : Nat) (v0 : Nat) (v1 : Int32) (v10 : Int32) (h : gb_H) : Option (Unit × gb_H) := gb_lp (σ := Nat × Int32 × Int32 × gb_H) (fun k s => fbX11_looks_191 (fun v0 v1 v10 h => k (v0, v1, v10, h)) s.1 s.2.1 s.2.2.1 s.2.2.2) n (v0, v1, v10, h)
theorem lpX11_looks_191_ok {X : gb_X}  (n : Nat) (v0 : Nat) (v1 : Int32) (v10 : Int32) (h : gb_H) (r : Unit × gb_H) (hF : lpX11_looks_191 n v0 v1 v10 h = some r) : gb_Ev X 7 mX11_looks 191 [some (.ref v0), some (.int v1), none, none, none, none, none, none, none, none, some (.int v10)] [] h (gb_wV r) := by
  exact gb_lpE (σ := Nat × Int32 × Int32 × gb_H) (P := fun s r => gb_Ev X 7 mX11_looks 191 [some (.ref s.1), some (.int s.2.1), none, none, none, none, none, none, none, none, some (.int s.2.2.1)] [] s.2.2.2 (gb_wV r)) (fun k hk s r hs => fbX11_looks_191_ok (fun v0 v1 v10 h r e => hk (v0, v1, v10, h) r e) _ _ _ _ r hs) n (v0, v1, v10, h) r hF
def fbX11_looks_165 (v0 : Nat) (v1 : Int32) (v4 : Int64) (v6 : Int64) (v8 : Int64) (h : gb_H) : Option (Unit × gb_H) :=
  gb_gd (gb_k h v0 11) <|
  gb_lt (gb_sI h v0 47 v1) fun h2 =>
  gb_gd (gb_k h2 v0 11) <|
  gb_lt (gb_sL h2 v0 48 v4) fun h4 =>
  gb_gd (gb_k h4 v0 11) <|
  gb_lt (gb_sL h4 v0 49 v6) fun h6 =>
  gb_gd (gb_k h6 v0 11) <|
  gb_lt (gb_sL h6 v0 50 v8) fun h8 =>
  lpX11_looks_191 gb_FU v0 v1 (0 : Int32) h8
theorem fbX11_looks_165_ok {X : gb_X} (v0 : Nat) (v1 : Int32) (v4 : Int64) (v6 : Int64) (v8 : Int64) (h : gb_H) (r : Unit × gb_H) (hF : fbX11_looks_165 v0 v1 v4 v6 v8 h = some r) : gb_Ev X 7 mX11_looks 165 [some (.ref v0), some (.int v1), none, none, some (.long v4), none, some (.long v6), none, some (.long v8), none, none] [] h (gb_wV r) := by
  unfold fbX11_looks_165 at hF
  refine gb_aload_n dX11_looks_165 rfl rfl ?_
  refine gb_iload_n dX11_looks_166 rfl rfl ?_
  obtain ⟨g1, hF⟩ := gb_gdE hF
  obtain ⟨h2, eh2, hF⟩ := gb_ltE hF
  refine gb_putI fX11_384 (gb_nff nf11_47) dX11_looks_167 (gb_kE g1) (fun _ => ⟨rfl, rfl⟩) (gb_hp eh2 ?_)
  refine gb_aload_n dX11_looks_170 rfl rfl ?_
  refine gb_lload dX11_looks_171 rfl ?_
  obtain ⟨g3, hF⟩ := gb_gdE hF
  obtain ⟨h4, eh4, hF⟩ := gb_ltE hF
  refine gb_putL fX11_390 (gb_nff nf11_48) dX11_looks_173 (gb_kE g3) (fun _ => ⟨rfl, rfl⟩) (gb_hp eh4 ?_)
  refine gb_aload_n dX11_looks_176 rfl rfl ?_
  refine gb_lload dX11_looks_177 rfl ?_
  obtain ⟨g5, hF⟩ := gb_gdE hF
  obtain ⟨h6, eh6, hF⟩ := gb_ltE hF
  refine gb_putL fX11_396 (gb_nff nf11_49) dX11_looks_179 (gb_kE g5) (fun _ => ⟨rfl, rfl⟩) (gb_hp eh6 ?_)
  refine gb_aload_n dX11_looks_182 rfl rfl ?_
  refine gb_lload dX11_looks_183 rfl ?_
  obtain ⟨g7, hF⟩ := gb_gdE hF
  obtain ⟨h8, eh8, hF⟩ := gb_ltE hF
  refine gb_putL fX11_393 (gb_nff nf11_50) dX11_looks_185 (gb_kE g7) (fun _ => ⟨rfl, rfl⟩) (gb_hp eh8 ?_)
  refine gb_iconst (v := (0 : Int32)) dX11_looks_188 (by decide) ?_
  refine gb_istore (L' := [some (.ref v0), some (.int v1), none, none, some (.long v4), none, some (.long v6), none, some (.long v8), none, some (.int (0 : Int32))]) dX11_looks_189 (by decide) rfl rfl ?_
  exact gb_wk (lpX11_looks_191_ok gb_FU v0 v1 (0 : Int32) h8 r hF) (And.intro rfl (And.intro rfl (And.intro rfl trivial)))
def fnX11_looks (p0 : Nat) (p1 : Int32) (p2 : Int32) (h : gb_H) : Option (Unit × gb_H) :=
  gb_gd (gb_k h p0 11) <|
  gb_rd (gb_R h p0 41) fun a2 =>
  gb_gd (gb_k h p0 11) <|
  gb_bd (fnX11_deepOf a2 (0 : Int32) p1 (gb_I h p0 1) h) fun x4 h5 =>
  if x4 ≤ (300000 : Int32) then
    gb_gd (gb_k h5 p0 11) <|
    gb_rd (gb_R h5 p0 41) fun a8 =>
    gb_gd (gb_k h5 p0 11) <|
    gb_bd (fnX11_lays p0 a8 (0 : Int32) p1 x4 h5) fun _ h11 =>
    gb_gd (gb_k h11 p0 11) <|
    gb_rd (gb_R h11 p0 28) fun a13 =>
    gb_gd (gb_k h11 a13 23) <|
    gb_gd (gb_in h11 a13 p2) <|
    gb_gd (gb_k h11 p0 11) <|
    gb_rd (gb_R h11 p0 29) fun a17 =>
    gb_gd (gb_k h11 a17 23) <|
    gb_gd (gb_in h11 a17 p2) <|
    gb_gd (gb_k h11 p0 11) <|
    gb_bd (fnX11_tells (gb_L h11 a13 p2.toNatClampNeg) (gb_L h11 a17 p2.toNatClampNeg) (gb_L h11 p0 30) (0 : Int32) h11) fun x21 h22 =>
    gb_gd (gb_k h22 p0 11) <|
    gb_rd (gb_R h22 p0 28) fun a24 =>
    gb_gd (gb_k h22 a24 23) <|
    gb_gd (gb_in h22 a24 p2) <|
    gb_gd (gb_k h22 p0 11) <|
    gb_rd (gb_R h22 p0 29) fun a28 =>
    gb_gd (gb_k h22 a28 23) <|
    gb_gd (gb_in h22 a28 p2) <|
    gb_gd (gb_k h22 p0 11) <|
    gb_bd (fnX11_tells (gb_L h22 a24 p2.toNatClampNeg) (gb_L h22 a28 p2.toNatClampNeg) (gb_L h22 p0 30) (1 : Int32) h22) fun x32 h33 =>
    gb_gd (gb_k h33 p0 11) <|
    gb_rd (gb_R h33 p0 28) fun a35 =>
    gb_gd (gb_k h33 a35 23) <|
    gb_gd (gb_in h33 a35 p2) <|
    gb_gd (gb_k h33 p0 11) <|
    gb_rd (gb_R h33 p0 29) fun a39 =>
    gb_gd (gb_k h33 a39 23) <|
    gb_gd (gb_in h33 a39 p2) <|
    gb_gd (gb_k h33 p0 11) <|
    gb_bd (fnX11_tells (gb_L h33 a35 p2.toNatClampNeg) (gb_L h33 a39 p2.toNatClampNeg) (gb_L h33 p0 30) (2 : Int32) h33) fun x43 h44 =>
    gb_gd (gb_k h44 p0 11) <|
    if (gb_I h44 p0 47) = (-1 : Int32) then
      fbX11_looks_165 p0 p1 x21 x32 x43 h44
    else
      gb_gd (gb_k h44 p0 11) <|
      gb_gd (gb_nzL x43) <|
      gb_gd (gb_k h44 p0 11) <|
      gb_gd (gb_k h44 p0 11) <|
      gb_gd (gb_k h44 p0 11) <|
      gb_lt (gb_L h44 p0 50) fun x52 =>
      gb_gd (gb_nzL x52) <|
      gb_gd (gb_k h44 p0 11) <|
      gb_gd (gb_nzL x43) <|
      gb_gd (gb_k h44 p0 11) <|
      gb_gd (gb_k h44 p0 11) <|
      gb_gd (gb_k h44 p0 11) <|
      gb_lt (gb_L h44 p0 50) fun x59 =>
      gb_gd (gb_nzL x59) <|
      gb_gd (gb_k h44 p0 11) <|
      gb_bd (fnX11_isAbove p0 ((x21 * ((gb_L h44 p0 54) / x43)) - ((gb_L h44 p0 48) * ((gb_L h44 p0 54) / x52))) ((x32 * ((gb_L h44 p0 54) / x43)) - ((gb_L h44 p0 49) * ((gb_L h44 p0 54) / x59))) h44) fun x62 h63 =>
      if x62 = 0 then
        some ((), h63)
      else
        fbX11_looks_165 p0 p1 x21 x32 x43 h63
  else
    some ((), h5)
theorem fnX11_looks_ok {X : gb_X}  {p0 : Nat} {p1 : Int32} {p2 : Int32} (h : gb_H) (r : Unit × gb_H) (hF : fnX11_looks p0 p1 p2 h = some r) : gb_Ev X 7 mX11_looks 0 (gb_L0 [.ref p0, .int p1, .int p2]) [] h (gb_wV r) := by
  unfold fnX11_looks at hF
  refine gb_weak (L' := [some (.ref p0), some (.int p1), some (.int p2), none, none, none, none, none, none, none, none]) (And.intro rfl (And.intro rfl (And.intro rfl trivial))) ?_
  refine gb_aload_n dX11_looks_0 rfl rfl ?_
  obtain ⟨g1, hF⟩ := gb_gdE hF
  obtain ⟨a2, ea2, hF⟩ := gb_rdE hF
  refine gb_getR fX11_83 dX11_looks_1 (gb_kE g1) ea2 ?_
  refine gb_iconst (v := (0 : Int32)) dX11_looks_4 (by decide) ?_
  refine gb_iload_n dX11_looks_5 rfl rfl ?_
  refine gb_aload_n dX11_looks_6 rfl rfl ?_
  obtain ⟨g3, hF⟩ := gb_gdE hF
  refine gb_getI fX11_112 dX11_looks_7 (gb_kE g3) ?_
  obtain ⟨x4, h5, cx4, hF⟩ := gb_bdE hF
  refine gb_cS (As := [.ref a2, .int (0 : Int32), .int p1, .int (gb_I h p0 1)]) (S := []) (v := some (.int x4)) (h1 := h5) (S2 := [.int x4]) dX11_looks_10 mtX11_deepOf lX11_274 stX11_deepOf (fnX11_deepOf_ok _ _ cx4) (by decide) rfl (Nat.le_of_ble_eq_true rfl) (Nat.le_of_ble_eq_true rfl) rfl rfl ?_
  refine gb_istore_n (L' := [some (.ref p0), some (.int p1), some (.int p2), some (.int x4), none, none, none, none, none, none, none]) dX11_looks_13 rfl (by decide) rfl rfl ?_
  refine gb_iload_n dX11_looks_14 rfl rfl ?_
  refine gb_ldcw (v := (300000 : Int32)) dX11_looks_15 kX11_279 ?_
  refine gb_icmp_le (tgt := 22) dX11_looks_18 (by decide) (fun c6 => ?_) (fun c6 => ?_)
  · replace hF := gb_ifT c6 hF
    refine gb_aload_n dX11_looks_22 rfl rfl ?_
    refine gb_aload_n dX11_looks_23 rfl rfl ?_
    obtain ⟨g7, hF⟩ := gb_gdE hF
    obtain ⟨a8, ea8, hF⟩ := gb_rdE hF
    refine gb_getR fX11_83 dX11_looks_24 (gb_kE g7) ea8 ?_
    refine gb_iconst (v := (0 : Int32)) dX11_looks_27 (by decide) ?_
    refine gb_iload_n dX11_looks_28 rfl rfl ?_
    refine gb_iload_n dX11_looks_29 rfl rfl ?_
    obtain ⟨g9, hF⟩ := gb_gdE hF
    obtain ⟨x10, h11, cx10, hF⟩ := gb_bdE hF
    refine gb_cV (As := [.ref a8, .int (0 : Int32), .int p1, .int x4]) (S := []) (v := none) (h1 := h11) (S2 := []) cf11 dX11_looks_30 mtX11_lays lX11_311 inX11_lays seX11_lays (gb_kE g9) (fnX11_lays_ok _ _ cx10) (by decide) rfl (Nat.le_of_ble_eq_true rfl) (Nat.le_of_ble_eq_true rfl) rfl rfl ?_
    refine gb_aload_n dX11_looks_33 rfl rfl ?_
    obtain ⟨g12, hF⟩ := gb_gdE hF
    obtain ⟨a13, ea13, hF⟩ := gb_rdE hF
    refine gb_getR fX11_59 dX11_looks_34 (gb_kE g12) ea13 ?_
    refine gb_iload_n dX11_looks_37 rfl rfl ?_
    obtain ⟨g14, hF⟩ := gb_gdE hF
    obtain ⟨g15, hF⟩ := gb_gdE hF
    refine gb_lald dX11_looks_38 (gb_kE g14) (gb_inE g15) ?_
    refine gb_aload_n dX11_looks_39 rfl rfl ?_
    obtain ⟨g16, hF⟩ := gb_gdE hF
    obtain ⟨a17, ea17, hF⟩ := gb_rdE hF
    refine gb_getR fX11_62 dX11_looks_40 (gb_kE g16) ea17 ?_
    refine gb_iload_n dX11_looks_43 rfl rfl ?_
    obtain ⟨g18, hF⟩ := gb_gdE hF
    obtain ⟨g19, hF⟩ := gb_gdE hF
    refine gb_lald dX11_looks_44 (gb_kE g18) (gb_inE g19) ?_
    refine gb_aload_n dX11_looks_45 rfl rfl ?_
    obtain ⟨g20, hF⟩ := gb_gdE hF
    refine gb_getL fX11_293 dX11_looks_46 (gb_kE g20) ?_
    refine gb_iconst (v := (0 : Int32)) dX11_looks_49 (by decide) ?_
    obtain ⟨x21, h22, cx21, hF⟩ := gb_bdE hF
    refine gb_cS (As := [.long (gb_L h11 a13 p2.toNatClampNeg), .long (gb_L h11 a17 p2.toNatClampNeg), .long (gb_L h11 p0 30), .int (0 : Int32)]) (S := []) (v := some (.long x21)) (h1 := h22) (S2 := [.long x21]) dX11_looks_50 mtX11_tells lX11_326 stX11_tells (fnX11_tells_ok _ _ cx21) (by decide) rfl (Nat.le_of_ble_eq_true rfl) (Nat.le_of_ble_eq_true rfl) rfl rfl ?_
    refine gb_lstore (L' := [some (.ref p0), some (.int p1), some (.int p2), some (.int x4), some (.long x21), none, none, none, none, none, none]) dX11_looks_53 (by decide) rfl rfl ?_
    refine gb_aload_n dX11_looks_55 rfl rfl ?_
    obtain ⟨g23, hF⟩ := gb_gdE hF
    obtain ⟨a24, ea24, hF⟩ := gb_rdE hF
    refine gb_getR fX11_59 dX11_looks_56 (gb_kE g23) ea24 ?_
    refine gb_iload_n dX11_looks_59 rfl rfl ?_
    obtain ⟨g25, hF⟩ := gb_gdE hF
    obtain ⟨g26, hF⟩ := gb_gdE hF
    refine gb_lald dX11_looks_60 (gb_kE g25) (gb_inE g26) ?_
    refine gb_aload_n dX11_looks_61 rfl rfl ?_
    obtain ⟨g27, hF⟩ := gb_gdE hF
    obtain ⟨a28, ea28, hF⟩ := gb_rdE hF
    refine gb_getR fX11_62 dX11_looks_62 (gb_kE g27) ea28 ?_
    refine gb_iload_n dX11_looks_65 rfl rfl ?_
    obtain ⟨g29, hF⟩ := gb_gdE hF
    obtain ⟨g30, hF⟩ := gb_gdE hF
    refine gb_lald dX11_looks_66 (gb_kE g29) (gb_inE g30) ?_
    refine gb_aload_n dX11_looks_67 rfl rfl ?_
    obtain ⟨g31, hF⟩ := gb_gdE hF
    refine gb_getL fX11_293 dX11_looks_68 (gb_kE g31) ?_
    refine gb_iconst (v := (1 : Int32)) dX11_looks_71 (by decide) ?_
    obtain ⟨x32, h33, cx32, hF⟩ := gb_bdE hF
    refine gb_cS (As := [.long (gb_L h22 a24 p2.toNatClampNeg), .long (gb_L h22 a28 p2.toNatClampNeg), .long (gb_L h22 p0 30), .int (1 : Int32)]) (S := []) (v := some (.long x32)) (h1 := h33) (S2 := [.long x32]) dX11_looks_72 mtX11_tells lX11_326 stX11_tells (fnX11_tells_ok _ _ cx32) (by decide) rfl (Nat.le_of_ble_eq_true rfl) (Nat.le_of_ble_eq_true rfl) rfl rfl ?_
    refine gb_lstore (L' := [some (.ref p0), some (.int p1), some (.int p2), some (.int x4), some (.long x21), none, some (.long x32), none, none, none, none]) dX11_looks_75 (by decide) rfl rfl ?_
    refine gb_aload_n dX11_looks_77 rfl rfl ?_
    obtain ⟨g34, hF⟩ := gb_gdE hF
    obtain ⟨a35, ea35, hF⟩ := gb_rdE hF
    refine gb_getR fX11_59 dX11_looks_78 (gb_kE g34) ea35 ?_
    refine gb_iload_n dX11_looks_81 rfl rfl ?_
    obtain ⟨g36, hF⟩ := gb_gdE hF
    obtain ⟨g37, hF⟩ := gb_gdE hF
    refine gb_lald dX11_looks_82 (gb_kE g36) (gb_inE g37) ?_
    refine gb_aload_n dX11_looks_83 rfl rfl ?_
    obtain ⟨g38, hF⟩ := gb_gdE hF
    obtain ⟨a39, ea39, hF⟩ := gb_rdE hF
    refine gb_getR fX11_62 dX11_looks_84 (gb_kE g38) ea39 ?_
    refine gb_iload_n dX11_looks_87 rfl rfl ?_
    obtain ⟨g40, hF⟩ := gb_gdE hF
    obtain ⟨g41, hF⟩ := gb_gdE hF
    refine gb_lald dX11_looks_88 (gb_kE g40) (gb_inE g41) ?_
    refine gb_aload_n dX11_looks_89 rfl rfl ?_
    obtain ⟨g42, hF⟩ := gb_gdE hF
    refine gb_getL fX11_293 dX11_looks_90 (gb_kE g42) ?_
    refine gb_iconst (v := (2 : Int32)) dX11_looks_93 (by decide) ?_
    obtain ⟨x43, h44, cx43, hF⟩ := gb_bdE hF
    refine gb_cS (As := [.long (gb_L h33 a35 p2.toNatClampNeg), .long (gb_L h33 a39 p2.toNatClampNeg), .long (gb_L h33 p0 30), .int (2 : Int32)]) (S := []) (v := some (.long x43)) (h1 := h44) (S2 := [.long x43]) dX11_looks_94 mtX11_tells lX11_326 stX11_tells (fnX11_tells_ok _ _ cx43) (by decide) rfl (Nat.le_of_ble_eq_true rfl) (Nat.le_of_ble_eq_true rfl) rfl rfl ?_
    refine gb_lstore (L' := [some (.ref p0), some (.int p1), some (.int p2), some (.int x4), some (.long x21), none, some (.long x32), none, some (.long x43), none, none]) dX11_looks_97 (by decide) rfl rfl ?_
    refine gb_aload_n dX11_looks_99 rfl rfl ?_
    obtain ⟨g45, hF⟩ := gb_gdE hF
    refine gb_getI fX11_384 dX11_looks_100 (gb_kE g45) ?_
    refine gb_iconst (v := (-1 : Int32)) dX11_looks_103 (by decide) ?_
    refine gb_icmp_eq (tgt := 165) dX11_looks_104 (by decide) (fun c46 => ?_) (fun c46 => ?_)
    · replace hF := gb_ifT c46 hF
      exact gb_wk (fbX11_looks_165_ok p0 p1 x21 x32 x43 h44 r hF) (And.intro rfl (And.intro rfl (And.intro rfl (And.intro rfl (And.intro rfl trivial)))))
    · replace hF := gb_ifF c46 hF
      refine gb_aload_n dX11_looks_107 rfl rfl ?_
      refine gb_lload dX11_looks_108 rfl ?_
      refine gb_aload_n dX11_looks_110 rfl rfl ?_
      obtain ⟨g47, hF⟩ := gb_gdE hF
      refine gb_getL fX11_387 dX11_looks_111 (gb_kE g47) ?_
      refine gb_lload dX11_looks_114 rfl ?_
      obtain ⟨g48, hF⟩ := gb_gdE hF
      refine gb_ldiv dX11_looks_116 (gb_nzLE g48) ?_
      refine gb_lmul dX11_looks_117 ?_
      refine gb_aload_n dX11_looks_118 rfl rfl ?_
      obtain ⟨g49, hF⟩ := gb_gdE hF
      refine gb_getL fX11_390 dX11_looks_119 (gb_kE g49) ?_
      refine gb_aload_n dX11_looks_122 rfl rfl ?_
      obtain ⟨g50, hF⟩ := gb_gdE hF
      refine gb_getL fX11_387 dX11_looks_123 (gb_kE g50) ?_
      refine gb_aload_n dX11_looks_126 rfl rfl ?_
      obtain ⟨g51, hF⟩ := gb_gdE hF
      refine gb_getL fX11_393 dX11_looks_127 (gb_kE g51) ?_
      obtain ⟨x52, ex52, hF⟩ := gb_ltE hF
      refine gb_topJ ex52 ?_
      obtain ⟨g53, hF⟩ := gb_gdE hF
      refine gb_ldiv dX11_looks_130 (gb_nzLE g53) ?_
      refine gb_lmul dX11_looks_131 ?_
      refine gb_lsub dX11_looks_132 ?_
      refine gb_lload dX11_looks_133 rfl ?_
      refine gb_aload_n dX11_looks_135 rfl rfl ?_
      obtain ⟨g54, hF⟩ := gb_gdE hF
      refine gb_getL fX11_387 dX11_looks_136 (gb_kE g54) ?_
      refine gb_lload dX11_looks_139 rfl ?_
      obtain ⟨g55, hF⟩ := gb_gdE hF
      refine gb_ldiv dX11_looks_141 (gb_nzLE g55) ?_
      refine gb_lmul dX11_looks_142 ?_
      refine gb_aload_n dX11_looks_143 rfl rfl ?_
      obtain ⟨g56, hF⟩ := gb_gdE hF
      refine gb_getL fX11_396 dX11_looks_144 (gb_kE g56) ?_
      refine gb_aload_n dX11_looks_147 rfl rfl ?_
      obtain ⟨g57, hF⟩ := gb_gdE hF
      refine gb_getL fX11_387 dX11_looks_148 (gb_kE g57) ?_
      refine gb_aload_n dX11_looks_151 rfl rfl ?_
      obtain ⟨g58, hF⟩ := gb_gdE hF
      refine gb_getL fX11_393 dX11_looks_152 (gb_kE g58) ?_
      obtain ⟨x59, ex59, hF⟩ := gb_ltE hF
      refine gb_topJ ex59 ?_
      obtain ⟨g60, hF⟩ := gb_gdE hF
      refine gb_ldiv dX11_looks_155 (gb_nzLE g60) ?_
      refine gb_lmul dX11_looks_156 ?_
      refine gb_lsub dX11_looks_157 ?_
      obtain ⟨g61, hF⟩ := gb_gdE hF
      obtain ⟨x62, h63, cx62, hF⟩ := gb_bdE hF
      refine gb_cV (As := [.long ((x21 * ((gb_L h44 p0 54) / x43)) - ((gb_L h44 p0 48) * ((gb_L h44 p0 54) / x52))), .long ((x32 * ((gb_L h44 p0 54) / x43)) - ((gb_L h44 p0 49) * ((gb_L h44 p0 54) / x59)))]) (S := []) (v := some (.int x62)) (h1 := h63) (S2 := [.int x62]) cf11 dX11_looks_158 mtX11_isAbove lX11_399 inX11_isAbove seX11_isAbove (gb_kE g61) (fnX11_isAbove_ok _ _ cx62) (by decide) rfl (Nat.le_of_ble_eq_true rfl) (Nat.le_of_ble_eq_true rfl) rfl rfl ?_
      refine gb_if_ne (tgt := 165) dX11_looks_161 (by decide) (fun c64 => ?_) (fun c64 => ?_)
      · replace hF := gb_ifF c64 hF
        exact gb_wk (fbX11_looks_165_ok p0 p1 x21 x32 x43 h63 r hF) (And.intro rfl (And.intro rfl (And.intro rfl (And.intro rfl (And.intro rfl trivial)))))
      · replace hF := gb_ifT c64 hF
        cases hF
        exact gb_vret dX11_looks_164 rfl
  · replace hF := gb_ifF c6 hF
    cases hF
    exact gb_vret dX11_looks_21 rfl
def fbX11_tries_35 (self : Nat → Int32 → Int32 → Int32 → gb_H → Option (Unit × gb_H)) (k15 : Nat → Int32 → Int32 → Int32 → Int32 → gb_H → Option (Unit × gb_H)) (k35 : Nat → Int32 → Int32 → Int32 → Int32 → Int32 → gb_H → Option (Unit × gb_H)) (v0 : Nat) (v1 : Int32) (v2 : Int32) (v3 : Int32) (v4 : Int32) (v5 : Int32) (h : gb_H) : Option (Unit × gb_H) :=
  if (8 : Int32) ≤ v5 then
    gb_gd (gb_k h v0 11) <|
    gb_bd (self v0 (v1 + (1 : Int32)) v2 v3 h) fun _ h4 =>
    gb_lt (v4 + (1 : Int32)) fun x5 =>
    k15 v0 v1 v2 v3 x5 h4
  else
    gb_gd (gb_k h v0 11) <|
    gb_rd (gb_R h v0 41) fun a7 =>
    gb_gd (gb_k h v0 11) <|
    gb_rd (gb_R h v0 5) fun a9 =>
    gb_lt (((8 : Int32) * v4) + v5) fun x10 =>
    gb_gd (gb_k h a9 20) <|
    gb_gd (gb_in h a9 x10) <|
    gb_lt (((8 : Int32) * v1) + v5) fun x13 =>
    gb_gd (gb_k h a7 20) <|
    gb_gd (gb_in h a7 x13) <|
    gb_lt (gb_sI h a7 x13.toNatClampNeg (gb_I h a9 x10.toNatClampNeg)) fun h16 =>
    gb_lt (v5 + (1 : Int32)) fun x17 =>
    k35 v0 v1 v2 v3 v4 x17 h16
theorem fbX11_tries_35_ok {X : gb_X} {dS : Nat} {self : Nat → Int32 → Int32 → Int32 → gb_H → Option (Unit × gb_H)} {k15 : Nat → Int32 → Int32 → Int32 → Int32 → gb_H → Option (Unit × gb_H)} {k35 : Nat → Int32 → Int32 → Int32 → Int32 → Int32 → gb_H → Option (Unit × gb_H)} (hself : ∀ a0 a1 a2 a3 h r, self a0 a1 a2 a3 h = some r → gb_Ev X dS mX11_tries 0 (gb_L0 [.ref a0, .int a1, .int a2, .int a3]) [] h (gb_wV r)) (hdS : 7 ≤ dS) (hk15 : ∀ v0 v1 v2 v3 v4 h r, k15 v0 v1 v2 v3 v4 h = some r → gb_Ev X (dS + 1) mX11_tries 15 [some (.ref v0), some (.int v1), some (.int v2), some (.int v3), some (.int v4), none] [] h (gb_wV r)) (hk35 : ∀ v0 v1 v2 v3 v4 v5 h r, k35 v0 v1 v2 v3 v4 v5 h = some r → gb_Ev X (dS + 1) mX11_tries 35 [some (.ref v0), some (.int v1), some (.int v2), some (.int v3), some (.int v4), some (.int v5)] [] h (gb_wV r)) (v0 : Nat) (v1 : Int32) (v2 : Int32) (v3 : Int32) (v4 : Int32) (v5 : Int32) (h : gb_H) (r : Unit × gb_H) (hF : fbX11_tries_35 self k15 k35 v0 v1 v2 v3 v4 v5 h = some r) : gb_Ev X (dS + 1) mX11_tries 35 [some (.ref v0), some (.int v1), some (.int v2), some (.int v3), some (.int v4), some (.int v5)] [] h (gb_wV r) := by
  unfold fbX11_tries_35 at hF
  refine gb_iload dX11_tries_35 rfl ?_
  refine gb_bipush (v := (8 : Int32)) dX11_tries_37 (by decide) ?_
  refine gb_icmp_ge (tgt := 73) dX11_tries_39 (by decide) (fun c1 => ?_) (fun c1 => ?_)
  · replace hF := gb_ifT c1 hF
    refine gb_aload_n dX11_tries_73 rfl rfl ?_
    refine gb_iload_n dX11_tries_74 rfl rfl ?_
    refine gb_iconst (v := (1 : Int32)) dX11_tries_75 (by decide) ?_
    refine gb_iadd dX11_tries_76 ?_
    refine gb_iload_n dX11_tries_77 rfl rfl ?_
    refine gb_iload_n dX11_tries_78 rfl rfl ?_
    obtain ⟨g2, hF⟩ := gb_gdE hF
    obtain ⟨x3, h4, cx3, hF⟩ := gb_bdE hF
    refine gb_cV (As := [.int (v1 + (1 : Int32)), .int v2, .int v3]) (S := []) (v := none) (h1 := h4) (S2 := []) cf11 dX11_tries_79 mtX11_tries lX11_407 inX11_tries seX11_tries (gb_kE g2) (hself _ _ _ _ _ _ cx3) (by omega) rfl (Nat.le_of_ble_eq_true rfl) (Nat.le_of_ble_eq_true rfl) rfl rfl ?_
    obtain ⟨x5, ex5, hF⟩ := gb_ltE hF
    refine gb_iinc (v := x5) (L' := [some (.ref v0), some (.int v1), some (.int v2), some (.int v3), some (.int x5), some (.int v5)]) dX11_tries_82 rfl (by rw [ex5]; rfl) (by decide) rfl rfl ?_
    refine gb_goto (tgt := 15) dX11_tries_85 (by decide) ?_
    exact gb_wk (hk15 v0 v1 v2 v3 x5 h4 r hF) (And.intro rfl (And.intro rfl (And.intro rfl (And.intro rfl (And.intro rfl trivial)))))
  · replace hF := gb_ifF c1 hF
    refine gb_aload_n dX11_tries_42 rfl rfl ?_
    obtain ⟨g6, hF⟩ := gb_gdE hF
    obtain ⟨a7, ea7, hF⟩ := gb_rdE hF
    refine gb_getR fX11_83 dX11_tries_43 (gb_kE g6) ea7 ?_
    refine gb_bipush (v := (8 : Int32)) dX11_tries_46 (by decide) ?_
    refine gb_iload_n dX11_tries_48 rfl rfl ?_
    refine gb_imul dX11_tries_49 ?_
    refine gb_iload dX11_tries_50 rfl ?_
    refine gb_iadd dX11_tries_52 ?_
    refine gb_aload_n dX11_tries_53 rfl rfl ?_
    obtain ⟨g8, hF⟩ := gb_gdE hF
    obtain ⟨a9, ea9, hF⟩ := gb_rdE hF
    refine gb_getR fX11_19 dX11_tries_54 (gb_kE g8) ea9 ?_
    refine gb_bipush (v := (8 : Int32)) dX11_tries_57 (by decide) ?_
    refine gb_iload dX11_tries_59 rfl ?_
    refine gb_imul dX11_tries_61 ?_
    refine gb_iload dX11_tries_62 rfl ?_
    refine gb_iadd dX11_tries_64 ?_
    obtain ⟨x10, ex10, hF⟩ := gb_ltE hF
    refine gb_topI ex10 ?_
    obtain ⟨g11, hF⟩ := gb_gdE hF
    obtain ⟨g12, hF⟩ := gb_gdE hF
    refine gb_iald dX11_tries_65 (gb_kE g11) (gb_inE g12) ?_
    obtain ⟨x13, ex13, hF⟩ := gb_ltE hF
    refine gb_topI2 ex13 ?_
    obtain ⟨g14, hF⟩ := gb_gdE hF
    obtain ⟨g15, hF⟩ := gb_gdE hF
    obtain ⟨h16, eh16, hF⟩ := gb_ltE hF
    refine gb_iast dX11_tries_66 (gb_kE g14) (gb_inE g15) (gb_hp eh16 ?_)
    obtain ⟨x17, ex17, hF⟩ := gb_ltE hF
    refine gb_iinc (v := x17) (L' := [some (.ref v0), some (.int v1), some (.int v2), some (.int v3), some (.int v4), some (.int x17)]) dX11_tries_67 rfl (by rw [ex17]; rfl) (by decide) rfl rfl ?_
    refine gb_goto (tgt := 35) dX11_tries_70 (by decide) ?_
    exact gb_wk (hk35 v0 v1 v2 v3 v4 x17 h16 r hF) (And.intro rfl (And.intro rfl (And.intro rfl (And.intro rfl (And.intro rfl (And.intro rfl trivial))))))
def lpX11_tries_35 (self : Nat → Int32 → Int32 → Int32 → gb_H → Option (Unit × gb_H)) (k15 : Nat → Int32 → Int32 → Int32 → Int32 → gb_H → Option (Unit × gb_H)) (n : Nat) (v0 : Nat) (v1 : Int32) (v2 : Int32) (v3 : Int32) (v4 : Int32) (v5 : Int32) (h : gb_H) : Option (Unit × gb_H) := gb_lp (σ := Nat × Int32 × Int32 × Int32 × Int32 × Int32 × gb_H) (fun k s => fbX11_tries_35 self k15 (fun v0 v1 v2 v3 v4 v5 h => k (v0, v1, v2, v3, v4, v5, h)) s.1 s.2.1 s.2.2.1 s.2.2.2.1 s.2.2.2.2.1 s.2.2.2.2.2.1 s.2.2.2.2.2.2) n (v0, v1, v2, v3, v4, v5, h)
theorem lpX11_tries_35_ok {X : gb_X} {dS : Nat}  {self : Nat → Int32 → Int32 → Int32 → gb_H → Option (Unit × gb_H)} {k15 : Nat → Int32 → Int32 → Int32 → Int32 → gb_H → Option (Unit × gb_H)} (hself : ∀ a0 a1 a2 a3 h r, self a0 a1 a2 a3 h = some r → gb_Ev X dS mX11_tries 0 (gb_L0 [.ref a0, .int a1, .int a2, .int a3]) [] h (gb_wV r)) (hdS : 7 ≤ dS) (hk15 : ∀ v0 v1 v2 v3 v4 h r, k15 v0 v1 v2 v3 v4 h = some r → gb_Ev X (dS + 1) mX11_tries 15 [some (.ref v0), some (.int v1), some (.int v2), some (.int v3), some (.int v4), none] [] h (gb_wV r)) (n : Nat) (v0 : Nat) (v1 : Int32) (v2 : Int32) (v3 : Int32) (v4 : Int32) (v5 : Int32) (h : gb_H) (r : Unit × gb_H) (hF : lpX11_tries_35 self k15 n v0 v1 v2 v3 v4 v5 h = some r) : gb_Ev X (dS + 1) mX11_tries 35 [some (.ref v0), some (.int v1), some (.int v2), some (.int v3), some (.int v4), some (.int v5)] [] h (gb_wV r) := by
  exact gb_lpE (σ := Nat × Int32 × Int32 × Int32 × Int32 × Int32 × gb_H) (P := fun s r => gb_Ev X (dS + 1) mX11_tries 35 [some (.ref s.1), some (.int s.2.1), some (.int s.2.2.1), some (.int s.2.2.2.1), some (.int s.2.2.2.2.1), some (.int s.2.2.2.2.2.1)] [] s.2.2.2.2.2.2 (gb_wV r)) (fun k hk s r hs => fbX11_tries_35_ok hself hdS hk15 (fun v0 v1 v2 v3 v4 v5 h r e => hk (v0, v1, v2, v3, v4, v5, h) r e) _ _ _ _ _ _ _ r hs) n (v0, v1, v2, v3, v4, v5, h) r hF
def fbX11_tries_15 (self : Nat → Int32 → Int32 → Int32 → gb_H → Option (Unit × gb_H)) (k15 : Nat → Int32 → Int32 → Int32 → Int32 → gb_H → Option (Unit × gb_H)) (v0 : Nat) (v1 : Int32) (v2 : Int32) (v3 : Int32) (v4 : Int32) (h : gb_H) : Option (Unit × gb_H) :=
  gb_gd (gb_k h v0 11) <|
  if (gb_I h v0 6) ≤ v4 then
    some ((), h)
  else
    gb_gd (gb_k h v0 11) <|
    gb_rd (gb_R h v0 42) fun a4 =>
    gb_gd (gb_k h a4 20) <|
    gb_gd (gb_in h a4 v1) <|
    gb_lt (gb_sI h a4 v1.toNatClampNeg v4) fun h7 =>
    lpX11_tries_35 self k15 gb_FU v0 v1 v2 v3 v4 (0 : Int32) h7
theorem fbX11_tries_15_ok {X : gb_X} {dS : Nat} {self : Nat → Int32 → Int32 → Int32 → gb_H → Option (Unit × gb_H)} {k15 : Nat → Int32 → Int32 → Int32 → Int32 → gb_H → Option (Unit × gb_H)} (hself : ∀ a0 a1 a2 a3 h r, self a0 a1 a2 a3 h = some r → gb_Ev X dS mX11_tries 0 (gb_L0 [.ref a0, .int a1, .int a2, .int a3]) [] h (gb_wV r)) (hdS : 7 ≤ dS) (hk15 : ∀ v0 v1 v2 v3 v4 h r, k15 v0 v1 v2 v3 v4 h = some r → gb_Ev X (dS + 1) mX11_tries 15 [some (.ref v0), some (.int v1), some (.int v2), some (.int v3), some (.int v4), none] [] h (gb_wV r)) (v0 : Nat) (v1 : Int32) (v2 : Int32) (v3 : Int32) (v4 : Int32) (h : gb_H) (r : Unit × gb_H) (hF : fbX11_tries_15 self k15 v0 v1 v2 v3 v4 h = some r) : gb_Ev X (dS + 1) mX11_tries 15 [some (.ref v0), some (.int v1), some (.int v2), some (.int v3), some (.int v4), none] [] h (gb_wV r) := by
  unfold fbX11_tries_15 at hF
  refine gb_iload dX11_tries_15 rfl ?_
  refine gb_aload_n dX11_tries_17 rfl rfl ?_
  obtain ⟨g1, hF⟩ := gb_gdE hF
  refine gb_getI fX11_212 dX11_tries_18 (gb_kE g1) ?_
  refine gb_icmp_ge (tgt := 88) dX11_tries_21 (by decide) (fun c2 => ?_) (fun c2 => ?_)
  · replace hF := gb_ifT c2 hF
    cases hF
    exact gb_vret dX11_tries_88 rfl
  · replace hF := gb_ifF c2 hF
    refine gb_aload_n dX11_tries_24 rfl rfl ?_
    obtain ⟨g3, hF⟩ := gb_gdE hF
    obtain ⟨a4, ea4, hF⟩ := gb_rdE hF
    refine gb_getR fX11_86 dX11_tries_25 (gb_kE g3) ea4 ?_
    refine gb_iload_n dX11_tries_28 rfl rfl ?_
    refine gb_iload dX11_tries_29 rfl ?_
    obtain ⟨g5, hF⟩ := gb_gdE hF
    obtain ⟨g6, hF⟩ := gb_gdE hF
    obtain ⟨h7, eh7, hF⟩ := gb_ltE hF
    refine gb_iast dX11_tries_31 (gb_kE g5) (gb_inE g6) (gb_hp eh7 ?_)
    refine gb_iconst (v := (0 : Int32)) dX11_tries_32 (by decide) ?_
    refine gb_istore (L' := [some (.ref v0), some (.int v1), some (.int v2), some (.int v3), some (.int v4), some (.int (0 : Int32))]) dX11_tries_33 (by decide) rfl rfl ?_
    exact gb_wk (lpX11_tries_35_ok hself hdS hk15 gb_FU v0 v1 v2 v3 v4 (0 : Int32) h7 r hF) (And.intro rfl (And.intro rfl (And.intro rfl (And.intro rfl (And.intro rfl (And.intro rfl trivial))))))
def lpX11_tries_15 (self : Nat → Int32 → Int32 → Int32 → gb_H → Option (Unit × gb_H)) (n : Nat) (v0 : Nat) (v1 : Int32) (v2 : Int32) (v3 : Int32) (v4 : Int32) (h : gb_H) : Option (Unit × gb_H) := gb_lp (σ := Nat × Int32 × Int32 × Int32 × Int32 × gb_H) (fun k s => fbX11_tries_15 self (fun v0 v1 v2 v3 v4 h => k (v0, v1, v2, v3, v4, h)) s.1 s.2.1 s.2.2.1 s.2.2.2.1 s.2.2.2.2.1 s.2.2.2.2.2) n (v0, v1, v2, v3, v4, h)
theorem lpX11_tries_15_ok {X : gb_X} {dS : Nat}  {self : Nat → Int32 → Int32 → Int32 → gb_H → Option (Unit × gb_H)} (hself : ∀ a0 a1 a2 a3 h r, self a0 a1 a2 a3 h = some r → gb_Ev X dS mX11_tries 0 (gb_L0 [.ref a0, .int a1, .int a2, .int a3]) [] h (gb_wV r)) (hdS : 7 ≤ dS) (n : Nat) (v0 : Nat) (v1 : Int32) (v2 : Int32) (v3 : Int32) (v4 : Int32) (h : gb_H) (r : Unit × gb_H) (hF : lpX11_tries_15 self n v0 v1 v2 v3 v4 h = some r) : gb_Ev X (dS + 1) mX11_tries 15 [some (.ref v0), some (.int v1), some (.int v2), some (.int v3), some (.int v4), none] [] h (gb_wV r) := by
  exact gb_lpE (σ := Nat × Int32 × Int32 × Int32 × Int32 × gb_H) (P := fun s r => gb_Ev X (dS + 1) mX11_tries 15 [some (.ref s.1), some (.int s.2.1), some (.int s.2.2.1), some (.int s.2.2.2.1), some (.int s.2.2.2.2.1), none] [] s.2.2.2.2.2 (gb_wV r)) (fun k hk s r hs => fbX11_tries_15_ok hself hdS (fun v0 v1 v2 v3 v4 h r e => hk (v0, v1, v2, v3, v4, h) r e) _ _ _ _ _ _ r hs) n (v0, v1, v2, v3, v4, h) r hF
def fsX11_tries (self : Nat → Int32 → Int32 → Int32 → gb_H → Option (Unit × gb_H)) (p0 : Nat) (p1 : Int32) (p2 : Int32) (p3 : Int32) (h : gb_H) : Option (Unit × gb_H) :=
  if p1 = p2 then
    gb_gd (gb_k h p0 11) <|
    gb_bd (fnX11_looks p0 p2 p3 h) fun _ h4 =>
    some ((), h4)
  else
    lpX11_tries_15 self gb_FU p0 p1 p2 p3 (0 : Int32) h
theorem fsX11_tries_ok {X : gb_X} {dS : Nat}  {self : Nat → Int32 → Int32 → Int32 → gb_H → Option (Unit × gb_H)} (hself : ∀ a0 a1 a2 a3 h r, self a0 a1 a2 a3 h = some r → gb_Ev X dS mX11_tries 0 (gb_L0 [.ref a0, .int a1, .int a2, .int a3]) [] h (gb_wV r)) (hdS : 7 ≤ dS) {p0 : Nat} {p1 : Int32} {p2 : Int32} {p3 : Int32} (h : gb_H) (r : Unit × gb_H) (hF : fsX11_tries self p0 p1 p2 p3 h = some r) : gb_Ev X (dS + 1) mX11_tries 0 (gb_L0 [.ref p0, .int p1, .int p2, .int p3]) [] h (gb_wV r) := by
  unfold fsX11_tries at hF
  refine gb_weak (L' := [some (.ref p0), some (.int p1), some (.int p2), some (.int p3), none, none]) (And.intro rfl (And.intro rfl (And.intro rfl (And.intro rfl trivial)))) ?_
  refine gb_iload_n dX11_tries_0 rfl rfl ?_
  refine gb_iload_n dX11_tries_1 rfl rfl ?_
  refine gb_icmp_ne (tgt := 12) dX11_tries_2 (by decide) (fun c1 => ?_) (fun c1 => ?_)
  · replace hF := gb_ifF c1 hF
    refine gb_iconst (v := (0 : Int32)) dX11_tries_12 (by decide) ?_
    refine gb_istore (L' := [some (.ref p0), some (.int p1), some (.int p2), some (.int p3), some (.int (0 : Int32)), none]) dX11_tries_13 (by decide) rfl rfl ?_
    exact gb_wk (lpX11_tries_15_ok hself hdS gb_FU p0 p1 p2 p3 (0 : Int32) h r hF) (And.intro rfl (And.intro rfl (And.intro rfl (And.intro rfl (And.intro rfl trivial)))))
  · replace hF := gb_ifT c1 hF
    refine gb_aload_n dX11_tries_5 rfl rfl ?_
    refine gb_iload_n dX11_tries_6 rfl rfl ?_
    refine gb_iload_n dX11_tries_7 rfl rfl ?_
    obtain ⟨g2, hF⟩ := gb_gdE hF
    obtain ⟨x3, h4, cx3, hF⟩ := gb_bdE hF
    refine gb_cV (As := [.int p2, .int p3]) (S := []) (v := none) (h1 := h4) (S2 := []) cf11 dX11_tries_8 mtX11_looks lX11_403 inX11_looks seX11_looks (gb_kE g2) (fnX11_looks_ok _ _ cx3) (by omega) rfl (Nat.le_of_ble_eq_true rfl) (Nat.le_of_ble_eq_true rfl) rfl rfl ?_
    cases hF
    exact gb_vret dX11_tries_11 rfl
def fnX11_tries : Nat → Nat → Int32 → Int32 → Int32 → gb_H → Option (Unit × gb_H)
  | 0 => fun _ _ _ _ _ => none
  | n + 1 => fsX11_tries (fnX11_tries n)
theorem fnX11_tries_ok {X : gb_X} : ∀ (n : Nat) (p0 : Nat) (p1 : Int32) (p2 : Int32) (p3 : Int32) (h : gb_H) (r : Unit × gb_H), fnX11_tries n p0 p1 p2 p3 h = some r → gb_Ev X (7 + n) mX11_tries 0 (gb_L0 [.ref p0, .int p1, .int p2, .int p3]) [] h (gb_wV r)
  | 0, _, _, _, _, _, _, hF => by cases hF
  | n + 1, p0, p1, p2, p3, h, r, hF => fsX11_tries_ok (fun p0 p1 p2 p3 h r e => fnX11_tries_ok n p0 p1 p2 p3 h r e) (by omega) h r hF
def fbX11_plan_30 (h : gb_H) : Option (Int32 × gb_H) :=
  some ((-1 : Int32), h)
theorem fbX11_plan_30_ok {X : gb_X} (h : gb_H) (r : Int32 × gb_H) (hF : fbX11_plan_30 h = some r) : gb_Ev X 16 mX11_plan 30 [none, none, none, none, none, none, none, none, none] [] h (gb_wI r) := by
  unfold fbX11_plan_30 at hF
  refine gb_iconst (v := (-1 : Int32)) dX11_plan_30 (by decide) ?_
  cases hF
  exact gb_iret dX11_plan_31 rfl
def fbX11_plan_166 (k140 : Nat → Int32 → gb_H → Option (Int32 × gb_H)) (k166 : Nat → Int32 → Int32 → gb_H → Option (Int32 × gb_H)) (v0 : Nat) (v7 : Int32) (v8 : Int32) (h : gb_H) : Option (Int32 × gb_H) :=
  if (8 : Int32) ≤ v8 then
    gb_lt (v7 + (1 : Int32)) fun x2 =>
    k140 v0 x2 h
  else
    gb_gd (gb_k h v0 11) <|
    gb_rd (gb_R h v0 44) fun a4 =>
    gb_gd (gb_k h v0 11) <|
    gb_rd (gb_R h v0 5) fun a6 =>
    gb_gd (gb_k h v0 11) <|
    gb_rd (gb_R h v0 43) fun a8 =>
    gb_gd (gb_k h a8 20) <|
    gb_gd (gb_in h a8 v7) <|
    gb_lt (((8 : Int32) * (gb_I h a8 v7.toNatClampNeg)) + v8) fun x11 =>
    gb_gd (gb_k h a6 20) <|
    gb_gd (gb_in h a6 x11) <|
    gb_lt (((8 : Int32) * v7) + v8) fun x14 =>
    gb_gd (gb_k h a4 20) <|
    gb_gd (gb_in h a4 x14) <|
    gb_lt (gb_sI h a4 x14.toNatClampNeg (gb_I h a6 x11.toNatClampNeg)) fun h17 =>
    gb_lt (v8 + (1 : Int32)) fun x18 =>
    k166 v0 v7 x18 h17
theorem fbX11_plan_166_ok {X : gb_X} {k140 : Nat → Int32 → gb_H → Option (Int32 × gb_H)} {k166 : Nat → Int32 → Int32 → gb_H → Option (Int32 × gb_H)} (hk140 : ∀ v0 v7 h r, k140 v0 v7 h = some r → gb_Ev X 16 mX11_plan 140 [some (.ref v0), none, none, none, none, none, none, some (.int v7), none] [] h (gb_wI r)) (hk166 : ∀ v0 v7 v8 h r, k166 v0 v7 v8 h = some r → gb_Ev X 16 mX11_plan 166 [some (.ref v0), none, none, none, none, none, none, some (.int v7), some (.int v8)] [] h (gb_wI r)) (v0 : Nat) (v7 : Int32) (v8 : Int32) (h : gb_H) (r : Int32 × gb_H) (hF : fbX11_plan_166 k140 k166 v0 v7 v8 h = some r) : gb_Ev X 16 mX11_plan 166 [some (.ref v0), none, none, none, none, none, none, some (.int v7), some (.int v8)] [] h (gb_wI r) := by
  unfold fbX11_plan_166 at hF
  refine gb_iload dX11_plan_166 rfl ?_
  refine gb_bipush (v := (8 : Int32)) dX11_plan_168 (by decide) ?_
  refine gb_icmp_ge (tgt := 210) dX11_plan_170 (by decide) (fun c1 => ?_) (fun c1 => ?_)
  · replace hF := gb_ifT c1 hF
    obtain ⟨x2, ex2, hF⟩ := gb_ltE hF
    refine gb_iinc (v := x2) (L' := [some (.ref v0), none, none, none, none, none, none, some (.int x2), some (.int v8)]) dX11_plan_210 rfl (by rw [ex2]; rfl) (by decide) rfl rfl ?_
    refine gb_goto (tgt := 140) dX11_plan_213 (by decide) ?_
    exact gb_wk (hk140 v0 x2 h r hF) (And.intro rfl (And.intro rfl trivial))
  · replace hF := gb_ifF c1 hF
    refine gb_aload_n dX11_plan_173 rfl rfl ?_
    obtain ⟨g3, hF⟩ := gb_gdE hF
    obtain ⟨a4, ea4, hF⟩ := gb_rdE hF
    refine gb_getR fX11_92 dX11_plan_174 (gb_kE g3) ea4 ?_
    refine gb_bipush (v := (8 : Int32)) dX11_plan_177 (by decide) ?_
    refine gb_iload dX11_plan_179 rfl ?_
    refine gb_imul dX11_plan_181 ?_
    refine gb_iload dX11_plan_182 rfl ?_
    refine gb_iadd dX11_plan_184 ?_
    refine gb_aload_n dX11_plan_185 rfl rfl ?_
    obtain ⟨g5, hF⟩ := gb_gdE hF
    obtain ⟨a6, ea6, hF⟩ := gb_rdE hF
    refine gb_getR fX11_19 dX11_plan_186 (gb_kE g5) ea6 ?_
    refine gb_bipush (v := (8 : Int32)) dX11_plan_189 (by decide) ?_
    refine gb_aload_n dX11_plan_191 rfl rfl ?_
    obtain ⟨g7, hF⟩ := gb_gdE hF
    obtain ⟨a8, ea8, hF⟩ := gb_rdE hF
    refine gb_getR fX11_89 dX11_plan_192 (gb_kE g7) ea8 ?_
    refine gb_iload dX11_plan_195 rfl ?_
    obtain ⟨g9, hF⟩ := gb_gdE hF
    obtain ⟨g10, hF⟩ := gb_gdE hF
    refine gb_iald dX11_plan_197 (gb_kE g9) (gb_inE g10) ?_
    refine gb_imul dX11_plan_198 ?_
    refine gb_iload dX11_plan_199 rfl ?_
    refine gb_iadd dX11_plan_201 ?_
    obtain ⟨x11, ex11, hF⟩ := gb_ltE hF
    refine gb_topI ex11 ?_
    obtain ⟨g12, hF⟩ := gb_gdE hF
    obtain ⟨g13, hF⟩ := gb_gdE hF
    refine gb_iald dX11_plan_202 (gb_kE g12) (gb_inE g13) ?_
    obtain ⟨x14, ex14, hF⟩ := gb_ltE hF
    refine gb_topI2 ex14 ?_
    obtain ⟨g15, hF⟩ := gb_gdE hF
    obtain ⟨g16, hF⟩ := gb_gdE hF
    obtain ⟨h17, eh17, hF⟩ := gb_ltE hF
    refine gb_iast dX11_plan_203 (gb_kE g15) (gb_inE g16) (gb_hp eh17 ?_)
    obtain ⟨x18, ex18, hF⟩ := gb_ltE hF
    refine gb_iinc (v := x18) (L' := [some (.ref v0), none, none, none, none, none, none, some (.int v7), some (.int x18)]) dX11_plan_204 rfl (by rw [ex18]; rfl) (by decide) rfl rfl ?_
    refine gb_goto (tgt := 166) dX11_plan_207 (by decide) ?_
    exact gb_wk (hk166 v0 v7 x18 h17 r hF) (And.intro rfl (And.intro rfl (And.intro rfl trivial)))
def lpX11_plan_166 (k140 : Nat → Int32 → gb_H → Option (Int32 × gb_H)) (n : Nat) (v0 : Nat) (v7 : Int32) (v8 : Int32) (h : gb_H) : Option (Int32 × gb_H) := gb_lp (σ := Nat × Int32 × Int32 × gb_H) (fun k s => fbX11_plan_166 k140 (fun v0 v7 v8 h => k (v0, v7, v8, h)) s.1 s.2.1 s.2.2.1 s.2.2.2) n (v0, v7, v8, h)
theorem lpX11_plan_166_ok {X : gb_X}  {k140 : Nat → Int32 → gb_H → Option (Int32 × gb_H)} (hk140 : ∀ v0 v7 h r, k140 v0 v7 h = some r → gb_Ev X 16 mX11_plan 140 [some (.ref v0), none, none, none, none, none, none, some (.int v7), none] [] h (gb_wI r)) (n : Nat) (v0 : Nat) (v7 : Int32) (v8 : Int32) (h : gb_H) (r : Int32 × gb_H) (hF : lpX11_plan_166 k140 n v0 v7 v8 h = some r) : gb_Ev X 16 mX11_plan 166 [some (.ref v0), none, none, none, none, none, none, some (.int v7), some (.int v8)] [] h (gb_wI r) := by
  exact gb_lpE (σ := Nat × Int32 × Int32 × gb_H) (P := fun s r => gb_Ev X 16 mX11_plan 166 [some (.ref s.1), none, none, none, none, none, none, some (.int s.2.1), some (.int s.2.2.1)] [] s.2.2.2 (gb_wI r)) (fun k hk s r hs => fbX11_plan_166_ok hk140 (fun v0 v7 v8 h r e => hk (v0, v7, v8, h) r e) _ _ _ _ r hs) n (v0, v7, v8, h) r hF
def fbX11_plan_140 (k140 : Nat → Int32 → gb_H → Option (Int32 × gb_H)) (v0 : Nat) (v7 : Int32) (h : gb_H) : Option (Int32 × gb_H) :=
  gb_gd (gb_k h v0 11) <|
  if (gb_I h v0 47) ≤ v7 then
    gb_gd (gb_k h v0 11) <|
    some (gb_I h v0 46, h)
  else
    gb_gd (gb_k h v0 11) <|
    gb_rd (gb_R h v0 45) fun a5 =>
    gb_gd (gb_k h v0 11) <|
    gb_rd (gb_R h v0 43) fun a7 =>
    gb_gd (gb_k h a7 20) <|
    gb_gd (gb_in h a7 v7) <|
    gb_gd (gb_k h a5 20) <|
    gb_gd (gb_in h a5 v7) <|
    gb_lt (gb_sI h a5 v7.toNatClampNeg (gb_I h a7 v7.toNatClampNeg)) fun h12 =>
    lpX11_plan_166 k140 gb_FU v0 v7 (0 : Int32) h12
theorem fbX11_plan_140_ok {X : gb_X} {k140 : Nat → Int32 → gb_H → Option (Int32 × gb_H)} (hk140 : ∀ v0 v7 h r, k140 v0 v7 h = some r → gb_Ev X 16 mX11_plan 140 [some (.ref v0), none, none, none, none, none, none, some (.int v7), none] [] h (gb_wI r)) (v0 : Nat) (v7 : Int32) (h : gb_H) (r : Int32 × gb_H) (hF : fbX11_plan_140 k140 v0 v7 h = some r) : gb_Ev X 16 mX11_plan 140 [some (.ref v0), none, none, none, none, none, none, some (.int v7), none] [] h (gb_wI r) := by
  unfold fbX11_plan_140 at hF
  refine gb_iload dX11_plan_140 rfl ?_
  refine gb_aload_n dX11_plan_142 rfl rfl ?_
  obtain ⟨g1, hF⟩ := gb_gdE hF
  refine gb_getI fX11_384 dX11_plan_143 (gb_kE g1) ?_
  refine gb_icmp_ge (tgt := 216) dX11_plan_146 (by decide) (fun c2 => ?_) (fun c2 => ?_)
  · replace hF := gb_ifT c2 hF
    refine gb_aload_n dX11_plan_216 rfl rfl ?_
    obtain ⟨g3, hF⟩ := gb_gdE hF
    refine gb_getI fX11_98 dX11_plan_217 (gb_kE g3) ?_
    cases hF
    exact gb_iret dX11_plan_220 rfl
  · replace hF := gb_ifF c2 hF
    refine gb_aload_n dX11_plan_149 rfl rfl ?_
    obtain ⟨g4, hF⟩ := gb_gdE hF
    obtain ⟨a5, ea5, hF⟩ := gb_rdE hF
    refine gb_getR fX11_95 dX11_plan_150 (gb_kE g4) ea5 ?_
    refine gb_iload dX11_plan_153 rfl ?_
    refine gb_aload_n dX11_plan_155 rfl rfl ?_
    obtain ⟨g6, hF⟩ := gb_gdE hF
    obtain ⟨a7, ea7, hF⟩ := gb_rdE hF
    refine gb_getR fX11_89 dX11_plan_156 (gb_kE g6) ea7 ?_
    refine gb_iload dX11_plan_159 rfl ?_
    obtain ⟨g8, hF⟩ := gb_gdE hF
    obtain ⟨g9, hF⟩ := gb_gdE hF
    refine gb_iald dX11_plan_161 (gb_kE g8) (gb_inE g9) ?_
    obtain ⟨g10, hF⟩ := gb_gdE hF
    obtain ⟨g11, hF⟩ := gb_gdE hF
    obtain ⟨h12, eh12, hF⟩ := gb_ltE hF
    refine gb_iast dX11_plan_162 (gb_kE g10) (gb_inE g11) (gb_hp eh12 ?_)
    refine gb_iconst (v := (0 : Int32)) dX11_plan_163 (by decide) ?_
    refine gb_istore (L' := [some (.ref v0), none, none, none, none, none, none, some (.int v7), some (.int (0 : Int32))]) dX11_plan_164 (by decide) rfl rfl ?_
    exact gb_wk (lpX11_plan_166_ok hk140 gb_FU v0 v7 (0 : Int32) h12 r hF) (And.intro rfl (And.intro rfl (And.intro rfl trivial)))
def lpX11_plan_140 (n : Nat) (v0 : Nat) (v7 : Int32) (h : gb_H) : Option (Int32 × gb_H) := gb_lp (σ := Nat × Int32 × gb_H) (fun k s => fbX11_plan_140 (fun v0 v7 h => k (v0, v7, h)) s.1 s.2.1 s.2.2) n (v0, v7, h)
theorem lpX11_plan_140_ok {X : gb_X}  (n : Nat) (v0 : Nat) (v7 : Int32) (h : gb_H) (r : Int32 × gb_H) (hF : lpX11_plan_140 n v0 v7 h = some r) : gb_Ev X 16 mX11_plan 140 [some (.ref v0), none, none, none, none, none, none, some (.int v7), none] [] h (gb_wI r) := by
  exact gb_lpE (σ := Nat × Int32 × gb_H) (P := fun s r => gb_Ev X 16 mX11_plan 140 [some (.ref s.1), none, none, none, none, none, none, some (.int s.2.1), none] [] s.2.2 (gb_wI r)) (fun k hk s r hs => fbX11_plan_140_ok (fun v0 v7 h r e => hk (v0, v7, h) r e) _ _ _ r hs) n (v0, v7, h) r hF
def fbX11_plan_75 (k75 : Nat → Int32 → Int32 → Int32 → Int32 → Int32 → Int32 → Int32 → gb_H → Option (Int32 × gb_H)) (v0 : Nat) (v1 : Int32) (v2 : Int32) (v3 : Int32) (v4 : Int32) (v5 : Int32) (v6 : Int32) (v7 : Int32) (h : gb_H) : Option (Int32 × gb_H) :=
  if v1 < v7 then
    gb_gd (gb_k h v0 11) <|
    gb_gd (gb_k h v0 11) <|
    gb_lt (gb_sI h v0 46 (gb_I h v0 47)) fun h4 =>
    gb_gd (gb_k h4 v0 11) <|
    gb_gd (gb_k h4 v0 11) <|
    gb_lt (gb_sL h4 v0 51 (gb_L h4 v0 48)) fun h7 =>
    gb_gd (gb_k h7 v0 11) <|
    gb_gd (gb_k h7 v0 11) <|
    gb_lt (gb_sL h7 v0 52 (gb_L h7 v0 49)) fun h10 =>
    gb_gd (gb_k h10 v0 11) <|
    gb_gd (gb_k h10 v0 11) <|
    gb_lt (gb_sL h10 v0 53 (gb_L h10 v0 50)) fun h13 =>
    lpX11_plan_140 gb_FU v0 (0 : Int32) h13
  else
    gb_bd (fnX11_placeOf v2 v3 v4 v5 v6 h) fun x14 h15 =>
    gb_gd (gb_k h15 v0 11) <|
    gb_bd (fnX11_tries gb_RD v0 (0 : Int32) v7 x14 h15) fun _ h18 =>
    gb_lt (v7 + (1 : Int32)) fun x19 =>
    k75 v0 v1 v2 v3 v4 v5 v6 x19 h18
theorem fbX11_plan_75_ok {X : gb_X} {k75 : Nat → Int32 → Int32 → Int32 → Int32 → Int32 → Int32 → Int32 → gb_H → Option (Int32 × gb_H)} (hk75 : ∀ v0 v1 v2 v3 v4 v5 v6 v7 h r, k75 v0 v1 v2 v3 v4 v5 v6 v7 h = some r → gb_Ev X 16 mX11_plan 75 [some (.ref v0), some (.int v1), some (.int v2), some (.int v3), some (.int v4), some (.int v5), some (.int v6), some (.int v7), none] [] h (gb_wI r)) (v0 : Nat) (v1 : Int32) (v2 : Int32) (v3 : Int32) (v4 : Int32) (v5 : Int32) (v6 : Int32) (v7 : Int32) (h : gb_H) (r : Int32 × gb_H) (hF : fbX11_plan_75 k75 v0 v1 v2 v3 v4 v5 v6 v7 h = some r) : gb_Ev X 16 mX11_plan 75 [some (.ref v0), some (.int v1), some (.int v2), some (.int v3), some (.int v4), some (.int v5), some (.int v6), some (.int v7), none] [] h (gb_wI r) := by
  unfold fbX11_plan_75 at hF
  refine gb_iload dX11_plan_75 rfl ?_
  refine gb_iload_n dX11_plan_77 rfl rfl ?_
  refine gb_icmp_gt (tgt := 105) dX11_plan_78 (by decide) (fun c1 => ?_) (fun c1 => ?_)
  · replace hF := gb_ifT c1 hF
    refine gb_aload_n dX11_plan_105 rfl rfl ?_
    refine gb_aload_n dX11_plan_106 rfl rfl ?_
    obtain ⟨g2, hF⟩ := gb_gdE hF
    refine gb_getI fX11_384 dX11_plan_107 (gb_kE g2) ?_
    obtain ⟨g3, hF⟩ := gb_gdE hF
    obtain ⟨h4, eh4, hF⟩ := gb_ltE hF
    refine gb_putI fX11_98 (gb_nff nf11_46) dX11_plan_110 (gb_kE g3) (fun _ => ⟨rfl, rfl⟩) (gb_hp eh4 ?_)
    refine gb_aload_n dX11_plan_113 rfl rfl ?_
    refine gb_aload_n dX11_plan_114 rfl rfl ?_
    obtain ⟨g5, hF⟩ := gb_gdE hF
    refine gb_getL fX11_390 dX11_plan_115 (gb_kE g5) ?_
    obtain ⟨g6, hF⟩ := gb_gdE hF
    obtain ⟨h7, eh7, hF⟩ := gb_ltE hF
    refine gb_putL fX11_417 (gb_nff nf11_51) dX11_plan_118 (gb_kE g6) (fun _ => ⟨rfl, rfl⟩) (gb_hp eh7 ?_)
    refine gb_aload_n dX11_plan_121 rfl rfl ?_
    refine gb_aload_n dX11_plan_122 rfl rfl ?_
    obtain ⟨g8, hF⟩ := gb_gdE hF
    refine gb_getL fX11_396 dX11_plan_123 (gb_kE g8) ?_
    obtain ⟨g9, hF⟩ := gb_gdE hF
    obtain ⟨h10, eh10, hF⟩ := gb_ltE hF
    refine gb_putL fX11_420 (gb_nff nf11_52) dX11_plan_126 (gb_kE g9) (fun _ => ⟨rfl, rfl⟩) (gb_hp eh10 ?_)
    refine gb_aload_n dX11_plan_129 rfl rfl ?_
    refine gb_aload_n dX11_plan_130 rfl rfl ?_
    obtain ⟨g11, hF⟩ := gb_gdE hF
    refine gb_getL fX11_393 dX11_plan_131 (gb_kE g11) ?_
    obtain ⟨g12, hF⟩ := gb_gdE hF
    obtain ⟨h13, eh13, hF⟩ := gb_ltE hF
    refine gb_putL fX11_423 (gb_nff nf11_53) dX11_plan_134 (gb_kE g12) (fun _ => ⟨rfl, rfl⟩) (gb_hp eh13 ?_)
    refine gb_iconst (v := (0 : Int32)) dX11_plan_137 (by decide) ?_
    refine gb_istore (L' := [some (.ref v0), some (.int v1), some (.int v2), some (.int v3), some (.int v4), some (.int v5), some (.int v6), some (.int (0 : Int32)), none]) dX11_plan_138 (by decide) rfl rfl ?_
    exact gb_wk (lpX11_plan_140_ok gb_FU v0 (0 : Int32) h13 r hF) (And.intro rfl (And.intro rfl trivial))
  · replace hF := gb_ifF c1 hF
    refine gb_aload_n dX11_plan_81 rfl rfl ?_
    refine gb_iconst (v := (0 : Int32)) dX11_plan_82 (by decide) ?_
    refine gb_iload dX11_plan_83 rfl ?_
    refine gb_iload_n dX11_plan_85 rfl rfl ?_
    refine gb_iload_n dX11_plan_86 rfl rfl ?_
    refine gb_iload dX11_plan_87 rfl ?_
    refine gb_iload dX11_plan_89 rfl ?_
    refine gb_iload dX11_plan_91 rfl ?_
    obtain ⟨x14, h15, cx14, hF⟩ := gb_bdE hF
    refine gb_cS (As := [.int v2, .int v3, .int v4, .int v5, .int v6]) (S := [.int v7, .int (0 : Int32), .ref v0]) (v := some (.int x14)) (h1 := h15) (S2 := [.int x14, .int v7, .int (0 : Int32), .ref v0]) dX11_plan_93 mtX11_placeOf lX11_322 stX11_placeOf (fnX11_placeOf_ok _ _ cx14) (by decide) rfl (Nat.le_of_ble_eq_true rfl) (Nat.le_of_ble_eq_true rfl) rfl rfl ?_
    obtain ⟨g16, hF⟩ := gb_gdE hF
    obtain ⟨x17, h18, cx17, hF⟩ := gb_bdE hF
    refine gb_cV (As := [.int (0 : Int32), .int v7, .int x14]) (S := []) (v := none) (h1 := h18) (S2 := []) cf11 dX11_plan_96 mtX11_tries lX11_407 inX11_tries seX11_tries (gb_kE g16) (fnX11_tries_ok gb_RD _ _ _ _ _ _ cx17) (by decide) rfl (Nat.le_of_ble_eq_true rfl) (Nat.le_of_ble_eq_true rfl) rfl rfl ?_
    obtain ⟨x19, ex19, hF⟩ := gb_ltE hF
    refine gb_iinc (v := x19) (L' := [some (.ref v0), some (.int v1), some (.int v2), some (.int v3), some (.int v4), some (.int v5), some (.int v6), some (.int x19), none]) dX11_plan_99 rfl (by rw [ex19]; rfl) (by decide) rfl rfl ?_
    refine gb_goto (tgt := 75) dX11_plan_102 (by decide) ?_
    exact gb_wk (hk75 v0 v1 v2 v3 v4 v5 v6 x19 h18 r hF) (And.intro rfl (And.intro rfl (And.intro rfl (And.intro rfl (And.intro rfl (And.intro rfl (And.intro rfl (And.intro rfl trivial))))))))
def lpX11_plan_75 (n : Nat) (v0 : Nat) (v1 : Int32) (v2 : Int32) (v3 : Int32) (v4 : Int32) (v5 : Int32) (v6 : Int32) (v7 : Int32) (h : gb_H) : Option (Int32 × gb_H) := gb_lp (σ := Nat × Int32 × Int32 × Int32 × Int32 × Int32 × Int32 × Int32 × gb_H) (fun k s => fbX11_plan_75 (fun v0 v1 v2 v3 v4 v5 v6 v7 h => k (v0, v1, v2, v3, v4, v5, v6, v7, h)) s.1 s.2.1 s.2.2.1 s.2.2.2.1 s.2.2.2.2.1 s.2.2.2.2.2.1 s.2.2.2.2.2.2.1 s.2.2.2.2.2.2.2.1 s.2.2.2.2.2.2.2.2) n (v0, v1, v2, v3, v4, v5, v6, v7, h)
theorem lpX11_plan_75_ok {X : gb_X}  (n : Nat) (v0 : Nat) (v1 : Int32) (v2 : Int32) (v3 : Int32) (v4 : Int32) (v5 : Int32) (v6 : Int32) (v7 : Int32) (h : gb_H) (r : Int32 × gb_H) (hF : lpX11_plan_75 n v0 v1 v2 v3 v4 v5 v6 v7 h = some r) : gb_Ev X 16 mX11_plan 75 [some (.ref v0), some (.int v1), some (.int v2), some (.int v3), some (.int v4), some (.int v5), some (.int v6), some (.int v7), none] [] h (gb_wI r) := by
  exact gb_lpE (σ := Nat × Int32 × Int32 × Int32 × Int32 × Int32 × Int32 × Int32 × gb_H) (P := fun s r => gb_Ev X 16 mX11_plan 75 [some (.ref s.1), some (.int s.2.1), some (.int s.2.2.1), some (.int s.2.2.2.1), some (.int s.2.2.2.2.1), some (.int s.2.2.2.2.2.1), some (.int s.2.2.2.2.2.2.1), some (.int s.2.2.2.2.2.2.2.1), none] [] s.2.2.2.2.2.2.2.2 (gb_wI r)) (fun k hk s r hs => fbX11_plan_75_ok (fun v0 v1 v2 v3 v4 v5 v6 v7 h r e => hk (v0, v1, v2, v3, v4, v5, v6, v7, h) r e) _ _ _ _ _ _ _ _ _ r hs) n (v0, v1, v2, v3, v4, v5, v6, v7, h) r hF
def fbX11_plan_64 (v0 : Nat) (v1 : Int32) (v2 : Int32) (v3 : Int32) (v4 : Int32) (v5 : Int32) (v6 : Int32) (s0 : Nat) (s1 : Int64) (h : gb_H) : Option (Int32 × gb_H) :=
  gb_gd (gb_k h s0 11) <|
  gb_lt (gb_sL h s0 54 s1) fun h2 =>
  gb_gd (gb_k h2 v0 11) <|
  gb_lt (gb_sI h2 v0 47 (-1 : Int32)) fun h4 =>
  lpX11_plan_75 gb_FU v0 v1 v2 v3 v4 v5 v6 (0 : Int32) h4
theorem fbX11_plan_64_ok {X : gb_X} (v0 : Nat) (v1 : Int32) (v2 : Int32) (v3 : Int32) (v4 : Int32) (v5 : Int32) (v6 : Int32) (s0 : Nat) (s1 : Int64) (h : gb_H) (r : Int32 × gb_H) (hF : fbX11_plan_64 v0 v1 v2 v3 v4 v5 v6 s0 s1 h = some r) : gb_Ev X 16 mX11_plan 64 [some (.ref v0), some (.int v1), some (.int v2), some (.int v3), some (.int v4), some (.int v5), some (.int v6), none, none] [.long s1, .ref s0] h (gb_wI r) := by
  unfold fbX11_plan_64 at hF
  obtain ⟨g1, hF⟩ := gb_gdE hF
  obtain ⟨h2, eh2, hF⟩ := gb_ltE hF
  refine gb_putL fX11_387 (gb_nff nf11_54) dX11_plan_64 (gb_kE g1) (fun _ => ⟨rfl, rfl⟩) (gb_hp eh2 ?_)
  refine gb_aload_n dX11_plan_67 rfl rfl ?_
  refine gb_iconst (v := (-1 : Int32)) dX11_plan_68 (by decide) ?_
  obtain ⟨g3, hF⟩ := gb_gdE hF
  obtain ⟨h4, eh4, hF⟩ := gb_ltE hF
  refine gb_putI fX11_384 (gb_nff nf11_47) dX11_plan_69 (gb_kE g3) (fun _ => ⟨rfl, rfl⟩) (gb_hp eh4 ?_)
  refine gb_iconst (v := (0 : Int32)) dX11_plan_72 (by decide) ?_
  refine gb_istore (L' := [some (.ref v0), some (.int v1), some (.int v2), some (.int v3), some (.int v4), some (.int v5), some (.int v6), some (.int (0 : Int32)), none]) dX11_plan_73 (by decide) rfl rfl ?_
  exact gb_wk (lpX11_plan_75_ok gb_FU v0 v1 v2 v3 v4 v5 v6 (0 : Int32) h4 r hF) (And.intro rfl (And.intro rfl (And.intro rfl (And.intro rfl (And.intro rfl (And.intro rfl (And.intro rfl (And.intro rfl trivial))))))))
def fnX11_plan (p0 : Nat) (p1 : Int32) (p2 : Int32) (p3 : Int32) (p4 : Int32) (p5 : Int32) (p6 : Int32) (h : gb_H) : Option (Int32 × gb_H) :=
  gb_bd (fnX11_in p1 (0 : Int32) (3 : Int32) h) fun x1 h2 =>
  if x1 = 0 then
    fbX11_plan_30 h2
  else
    gb_bd (fnX11_areCounts p2 p3 p4 p5 p6 h2) fun x4 h5 =>
    if x4 = 0 then
      fbX11_plan_30 h5
    else
      gb_gd (gb_k h5 p0 11) <|
      if (gb_I h5 p0 1) = 0 then
        fbX11_plan_30 h5
      else
        gb_gd (gb_k h5 p0 11) <|
        if (gb_I h5 p0 1) = (1 : Int32) then
          fbX11_plan_64 p0 p1 p2 p3 p4 p5 p6 p0 (1000000 : Int64) h5
        else
          gb_gd (gb_k h5 p0 11) <|
          if (gb_I h5 p0 1) = (2 : Int32) then
            fbX11_plan_64 p0 p1 p2 p3 p4 p5 p6 p0 (2000000000000 : Int64) h5
          else
            fbX11_plan_64 p0 p1 p2 p3 p4 p5 p6 p0 (384000000000000 : Int64) h5
theorem fnX11_plan_ok {X : gb_X}  {p0 : Nat} {p1 : Int32} {p2 : Int32} {p3 : Int32} {p4 : Int32} {p5 : Int32} {p6 : Int32} (h : gb_H) (r : Int32 × gb_H) (hF : fnX11_plan p0 p1 p2 p3 p4 p5 p6 h = some r) : gb_Ev X 16 mX11_plan 0 (gb_L0 [.ref p0, .int p1, .int p2, .int p3, .int p4, .int p5, .int p6]) [] h (gb_wI r) := by
  unfold fnX11_plan at hF
  refine gb_weak (L' := [some (.ref p0), some (.int p1), some (.int p2), some (.int p3), some (.int p4), some (.int p5), some (.int p6), none, none]) (And.intro rfl (And.intro rfl (And.intro rfl (And.intro rfl (And.intro rfl (And.intro rfl (And.intro rfl trivial))))))) ?_
  refine gb_iload_n dX11_plan_0 rfl rfl ?_
  refine gb_iconst (v := (0 : Int32)) dX11_plan_1 (by decide) ?_
  refine gb_iconst (v := (3 : Int32)) dX11_plan_2 (by decide) ?_
  obtain ⟨x1, h2, cx1, hF⟩ := gb_bdE hF
  refine gb_cS (As := [.int p1, .int (0 : Int32), .int (3 : Int32)]) (S := []) (v := some (.int x1)) (h1 := h2) (S2 := [.int x1]) dX11_plan_3 mtX11_in lX11_104 stX11_in (fnX11_in_ok _ _ cx1) (by decide) rfl (Nat.le_of_ble_eq_true rfl) (Nat.le_of_ble_eq_true rfl) rfl rfl ?_
  refine gb_if_eq (tgt := 30) dX11_plan_6 (by decide) (fun c3 => ?_) (fun c3 => ?_)
  · replace hF := gb_ifT c3 hF
    exact gb_wk (fbX11_plan_30_ok h2 r hF) trivial
  · replace hF := gb_ifF c3 hF
    refine gb_iload_n dX11_plan_9 rfl rfl ?_
    refine gb_iload_n dX11_plan_10 rfl rfl ?_
    refine gb_iload dX11_plan_11 rfl ?_
    refine gb_iload dX11_plan_13 rfl ?_
    refine gb_iload dX11_plan_15 rfl ?_
    obtain ⟨x4, h5, cx4, hF⟩ := gb_bdE hF
    refine gb_cS (As := [.int p2, .int p3, .int p4, .int p5, .int p6]) (S := []) (v := some (.int x4)) (h1 := h5) (S2 := [.int x4]) dX11_plan_17 mtX11_areCounts lX11_315 stX11_areCounts (fnX11_areCounts_ok _ _ cx4) (by decide) rfl (Nat.le_of_ble_eq_true rfl) (Nat.le_of_ble_eq_true rfl) rfl rfl ?_
    refine gb_if_eq (tgt := 30) dX11_plan_20 (by decide) (fun c6 => ?_) (fun c6 => ?_)
    · replace hF := gb_ifT c6 hF
      exact gb_wk (fbX11_plan_30_ok h5 r hF) trivial
    · replace hF := gb_ifF c6 hF
      refine gb_aload_n dX11_plan_23 rfl rfl ?_
      obtain ⟨g7, hF⟩ := gb_gdE hF
      refine gb_getI fX11_112 dX11_plan_24 (gb_kE g7) ?_
      refine gb_if_ne (tgt := 32) dX11_plan_27 (by decide) (fun c8 => ?_) (fun c8 => ?_)
      · replace hF := gb_ifF c8 hF
        refine gb_aload_n dX11_plan_32 rfl rfl ?_
        refine gb_aload_n dX11_plan_33 rfl rfl ?_
        obtain ⟨g9, hF⟩ := gb_gdE hF
        refine gb_getI fX11_112 dX11_plan_34 (gb_kE g9) ?_
        refine gb_iconst (v := (1 : Int32)) dX11_plan_37 (by decide) ?_
        refine gb_icmp_ne (tgt := 47) dX11_plan_38 (by decide) (fun c10 => ?_) (fun c10 => ?_)
        · replace hF := gb_ifF c10 hF
          refine gb_aload_n dX11_plan_47 rfl rfl ?_
          obtain ⟨g11, hF⟩ := gb_gdE hF
          refine gb_getI fX11_112 dX11_plan_48 (gb_kE g11) ?_
          refine gb_iconst (v := (2 : Int32)) dX11_plan_51 (by decide) ?_
          refine gb_icmp_ne (tgt := 61) dX11_plan_52 (by decide) (fun c12 => ?_) (fun c12 => ?_)
          · replace hF := gb_ifF c12 hF
            refine gb_ldc2 (v := (384000000000000 : Int64)) dX11_plan_61 kX11_415 ?_
            exact gb_wk (fbX11_plan_64_ok p0 p1 p2 p3 p4 p5 p6 p0 (384000000000000 : Int64) h5 r hF) (And.intro rfl (And.intro rfl (And.intro rfl (And.intro rfl (And.intro rfl (And.intro rfl (And.intro rfl trivial)))))))
          · replace hF := gb_ifT c12 hF
            refine gb_ldc2 (v := (2000000000000 : Int64)) dX11_plan_55 kX11_413 ?_
            refine gb_goto (tgt := 64) dX11_plan_58 (by decide) ?_
            exact gb_wk (fbX11_plan_64_ok p0 p1 p2 p3 p4 p5 p6 p0 (2000000000000 : Int64) h5 r hF) (And.intro rfl (And.intro rfl (And.intro rfl (And.intro rfl (And.intro rfl (And.intro rfl (And.intro rfl trivial)))))))
        · replace hF := gb_ifT c10 hF
          refine gb_ldc2 (v := (1000000 : Int64)) dX11_plan_41 kX11_411 ?_
          refine gb_goto (tgt := 64) dX11_plan_44 (by decide) ?_
          exact gb_wk (fbX11_plan_64_ok p0 p1 p2 p3 p4 p5 p6 p0 (1000000 : Int64) h5 r hF) (And.intro rfl (And.intro rfl (And.intro rfl (And.intro rfl (And.intro rfl (And.intro rfl (And.intro rfl trivial)))))))
      · replace hF := gb_ifT c8 hF
        exact gb_wk (fbX11_plan_30_ok h5 r hF) trivial
def fbX11_planned_23 (h : gb_H) : Option (Int64 × gb_H) :=
  some ((-2000000000 : Int64), h)
theorem fbX11_planned_23_ok {X : gb_X} (h : gb_H) (r : Int64 × gb_H) (hF : fbX11_planned_23 h = some r) : gb_Ev X 2 mX11_planned 23 [none, none] [] h (gb_wJ r) := by
  unfold fbX11_planned_23 at hF
  refine gb_ldc2 (v := (-2000000000 : Int64)) dX11_planned_23 kX11_368 ?_
  cases hF
  exact gb_lret dX11_planned_26 rfl
def fbX11_planned_72 (s0 : Int64) (h : gb_H) : Option (Int64 × gb_H) :=
  some (s0, h)
theorem fbX11_planned_72_ok {X : gb_X} (s0 : Int64) (h : gb_H) (r : Int64 × gb_H) (hF : fbX11_planned_72 s0 h = some r) : gb_Ev X 2 mX11_planned 72 [none, none] [.long s0] h (gb_wJ r) := by
  unfold fbX11_planned_72 at hF
  cases hF
  exact gb_lret dX11_planned_72 rfl
def fnX11_planned (p0 : Nat) (p1 : Int32) (h : gb_H) : Option (Int64 × gb_H) :=
  gb_gd (gb_k h p0 11) <|
  if (gb_I h p0 46) = (-1 : Int32) then
    fbX11_planned_23 h
  else
    gb_gd (gb_k h p0 11) <|
    gb_bd (fnX11_in p1 (-3 : Int32) ((gb_I h p0 46) - (1 : Int32)) h) fun x4 h5 =>
    if x4 = 0 then
      fbX11_planned_23 h5
    else
      if p1 = (-1 : Int32) then
        gb_gd (gb_k h5 p0 11) <|
        fbX11_planned_72 (gb_L h5 p0 51) h5
      else
        if p1 = (-2 : Int32) then
          gb_gd (gb_k h5 p0 11) <|
          fbX11_planned_72 (gb_L h5 p0 52) h5
        else
          if p1 = (-3 : Int32) then
            gb_gd (gb_k h5 p0 11) <|
            fbX11_planned_72 (gb_L h5 p0 53) h5
          else
            gb_gd (gb_k h5 p0 11) <|
            gb_rd (gb_R h5 p0 45) fun a14 =>
            gb_gd (gb_k h5 a14 20) <|
            gb_gd (gb_in h5 a14 p1) <|
            fbX11_planned_72 ((gb_I h5 a14 p1.toNatClampNeg).toInt64) h5
theorem fnX11_planned_ok {X : gb_X}  {p0 : Nat} {p1 : Int32} (h : gb_H) (r : Int64 × gb_H) (hF : fnX11_planned p0 p1 h = some r) : gb_Ev X 2 mX11_planned 0 (gb_L0 [.ref p0, .int p1]) [] h (gb_wJ r) := by
  unfold fnX11_planned at hF
  refine gb_weak (L' := [some (.ref p0), some (.int p1)]) (And.intro rfl (And.intro rfl trivial)) ?_
  refine gb_aload_n dX11_planned_0 rfl rfl ?_
  obtain ⟨g1, hF⟩ := gb_gdE hF
  refine gb_getI fX11_98 dX11_planned_1 (gb_kE g1) ?_
  refine gb_iconst (v := (-1 : Int32)) dX11_planned_4 (by decide) ?_
  refine gb_icmp_eq (tgt := 23) dX11_planned_5 (by decide) (fun c2 => ?_) (fun c2 => ?_)
  · replace hF := gb_ifT c2 hF
    exact gb_wk (fbX11_planned_23_ok h r hF) trivial
  · replace hF := gb_ifF c2 hF
    refine gb_iload_n dX11_planned_8 rfl rfl ?_
    refine gb_bipush (v := (-3 : Int32)) dX11_planned_9 (by decide) ?_
    refine gb_aload_n dX11_planned_11 rfl rfl ?_
    obtain ⟨g3, hF⟩ := gb_gdE hF
    refine gb_getI fX11_98 dX11_planned_12 (gb_kE g3) ?_
    refine gb_iconst (v := (1 : Int32)) dX11_planned_15 (by decide) ?_
    refine gb_isub dX11_planned_16 ?_
    obtain ⟨x4, h5, cx4, hF⟩ := gb_bdE hF
    refine gb_cS (As := [.int p1, .int (-3 : Int32), .int ((gb_I h p0 46) - (1 : Int32))]) (S := []) (v := some (.int x4)) (h1 := h5) (S2 := [.int x4]) dX11_planned_17 mtX11_in lX11_104 stX11_in (fnX11_in_ok _ _ cx4) (by decide) rfl (Nat.le_of_ble_eq_true rfl) (Nat.le_of_ble_eq_true rfl) rfl rfl ?_
    refine gb_if_ne (tgt := 27) dX11_planned_20 (by decide) (fun c6 => ?_) (fun c6 => ?_)
    · replace hF := gb_ifF c6 hF
      refine gb_iload_n dX11_planned_27 rfl rfl ?_
      refine gb_iconst (v := (-1 : Int32)) dX11_planned_28 (by decide) ?_
      refine gb_icmp_ne (tgt := 39) dX11_planned_29 (by decide) (fun c7 => ?_) (fun c7 => ?_)
      · replace hF := gb_ifF c7 hF
        refine gb_iload_n dX11_planned_39 rfl rfl ?_
        refine gb_bipush (v := (-2 : Int32)) dX11_planned_40 (by decide) ?_
        refine gb_icmp_ne (tgt := 52) dX11_planned_42 (by decide) (fun c9 => ?_) (fun c9 => ?_)
        · replace hF := gb_ifF c9 hF
          refine gb_iload_n dX11_planned_52 rfl rfl ?_
          refine gb_bipush (v := (-3 : Int32)) dX11_planned_53 (by decide) ?_
          refine gb_icmp_ne (tgt := 65) dX11_planned_55 (by decide) (fun c11 => ?_) (fun c11 => ?_)
          · replace hF := gb_ifF c11 hF
            refine gb_aload_n dX11_planned_65 rfl rfl ?_
            obtain ⟨g13, hF⟩ := gb_gdE hF
            obtain ⟨a14, ea14, hF⟩ := gb_rdE hF
            refine gb_getR fX11_95 dX11_planned_66 (gb_kE g13) ea14 ?_
            refine gb_iload_n dX11_planned_69 rfl rfl ?_
            obtain ⟨g15, hF⟩ := gb_gdE hF
            obtain ⟨g16, hF⟩ := gb_gdE hF
            refine gb_iald dX11_planned_70 (gb_kE g15) (gb_inE g16) ?_
            refine gb_i2l dX11_planned_71 ?_
            exact gb_wk (fbX11_planned_72_ok ((gb_I h5 a14 p1.toNatClampNeg).toInt64) h5 r hF) trivial
          · replace hF := gb_ifT c11 hF
            refine gb_aload_n dX11_planned_58 rfl rfl ?_
            obtain ⟨g12, hF⟩ := gb_gdE hF
            refine gb_getL fX11_423 dX11_planned_59 (gb_kE g12) ?_
            refine gb_goto (tgt := 72) dX11_planned_62 (by decide) ?_
            exact gb_wk (fbX11_planned_72_ok (gb_L h5 p0 53) h5 r hF) trivial
        · replace hF := gb_ifT c9 hF
          refine gb_aload_n dX11_planned_45 rfl rfl ?_
          obtain ⟨g10, hF⟩ := gb_gdE hF
          refine gb_getL fX11_420 dX11_planned_46 (gb_kE g10) ?_
          refine gb_goto (tgt := 72) dX11_planned_49 (by decide) ?_
          exact gb_wk (fbX11_planned_72_ok (gb_L h5 p0 52) h5 r hF) trivial
      · replace hF := gb_ifT c7 hF
        refine gb_aload_n dX11_planned_32 rfl rfl ?_
        obtain ⟨g8, hF⟩ := gb_gdE hF
        refine gb_getL fX11_417 dX11_planned_33 (gb_kE g8) ?_
        refine gb_goto (tgt := 72) dX11_planned_36 (by decide) ?_
        exact gb_wk (fbX11_planned_72_ok (gb_L h5 p0 51) h5 r hF) trivial
    · replace hF := gb_ifT c6 hF
      exact gb_wk (fbX11_planned_23_ok h5 r hF) trivial
def fbX11_build_43 (k43 : Nat → Int32 → Int32 → gb_H → Option (Int32 × gb_H)) (v0 : Nat) (v1 : Int32) (v2 : Int32) (h : gb_H) : Option (Int32 × gb_H) :=
  gb_gd (gb_k h v0 11) <|
  if ((8 : Int32) * (gb_I h v0 46)) ≤ v2 then
    gb_gd (gb_k h v0 11) <|
    gb_gd (gb_k h v0 11) <|
    gb_bd (fnX11_ends v0 (gb_I h v0 46) h) fun x5 h6 =>
    some (x5, h6)
  else
    gb_gd (gb_k h v0 11) <|
    gb_rd (gb_R h v0 3) fun a8 =>
    gb_gd (gb_k h v0 11) <|
    gb_rd (gb_R h v0 44) fun a10 =>
    gb_gd (gb_k h a10 20) <|
    gb_gd (gb_in h a10 v2) <|
    gb_lt (((128 : Int32) * v1) + v2) fun x13 =>
    gb_gd (gb_k h a8 20) <|
    gb_gd (gb_in h a8 x13) <|
    gb_lt (gb_sI h a8 x13.toNatClampNeg (gb_I h a10 v2.toNatClampNeg)) fun h16 =>
    gb_lt (v2 + (1 : Int32)) fun x17 =>
    k43 v0 v1 x17 h16
theorem fbX11_build_43_ok {X : gb_X} {k43 : Nat → Int32 → Int32 → gb_H → Option (Int32 × gb_H)} (hk43 : ∀ v0 v1 v2 h r, k43 v0 v1 v2 h = some r → gb_Ev X 2 mX11_build 43 [some (.ref v0), some (.int v1), some (.int v2)] [] h (gb_wI r)) (v0 : Nat) (v1 : Int32) (v2 : Int32) (h : gb_H) (r : Int32 × gb_H) (hF : fbX11_build_43 k43 v0 v1 v2 h = some r) : gb_Ev X 2 mX11_build 43 [some (.ref v0), some (.int v1), some (.int v2)] [] h (gb_wI r) := by
  unfold fbX11_build_43 at hF
  refine gb_iload_n dX11_build_43 rfl rfl ?_
  refine gb_bipush (v := (8 : Int32)) dX11_build_44 (by decide) ?_
  refine gb_aload_n dX11_build_46 rfl rfl ?_
  obtain ⟨g1, hF⟩ := gb_gdE hF
  refine gb_getI fX11_98 dX11_build_47 (gb_kE g1) ?_
  refine gb_imul dX11_build_50 ?_
  refine gb_icmp_ge (tgt := 78) dX11_build_51 (by decide) (fun c2 => ?_) (fun c2 => ?_)
  · replace hF := gb_ifT c2 hF
    refine gb_aload_n dX11_build_78 rfl rfl ?_
    refine gb_aload_n dX11_build_79 rfl rfl ?_
    obtain ⟨g3, hF⟩ := gb_gdE hF
    refine gb_getI fX11_98 dX11_build_80 (gb_kE g3) ?_
    obtain ⟨g4, hF⟩ := gb_gdE hF
    obtain ⟨x5, h6, cx5, hF⟩ := gb_bdE hF
    refine gb_cV (As := [.int (gb_I h v0 46)]) (S := []) (v := some (.int x5)) (h1 := h6) (S2 := [.int x5]) cf11 dX11_build_83 mtX11_ends lX11_108 inX11_ends seX11_ends (gb_kE g4) (fnX11_ends_ok _ _ cx5) (by decide) rfl (Nat.le_of_ble_eq_true rfl) (Nat.le_of_ble_eq_true rfl) rfl rfl ?_
    cases hF
    exact gb_iret dX11_build_86 rfl
  · replace hF := gb_ifF c2 hF
    refine gb_aload_n dX11_build_54 rfl rfl ?_
    obtain ⟨g7, hF⟩ := gb_gdE hF
    obtain ⟨a8, ea8, hF⟩ := gb_rdE hF
    refine gb_getR fX11_13 dX11_build_55 (gb_kE g7) ea8 ?_
    refine gb_sipush (v := (128 : Int32)) dX11_build_58 (by decide) ?_
    refine gb_iload_n dX11_build_61 rfl rfl ?_
    refine gb_imul dX11_build_62 ?_
    refine gb_iload_n dX11_build_63 rfl rfl ?_
    refine gb_iadd dX11_build_64 ?_
    refine gb_aload_n dX11_build_65 rfl rfl ?_
    obtain ⟨g9, hF⟩ := gb_gdE hF
    obtain ⟨a10, ea10, hF⟩ := gb_rdE hF
    refine gb_getR fX11_92 dX11_build_66 (gb_kE g9) ea10 ?_
    refine gb_iload_n dX11_build_69 rfl rfl ?_
    obtain ⟨g11, hF⟩ := gb_gdE hF
    obtain ⟨g12, hF⟩ := gb_gdE hF
    refine gb_iald dX11_build_70 (gb_kE g11) (gb_inE g12) ?_
    obtain ⟨x13, ex13, hF⟩ := gb_ltE hF
    refine gb_topI2 ex13 ?_
    obtain ⟨g14, hF⟩ := gb_gdE hF
    obtain ⟨g15, hF⟩ := gb_gdE hF
    obtain ⟨h16, eh16, hF⟩ := gb_ltE hF
    refine gb_iast dX11_build_71 (gb_kE g14) (gb_inE g15) (gb_hp eh16 ?_)
    obtain ⟨x17, ex17, hF⟩ := gb_ltE hF
    refine gb_iinc (v := x17) (L' := [some (.ref v0), some (.int v1), some (.int x17)]) dX11_build_72 rfl (by rw [ex17]; rfl) (by decide) rfl rfl ?_
    refine gb_goto (tgt := 43) dX11_build_75 (by decide) ?_
    exact gb_wk (hk43 v0 v1 x17 h16 r hF) (And.intro rfl (And.intro rfl (And.intro rfl trivial)))
def lpX11_build_43 (n : Nat) (v0 : Nat) (v1 : Int32) (v2 : Int32) (h : gb_H) : Option (Int32 × gb_H) := gb_lp (σ := Nat × Int32 × Int32 × gb_H) (fun k s => fbX11_build_43 (fun v0 v1 v2 h => k (v0, v1, v2, h)) s.1 s.2.1 s.2.2.1 s.2.2.2) n (v0, v1, v2, h)
theorem lpX11_build_43_ok {X : gb_X}  (n : Nat) (v0 : Nat) (v1 : Int32) (v2 : Int32) (h : gb_H) (r : Int32 × gb_H) (hF : lpX11_build_43 n v0 v1 v2 h = some r) : gb_Ev X 2 mX11_build 43 [some (.ref v0), some (.int v1), some (.int v2)] [] h (gb_wI r) := by
  exact gb_lpE (σ := Nat × Int32 × Int32 × gb_H) (P := fun s r => gb_Ev X 2 mX11_build 43 [some (.ref s.1), some (.int s.2.1), some (.int s.2.2.1)] [] s.2.2.2 (gb_wI r)) (fun k hk s r hs => fbX11_build_43_ok (fun v0 v1 v2 h r e => hk (v0, v1, v2, h) r e) _ _ _ _ r hs) n (v0, v1, v2, h) r hF
def fnX11_build (p0 : Nat) (p1 : Int32) (h : gb_H) : Option (Int32 × gb_H) :=
  gb_bd (fnX11_in p1 (0 : Int32) (3 : Int32) h) fun x1 h2 =>
  if x1 = 0 then
    gb_gd (gb_k h2 p0 11) <|
    gb_bd (fnX11_ends p0 (-2 : Int32) h2) fun x5 h6 =>
    some (x5, h6)
  else
    gb_gd (gb_k h2 p0 11) <|
    if (gb_I h2 p0 46) = (-1 : Int32) then
      gb_gd (gb_k h2 p0 11) <|
      gb_bd (fnX11_ends p0 (-6 : Int32) h2) fun x10 h11 =>
      some (x10, h11)
    else
      gb_gd (gb_k h2 p0 11) <|
      gb_rd (gb_R h2 p0 4) fun a13 =>
      gb_gd (gb_k h2 p0 11) <|
      gb_gd (gb_k h2 a13 20) <|
      gb_gd (gb_in h2 a13 p1) <|
      gb_lt (gb_sI h2 a13 p1.toNatClampNeg (gb_I h2 p0 46)) fun h17 =>
      lpX11_build_43 gb_FU p0 p1 (0 : Int32) h17
theorem fnX11_build_ok {X : gb_X}  {p0 : Nat} {p1 : Int32} (h : gb_H) (r : Int32 × gb_H) (hF : fnX11_build p0 p1 h = some r) : gb_Ev X 2 mX11_build 0 (gb_L0 [.ref p0, .int p1]) [] h (gb_wI r) := by
  unfold fnX11_build at hF
  refine gb_weak (L' := [some (.ref p0), some (.int p1), none]) (And.intro rfl (And.intro rfl trivial)) ?_
  refine gb_iload_n dX11_build_0 rfl rfl ?_
  refine gb_iconst (v := (0 : Int32)) dX11_build_1 (by decide) ?_
  refine gb_iconst (v := (3 : Int32)) dX11_build_2 (by decide) ?_
  obtain ⟨x1, h2, cx1, hF⟩ := gb_bdE hF
  refine gb_cS (As := [.int p1, .int (0 : Int32), .int (3 : Int32)]) (S := []) (v := some (.int x1)) (h1 := h2) (S2 := [.int x1]) dX11_build_3 mtX11_in lX11_104 stX11_in (fnX11_in_ok _ _ cx1) (by decide) rfl (Nat.le_of_ble_eq_true rfl) (Nat.le_of_ble_eq_true rfl) rfl rfl ?_
  refine gb_if_ne (tgt := 16) dX11_build_6 (by decide) (fun c3 => ?_) (fun c3 => ?_)
  · replace hF := gb_ifF c3 hF
    refine gb_aload_n dX11_build_16 rfl rfl ?_
    obtain ⟨g7, hF⟩ := gb_gdE hF
    refine gb_getI fX11_98 dX11_build_17 (gb_kE g7) ?_
    refine gb_iconst (v := (-1 : Int32)) dX11_build_20 (by decide) ?_
    refine gb_icmp_ne (tgt := 31) dX11_build_21 (by decide) (fun c8 => ?_) (fun c8 => ?_)
    · replace hF := gb_ifF c8 hF
      refine gb_aload_n dX11_build_31 rfl rfl ?_
      obtain ⟨g12, hF⟩ := gb_gdE hF
      obtain ⟨a13, ea13, hF⟩ := gb_rdE hF
      refine gb_getR fX11_16 dX11_build_32 (gb_kE g12) ea13 ?_
      refine gb_iload_n dX11_build_35 rfl rfl ?_
      refine gb_aload_n dX11_build_36 rfl rfl ?_
      obtain ⟨g14, hF⟩ := gb_gdE hF
      refine gb_getI fX11_98 dX11_build_37 (gb_kE g14) ?_
      obtain ⟨g15, hF⟩ := gb_gdE hF
      obtain ⟨g16, hF⟩ := gb_gdE hF
      obtain ⟨h17, eh17, hF⟩ := gb_ltE hF
      refine gb_iast dX11_build_40 (gb_kE g15) (gb_inE g16) (gb_hp eh17 ?_)
      refine gb_iconst (v := (0 : Int32)) dX11_build_41 (by decide) ?_
      refine gb_istore_n (L' := [some (.ref p0), some (.int p1), some (.int (0 : Int32))]) dX11_build_42 rfl (by decide) rfl rfl ?_
      exact gb_wk (lpX11_build_43_ok gb_FU p0 p1 (0 : Int32) h17 r hF) (And.intro rfl (And.intro rfl (And.intro rfl trivial)))
    · replace hF := gb_ifT c8 hF
      refine gb_aload_n dX11_build_24 rfl rfl ?_
      refine gb_bipush (v := (-6 : Int32)) dX11_build_25 (by decide) ?_
      obtain ⟨g9, hF⟩ := gb_gdE hF
      obtain ⟨x10, h11, cx10, hF⟩ := gb_bdE hF
      refine gb_cV (As := [.int (-6 : Int32)]) (S := []) (v := some (.int x10)) (h1 := h11) (S2 := [.int x10]) cf11 dX11_build_27 mtX11_ends lX11_108 inX11_ends seX11_ends (gb_kE g9) (fnX11_ends_ok _ _ cx10) (by decide) rfl (Nat.le_of_ble_eq_true rfl) (Nat.le_of_ble_eq_true rfl) rfl rfl ?_
      cases hF
      exact gb_iret dX11_build_30 rfl
  · replace hF := gb_ifT c3 hF
    refine gb_aload_n dX11_build_9 rfl rfl ?_
    refine gb_bipush (v := (-2 : Int32)) dX11_build_10 (by decide) ?_
    obtain ⟨g4, hF⟩ := gb_gdE hF
    obtain ⟨x5, h6, cx5, hF⟩ := gb_bdE hF
    refine gb_cV (As := [.int (-2 : Int32)]) (S := []) (v := some (.int x5)) (h1 := h6) (S2 := [.int x5]) cf11 dX11_build_12 mtX11_ends lX11_108 inX11_ends seX11_ends (gb_kE g4) (fnX11_ends_ok _ _ cx5) (by decide) rfl (Nat.le_of_ble_eq_true rfl) (Nat.le_of_ble_eq_true rfl) rfl rfl ?_
    cases hF
    exact gb_iret dX11_build_15 rfl
def fbX11_count_68 (s0 : Int32) (h : gb_H) : Option (Int32 × gb_H) :=
  some (s0, h)
theorem fbX11_count_68_ok {X : gb_X} (s0 : Int32) (h : gb_H) (r : Int32 × gb_H) (hF : fbX11_count_68 s0 h = some r) : gb_Ev X 2 mX11_count 68 [none, none] [.int s0] h (gb_wI r) := by
  unfold fbX11_count_68 at hF
  cases hF
  exact gb_iret dX11_count_68 rfl
def fnX11_count (p0 : Nat) (p1 : Int32) (h : gb_H) : Option (Int32 × gb_H) :=
  gb_bd (fnX11_in p1 (1 : Int32) (4 : Int32) h) fun x1 h2 =>
  if x1 = 0 then
    if p1 = 0 then
      gb_gd (gb_k h2 p0 11) <|
      fbX11_count_68 (gb_I h2 p0 1) h2
    else
      if p1 = (5 : Int32) then
        gb_gd (gb_k h2 p0 11) <|
        fbX11_count_68 (gb_I h2 p0 6) h2
      else
        if p1 = (6 : Int32) then
          gb_gd (gb_k h2 p0 11) <|
          fbX11_count_68 (gb_I h2 p0 37) h2
        else
          if p1 = (7 : Int32) then
            gb_gd (gb_k h2 p0 11) <|
            fbX11_count_68 (gb_I h2 p0 14) h2
          else
            fbX11_count_68 (-1 : Int32) h2
  else
    gb_gd (gb_k h2 p0 11) <|
    gb_rd (gb_R h2 p0 4) fun a13 =>
    gb_lt (p1 - (1 : Int32)) fun x14 =>
    gb_gd (gb_k h2 a13 20) <|
    gb_gd (gb_in h2 a13 x14) <|
    some (gb_I h2 a13 x14.toNatClampNeg, h2)
theorem fnX11_count_ok {X : gb_X}  {p0 : Nat} {p1 : Int32} (h : gb_H) (r : Int32 × gb_H) (hF : fnX11_count p0 p1 h = some r) : gb_Ev X 2 mX11_count 0 (gb_L0 [.ref p0, .int p1]) [] h (gb_wI r) := by
  unfold fnX11_count at hF
  refine gb_weak (L' := [some (.ref p0), some (.int p1)]) (And.intro rfl (And.intro rfl trivial)) ?_
  refine gb_iload_n dX11_count_0 rfl rfl ?_
  refine gb_iconst (v := (1 : Int32)) dX11_count_1 (by decide) ?_
  refine gb_iconst (v := (4 : Int32)) dX11_count_2 (by decide) ?_
  obtain ⟨x1, h2, cx1, hF⟩ := gb_bdE hF
  refine gb_cS (As := [.int p1, .int (1 : Int32), .int (4 : Int32)]) (S := []) (v := some (.int x1)) (h1 := h2) (S2 := [.int x1]) dX11_count_3 mtX11_in lX11_104 stX11_in (fnX11_in_ok _ _ cx1) (by decide) rfl (Nat.le_of_ble_eq_true rfl) (Nat.le_of_ble_eq_true rfl) rfl rfl ?_
  refine gb_if_eq (tgt := 18) dX11_count_6 (by decide) (fun c3 => ?_) (fun c3 => ?_)
  · replace hF := gb_ifT c3 hF
    refine gb_iload_n dX11_count_18 rfl rfl ?_
    refine gb_if_ne (tgt := 29) dX11_count_19 (by decide) (fun c4 => ?_) (fun c4 => ?_)
    · replace hF := gb_ifF c4 hF
      refine gb_iload_n dX11_count_29 rfl rfl ?_
      refine gb_iconst (v := (5 : Int32)) dX11_count_30 (by decide) ?_
      refine gb_icmp_ne (tgt := 41) dX11_count_31 (by decide) (fun c6 => ?_) (fun c6 => ?_)
      · replace hF := gb_ifF c6 hF
        refine gb_iload_n dX11_count_41 rfl rfl ?_
        refine gb_bipush (v := (6 : Int32)) dX11_count_42 (by decide) ?_
        refine gb_icmp_ne (tgt := 54) dX11_count_44 (by decide) (fun c8 => ?_) (fun c8 => ?_)
        · replace hF := gb_ifF c8 hF
          refine gb_iload_n dX11_count_54 rfl rfl ?_
          refine gb_bipush (v := (7 : Int32)) dX11_count_55 (by decide) ?_
          refine gb_icmp_ne (tgt := 67) dX11_count_57 (by decide) (fun c10 => ?_) (fun c10 => ?_)
          · replace hF := gb_ifF c10 hF
            refine gb_iconst (v := (-1 : Int32)) dX11_count_67 (by decide) ?_
            exact gb_wk (fbX11_count_68_ok (-1 : Int32) h2 r hF) trivial
          · replace hF := gb_ifT c10 hF
            refine gb_aload_n dX11_count_60 rfl rfl ?_
            obtain ⟨g11, hF⟩ := gb_gdE hF
            refine gb_getI fX11_115 dX11_count_61 (gb_kE g11) ?_
            refine gb_goto (tgt := 68) dX11_count_64 (by decide) ?_
            exact gb_wk (fbX11_count_68_ok (gb_I h2 p0 14) h2 r hF) trivial
        · replace hF := gb_ifT c8 hF
          refine gb_aload_n dX11_count_47 rfl rfl ?_
          obtain ⟨g9, hF⟩ := gb_gdE hF
          refine gb_getI fX11_346 dX11_count_48 (gb_kE g9) ?_
          refine gb_goto (tgt := 68) dX11_count_51 (by decide) ?_
          exact gb_wk (fbX11_count_68_ok (gb_I h2 p0 37) h2 r hF) trivial
      · replace hF := gb_ifT c6 hF
        refine gb_aload_n dX11_count_34 rfl rfl ?_
        obtain ⟨g7, hF⟩ := gb_gdE hF
        refine gb_getI fX11_212 dX11_count_35 (gb_kE g7) ?_
        refine gb_goto (tgt := 68) dX11_count_38 (by decide) ?_
        exact gb_wk (fbX11_count_68_ok (gb_I h2 p0 6) h2 r hF) trivial
    · replace hF := gb_ifT c4 hF
      refine gb_aload_n dX11_count_22 rfl rfl ?_
      obtain ⟨g5, hF⟩ := gb_gdE hF
      refine gb_getI fX11_112 dX11_count_23 (gb_kE g5) ?_
      refine gb_goto (tgt := 68) dX11_count_26 (by decide) ?_
      exact gb_wk (fbX11_count_68_ok (gb_I h2 p0 1) h2 r hF) trivial
  · replace hF := gb_ifF c3 hF
    refine gb_aload_n dX11_count_9 rfl rfl ?_
    obtain ⟨g12, hF⟩ := gb_gdE hF
    obtain ⟨a13, ea13, hF⟩ := gb_rdE hF
    refine gb_getR fX11_16 dX11_count_10 (gb_kE g12) ea13 ?_
    refine gb_iload_n dX11_count_13 rfl rfl ?_
    refine gb_iconst (v := (1 : Int32)) dX11_count_14 (by decide) ?_
    refine gb_isub dX11_count_15 ?_
    obtain ⟨x14, ex14, hF⟩ := gb_ltE hF
    refine gb_topI ex14 ?_
    obtain ⟨g15, hF⟩ := gb_gdE hF
    obtain ⟨g16, hF⟩ := gb_gdE hF
    refine gb_iald dX11_count_16 (gb_kE g15) (gb_inE g16) ?_
    cases hF
    exact gb_iret dX11_count_17 rfl
def fnX11_status (p0 : Nat) (h : gb_H) : Option (Int32 × gb_H) :=
  gb_gd (gb_k h p0 11) <|
  some (gb_I h p0 0, h)
theorem fnX11_status_ok {X : gb_X}  {p0 : Nat} (h : gb_H) (r : Int32 × gb_H) (hF : fnX11_status p0 h = some r) : gb_Ev X 1 mX11_status 0 (gb_L0 [.ref p0]) [] h (gb_wI r) := by
  unfold fnX11_status at hF
  refine gb_weak (L' := [some (.ref p0)]) (And.intro rfl trivial) ?_
  refine gb_aload_n dX11_status_0 rfl rfl ?_
  obtain ⟨g1, hF⟩ := gb_gdE hF
  refine gb_getI fX11_101 dX11_status_1 (gb_kE g1) ?_
  cases hF
  exact gb_iret dX11_status_4 rfl
