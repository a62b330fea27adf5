def fnX9_init (p0 : Nat) (h : gb_H) : Option (Unit × gb_H) :=
  gb_lt (gb_cn h) fun a1 =>
  gb_gd (gb_nn (400 : Int32) 4) <|
  gb_lt (gb_nw h 20 (400 : Int32).toNatClampNeg (400 : Int32).toNatClampNeg) fun h3 =>
  gb_gd (gb_k h3 p0 9) <|
  gb_lt (gb_sR h3 p0 0 (some a1)) fun h5 =>
  some ((), h5)
theorem fnX9_init_ok {X : gb_X}  {p0 : Nat} (h : gb_H) (r : Unit × gb_H) (hF : fnX9_init p0 h = some r) : gb_Ev X 2 mX9_init 0 (gb_L0 [.ref p0]) [] h (gb_wV r) := by
  unfold fnX9_init at hF
  refine gb_weak (L' := [some (.ref p0)]) (And.intro rfl trivial) ?_
  refine gb_aload_n dX9_init_0 rfl rfl ?_
  refine gb_objInit dX9_init_1 lX9_3 gb_oin gb_ocd (by decide) (Nat.le_of_ble_eq_true rfl) ?_
  refine gb_aload_n dX9_init_4 rfl rfl ?_
  refine gb_sipush (v := (400 : Int32)) dX9_init_5 (by decide) ?_
  obtain ⟨a1, ea1, hF⟩ := gb_ltE hF
  obtain ⟨g2, hF⟩ := gb_gdE hF
  obtain ⟨h3, eh3, hF⟩ := gb_ltE hF
  refine gb_newa (t := 20) (by decide) rfl ac20 (gb_nnE g2).1 (gb_nnE g2).2 dX9_init_8 (gb_hp eh3 (gb_topA ea1 ?_))
  obtain ⟨g4, hF⟩ := gb_gdE hF
  obtain ⟨h5, eh5, hF⟩ := gb_ltE hF
  refine gb_putR fX9_9 ffX9_9 dX9_init_10 (gb_kE g4) (fun _ => ⟨rfl, rfl⟩) (gb_hp eh5 ?_)
  cases hF
  exact gb_vret dX9_init_13 rfl
def fnX3_init (p0 : Nat) (h : gb_H) : Option (Unit × gb_H) :=
  gb_lt (gb_cn h) fun a1 =>
  gb_gd (gb_nn (200 : Int32) 4) <|
  gb_lt (gb_nw h 20 (200 : Int32).toNatClampNeg (200 : Int32).toNatClampNeg) fun h3 =>
  gb_gd (gb_k h3 p0 3) <|
  gb_lt (gb_sR h3 p0 0 (some a1)) fun h5 =>
  gb_lt (gb_cn h5) fun a6 =>
  gb_gd (gb_nn (200 : Int32) 4) <|
  gb_lt (gb_nw h5 20 (200 : Int32).toNatClampNeg (200 : Int32).toNatClampNeg) fun h8 =>
  gb_gd (gb_k h8 p0 3) <|
  gb_lt (gb_sR h8 p0 1 (some a6)) fun h10 =>
  gb_lt (gb_cn h10) fun a11 =>
  gb_gd (gb_nn (200 : Int32) 4) <|
  gb_lt (gb_nw h10 20 (200 : Int32).toNatClampNeg (200 : Int32).toNatClampNeg) fun h13 =>
  gb_gd (gb_k h13 p0 3) <|
  gb_lt (gb_sR h13 p0 2 (some a11)) fun h15 =>
  gb_lt (gb_cn h15) fun a16 =>
  gb_gd (gb_nn (32 : Int32) 4) <|
  gb_lt (gb_nw h15 20 (32 : Int32).toNatClampNeg (32 : Int32).toNatClampNeg) fun h18 =>
  gb_gd (gb_k h18 p0 3) <|
  gb_lt (gb_sR h18 p0 4 (some a16)) fun h20 =>
  gb_lt (gb_cn h20) fun a21 =>
  gb_gd (gb_nn (4 : Int32) 4) <|
  gb_lt (gb_nw h20 20 (4 : Int32).toNatClampNeg (4 : Int32).toNatClampNeg) fun h23 =>
  gb_gd (gb_k h23 p0 3) <|
  gb_lt (gb_sR h23 p0 6 (some a21)) fun h25 =>
  gb_lt (gb_cn h25) fun a26 =>
  gb_gd (gb_nn (4 : Int32) 4) <|
  gb_lt (gb_nw h25 20 (4 : Int32).toNatClampNeg (4 : Int32).toNatClampNeg) fun h28 =>
  gb_gd (gb_k h28 p0 3) <|
  gb_lt (gb_sR h28 p0 7 (some a26)) fun h30 =>
  some ((), h30)
theorem fnX3_init_ok {X : gb_X}  {p0 : Nat} (h : gb_H) (r : Unit × gb_H) (hF : fnX3_init p0 h = some r) : gb_Ev X 2 mX3_init 0 (gb_L0 [.ref p0]) [] h (gb_wV r) := by
  unfold fnX3_init at hF
  refine gb_weak (L' := [some (.ref p0)]) (And.intro rfl trivial) ?_
  refine gb_aload_n dX3_init_0 rfl rfl ?_
  refine gb_objInit dX3_init_1 lX3_3 gb_oin gb_ocd (by decide) (Nat.le_of_ble_eq_true rfl) ?_
  refine gb_aload_n dX3_init_4 rfl rfl ?_
  refine gb_sipush (v := (200 : Int32)) dX3_init_5 (by decide) ?_
  obtain ⟨a1, ea1, hF⟩ := gb_ltE hF
  obtain ⟨g2, hF⟩ := gb_gdE hF
  obtain ⟨h3, eh3, hF⟩ := gb_ltE hF
  refine gb_newa (t := 20) (by decide) rfl ac20 (gb_nnE g2).1 (gb_nnE g2).2 dX3_init_8 (gb_hp eh3 (gb_topA ea1 ?_))
  obtain ⟨g4, hF⟩ := gb_gdE hF
  obtain ⟨h5, eh5, hF⟩ := gb_ltE hF
  refine gb_putR fX3_9 ffX3_9 dX3_init_10 (gb_kE g4) (fun _ => ⟨rfl, rfl⟩) (gb_hp eh5 ?_)
  refine gb_aload_n dX3_init_13 rfl rfl ?_
  refine gb_sipush (v := (200 : Int32)) dX3_init_14 (by decide) ?_
  obtain ⟨a6, ea6, hF⟩ := gb_ltE hF
  obtain ⟨g7, hF⟩ := gb_gdE hF
  obtain ⟨h8, eh8, hF⟩ := gb_ltE hF
  refine gb_newa (t := 20) (by decide) rfl ac20 (gb_nnE g7).1 (gb_nnE g7).2 dX3_init_17 (gb_hp eh8 (gb_topA ea6 ?_))
  obtain ⟨g9, hF⟩ := gb_gdE hF
  obtain ⟨h10, eh10, hF⟩ := gb_ltE hF
  refine gb_putR fX3_15 ffX3_15 dX3_init_19 (gb_kE g9) (fun _ => ⟨rfl, rfl⟩) (gb_hp eh10 ?_)
  refine gb_aload_n dX3_init_22 rfl rfl ?_
  refine gb_sipush (v := (200 : Int32)) dX3_init_23 (by decide) ?_
  obtain ⟨a11, ea11, hF⟩ := gb_ltE hF
  obtain ⟨g12, hF⟩ := gb_gdE hF
  obtain ⟨h13, eh13, hF⟩ := gb_ltE hF
  refine gb_newa (t := 20) (by decide) rfl ac20 (gb_nnE g12).1 (gb_nnE g12).2 dX3_init_26 (gb_hp eh13 (gb_topA ea11 ?_))
  obtain ⟨g14, hF⟩ := gb_gdE hF
  obtain ⟨h15, eh15, hF⟩ := gb_ltE hF
  refine gb_putR fX3_18 ffX3_18 dX3_init_28 (gb_kE g14) (fun _ => ⟨rfl, rfl⟩) (gb_hp eh15 ?_)
  refine gb_aload_n dX3_init_31 rfl rfl ?_
  refine gb_bipush (v := (32 : Int32)) dX3_init_32 (by decide) ?_
  obtain ⟨a16, ea16, hF⟩ := gb_ltE hF
  obtain ⟨g17, hF⟩ := gb_gdE hF
  obtain ⟨h18, eh18, hF⟩ := gb_ltE hF
  refine gb_newa (t := 20) (by decide) rfl ac20 (gb_nnE g17).1 (gb_nnE g17).2 dX3_init_34 (gb_hp eh18 (gb_topA ea16 ?_))
  obtain ⟨g19, hF⟩ := gb_gdE hF
  obtain ⟨h20, eh20, hF⟩ := gb_ltE hF
  refine gb_putR fX3_21 ffX3_21 dX3_init_36 (gb_kE g19) (fun _ => ⟨rfl, rfl⟩) (gb_hp eh20 ?_)
  refine gb_aload_n dX3_init_39 rfl rfl ?_
  refine gb_iconst (v := (4 : Int32)) dX3_init_40 (by decide) ?_
  obtain ⟨a21, ea21, hF⟩ := gb_ltE hF
  obtain ⟨g22, hF⟩ := gb_gdE hF
  obtain ⟨h23, eh23, hF⟩ := gb_ltE hF
  refine gb_newa (t := 20) (by decide) rfl ac20 (gb_nnE g22).1 (gb_nnE g22).2 dX3_init_41 (gb_hp eh23 (gb_topA ea21 ?_))
  obtain ⟨g24, hF⟩ := gb_gdE hF
  obtain ⟨h25, eh25, hF⟩ := gb_ltE hF
  refine gb_putR fX3_24 ffX3_24 dX3_init_43 (gb_kE g24) (fun _ => ⟨rfl, rfl⟩) (gb_hp eh25 ?_)
  refine gb_aload_n dX3_init_46 rfl rfl ?_
  refine gb_iconst (v := (4 : Int32)) dX3_init_47 (by decide) ?_
  obtain ⟨a26, ea26, hF⟩ := gb_ltE hF
  obtain ⟨g27, hF⟩ := gb_gdE hF
  obtain ⟨h28, eh28, hF⟩ := gb_ltE hF
  refine gb_newa (t := 20) (by decide) rfl ac20 (gb_nnE g27).1 (gb_nnE g27).2 dX3_init_48 (gb_hp eh28 (gb_topA ea26 ?_))
  obtain ⟨g29, hF⟩ := gb_gdE hF
  obtain ⟨h30, eh30, hF⟩ := gb_ltE hF
  refine gb_putR fX3_27 ffX3_27 dX3_init_50 (gb_kE g29) (fun _ => ⟨rfl, rfl⟩) (gb_hp eh30 ?_)
  cases hF
  exact gb_vret dX3_init_53 rfl
def fnX8_init (p0 : Nat) (h : gb_H) : Option (Unit × gb_H) :=
  gb_gd (gb_k h p0 8) <|
  gb_lt (gb_sL h p0 2 (1 : Int64)) fun h2 =>
  some ((), h2)
theorem fnX8_init_ok {X : gb_X}  {p0 : Nat} (h : gb_H) (r : Unit × gb_H) (hF : fnX8_init p0 h = some r) : gb_Ev X 2 mX8_init 0 (gb_L0 [.ref p0]) [] h (gb_wV r) := by
  unfold fnX8_init at hF
  refine gb_weak (L' := [some (.ref p0)]) (And.intro rfl trivial) ?_
  refine gb_aload_n dX8_init_0 rfl rfl ?_
  refine gb_objInit dX8_init_1 lX8_1 gb_oin gb_ocd (by decide) (Nat.le_of_ble_eq_true rfl) ?_
  refine gb_aload_n dX8_init_4 rfl rfl ?_
  refine gb_lconst (v := (1 : Int64)) dX8_init_5 (by decide) ?_
  obtain ⟨g1, hF⟩ := gb_gdE hF
  obtain ⟨h2, eh2, hF⟩ := gb_ltE hF
  refine gb_putL fX8_7 (gb_nff nf8_2) dX8_init_6 (gb_kE g1) (fun _ => ⟨rfl, rfl⟩) (gb_hp eh2 ?_)
  cases hF
  exact gb_vret dX8_init_9 rfl
def fbX8_divisor_45 (v4 : Int64) (h : gb_H) : Option (Int64 × gb_H) :=
  some (v4, h)
theorem fbX8_divisor_45_ok {X : gb_X} (v4 : Int64) (h : gb_H) (r : Int64 × gb_H) (hF : fbX8_divisor_45 v4 h = some r) : gb_Ev X 1 mX8_divisor 45 [none, none, none, none, some (.long v4), none, none, none, none, none, none] [] h (gb_wJ r) := by
  unfold fbX8_divisor_45 at hF
  refine gb_lload dX8_divisor_45 rfl ?_
  cases hF
  exact gb_lret dX8_divisor_47 rfl
def fbX8_divisor_9 (k9 : Int64 → Int64 → Int32 → gb_H → Option (Int64 × gb_H)) (v4 : Int64) (v6 : Int64) (v8 : Int32) (h : gb_H) : Option (Int64 × gb_H) :=
  if (200 : Int32) ≤ v8 then
    fbX8_divisor_45 v4 h
  else
    if v6 = (0 : Int64) then
      fbX8_divisor_45 v4 h
    else
      gb_gd (gb_nzL v6) <|
      gb_lt (v4 - v4 / v6 * v6) fun x4 =>
      gb_lt (v8 + (1 : Int32)) fun x5 =>
      k9 v6 x4 x5 h
theorem fbX8_divisor_9_ok {X : gb_X} {k9 : Int64 → Int64 → Int32 → gb_H → Option (Int64 × gb_H)} (hk9 : ∀ v4 v6 v8 h r, k9 v4 v6 v8 h = some r → gb_Ev X 1 mX8_divisor 9 [none, none, none, none, some (.long v4), none, some (.long v6), none, some (.int v8), none, none] [] h (gb_wJ r)) (v4 : Int64) (v6 : Int64) (v8 : Int32) (h : gb_H) (r : Int64 × gb_H) (hF : fbX8_divisor_9 k9 v4 v6 v8 h = some r) : gb_Ev X 1 mX8_divisor 9 [none, none, none, none, some (.long v4), none, some (.long v6), none, some (.int v8), none, none] [] h (gb_wJ r) := by
  unfold fbX8_divisor_9 at hF
  refine gb_iload dX8_divisor_9 rfl ?_
  refine gb_sipush (v := (200 : Int32)) dX8_divisor_11 (by decide) ?_
  refine gb_icmp_ge (tgt := 45) dX8_divisor_14 (by decide) (fun c1 => ?_) (fun c1 => ?_)
  · replace hF := gb_ifT c1 hF
    exact gb_wk (fbX8_divisor_45_ok v4 h r hF) (And.intro rfl trivial)
  · replace hF := gb_ifF c1 hF
    refine gb_lload dX8_divisor_17 rfl ?_
    refine gb_lconst (v := (0 : Int64)) dX8_divisor_19 (by decide) ?_
    refine gb_lc_eq (tgt := 45) dX8_divisor_20 dX8_divisor_21 (by decide) (fun c2 => ?_) (fun c2 => ?_)
    · replace hF := gb_ifT c2 hF
      exact gb_wk (fbX8_divisor_45_ok v4 h r hF) (And.intro rfl trivial)
    · replace hF := gb_ifF c2 hF
      refine gb_lload dX8_divisor_24 rfl ?_
      refine gb_lload dX8_divisor_26 rfl ?_
      obtain ⟨g3, hF⟩ := gb_gdE hF
      refine gb_lrem dX8_divisor_28 (gb_nzLE g3) ?_
      obtain ⟨x4, ex4, hF⟩ := gb_ltE hF
      refine gb_topJ ex4 ?_
      refine gb_lstore (L' := [none, none, none, none, some (.long v4), none, some (.long v6), none, some (.int v8), some (.long x4), none]) dX8_divisor_29 (by decide) rfl rfl ?_
      refine gb_lload dX8_divisor_31 rfl ?_
      refine gb_lstore (L' := [none, none, none, none, some (.long v6), none, some (.long v6), none, some (.int v8), some (.long x4), none]) dX8_divisor_33 (by decide) rfl rfl ?_
      refine gb_lload dX8_divisor_35 rfl ?_
      refine gb_lstore (L' := [none, none, none, none, some (.long v6), none, some (.long x4), none, some (.int v8), some (.long x4), none]) dX8_divisor_37 (by decide) rfl rfl ?_
      obtain ⟨x5, ex5, hF⟩ := gb_ltE hF
      refine gb_iinc (v := x5) (L' := [none, none, none, none, some (.long v6), none, some (.long x4), none, some (.int x5), some (.long x4), none]) dX8_divisor_39 rfl (by rw [ex5]; rfl) (by decide) rfl rfl ?_
      refine gb_goto (tgt := 9) dX8_divisor_42 (by decide) ?_
      exact gb_wk (hk9 v6 x4 x5 h r hF) (And.intro rfl (And.intro rfl (And.intro rfl trivial)))
def lpX8_divisor_9 (n : Nat) (v4 : Int64) (v6 : Int64) (v8 : Int32) (h : gb_H) : Option (Int64 × gb_H) := gb_lp (σ := Int64 × Int64 × Int32 × gb_H) (fun k s => fbX8_divisor_9 (fun v4 v6 v8 h => k (v4, v6, v8, h)) s.1 s.2.1 s.2.2.1 s.2.2.2) n (v4, v6, v8, h)
theorem lpX8_divisor_9_ok {X : gb_X}  (n : Nat) (v4 : Int64) (v6 : Int64) (v8 : Int32) (h : gb_H) (r : Int64 × gb_H) (hF : lpX8_divisor_9 n v4 v6 v8 h = some r) : gb_Ev X 1 mX8_divisor 9 [none, none, none, none, some (.long v4), none, some (.long v6), none, some (.int v8), none, none] [] h (gb_wJ r) := by
  exact gb_lpE (σ := Int64 × Int64 × Int32 × gb_H) (P := fun s r => gb_Ev X 1 mX8_divisor 9 [none, none, none, none, some (.long s.1), none, some (.long s.2.1), none, some (.int s.2.2.1), none, none] [] s.2.2.2 (gb_wJ r)) (fun k hk s r hs => fbX8_divisor_9_ok (fun v4 v6 v8 h r e => hk (v4, v6, v8, h) r e) _ _ _ _ r hs) n (v4, v6, v8, h) r hF
def fnX8_divisor (p0 : Int64) (p1 : Int64) (h : gb_H) : Option (Int64 × gb_H) :=
  lpX8_divisor_9 gb_FU p0 p1 (0 : Int32) h
theorem fnX8_divisor_ok {X : gb_X}  {p0 : Int64} {p1 : Int64} (h : gb_H) (r : Int64 × gb_H) (hF : fnX8_divisor p0 p1 h = some r) : gb_Ev X 1 mX8_divisor 0 (gb_L0 [.long p0, .long p1]) [] h (gb_wJ r) := by
  unfold fnX8_divisor at hF
  refine gb_weak (L' := [some (.long p0), none, some (.long p1), none, none, none, none, none, none, none, none]) (And.intro rfl (And.intro rfl trivial)) ?_
  refine gb_lload_n dX8_divisor_0 rfl rfl ?_
  refine gb_lstore (L' := [some (.long p0), none, some (.long p1), none, some (.long p0), none, none, none, none, none, none]) dX8_divisor_1 (by decide) rfl rfl ?_
  refine gb_lload_n dX8_divisor_3 rfl rfl ?_
  refine gb_lstore (L' := [some (.long p0), none, some (.long p1), none, some (.long p0), none, some (.long p1), none, none, none, none]) dX8_divisor_4 (by decide) rfl rfl ?_
  refine gb_iconst (v := (0 : Int32)) dX8_divisor_6 (by decide) ?_
  refine gb_istore (L' := [some (.long p0), none, some (.long p1), none, some (.long p0), none, some (.long p1), none, some (.int (0 : Int32)), none, none]) dX8_divisor_7 (by decide) rfl rfl ?_
  exact gb_wk (lpX8_divisor_9_ok gb_FU p0 p1 (0 : Int32) h r hF) (And.intro rfl (And.intro rfl (And.intro rfl trivial)))
def fnX8_put (p0 : Nat) (p1 : Int64) (p2 : Int64) (p3 : Int64) (h : gb_H) : Option (Unit × gb_H) :=
  gb_bd (fnX8_divisor (if 0 < p1 then p1 else -p1) (if 0 < p2 then p2 else -p2) h) fun x1 h2 =>
  gb_bd (fnX8_divisor x1 p3 h2) fun x3 h4 =>
  if (0 : Int64) < x3 then
    gb_gd (gb_nzL x3) <|
    gb_gd (gb_k h4 p0 8) <|
    gb_lt (gb_sL h4 p0 0 (p1 / x3)) fun h8 =>
    gb_gd (gb_nzL x3) <|
    gb_gd (gb_k h8 p0 8) <|
    gb_lt (gb_sL h8 p0 1 (p2 / x3)) fun h11 =>
    gb_gd (gb_nzL x3) <|
    gb_gd (gb_k h11 p0 8) <|
    gb_lt (gb_sL h11 p0 2 (p3 / x3)) fun h14 =>
    some ((), h14)
  else
    gb_gd (gb_k h4 p0 8) <|
    gb_lt (gb_sL h4 p0 0 (0 : Int64)) fun h16 =>
    gb_gd (gb_k h16 p0 8) <|
    gb_lt (gb_sL h16 p0 1 (0 : Int64)) fun h18 =>
    gb_gd (gb_k h18 p0 8) <|
    gb_lt (gb_sL h18 p0 2 (1 : Int64)) fun h20 =>
    some ((), h20)
theorem fnX8_put_ok {X : gb_X}  {p0 : Nat} {p1 : Int64} {p2 : Int64} {p3 : Int64} (h : gb_H) (r : Unit × gb_H) (hF : fnX8_put p0 p1 p2 p3 h = some r) : gb_Ev X 2 mX8_put 0 (gb_L0 [.ref p0, .long p1, .long p2, .long p3]) [] h (gb_wV r) := by
  unfold fnX8_put at hF
  refine gb_weak (L' := [some (.ref p0), some (.long p1), none, some (.long p2), none, some (.long p3), none, none, none]) (And.intro rfl (And.intro rfl (And.intro rfl (And.intro rfl trivial)))) ?_
  refine gb_lload_n dX8_put_0 rfl rfl ?_
  refine gb_mabsL dX8_put_1 lmX8_13 gb_sdabsL gb_mini gb_cdabsL (by decide) (Nat.le_of_ble_eq_true rfl) ?_
  refine gb_lload_n dX8_put_4 rfl rfl ?_
  refine gb_mabsL dX8_put_5 lmX8_13 gb_sdabsL gb_mini gb_cdabsL (by decide) (Nat.le_of_ble_eq_true rfl) ?_
  obtain ⟨x1, h2, cx1, hF⟩ := gb_bdE hF
  refine gb_cS (As := [.long (if 0 < p1 then p1 else -p1), .long (if 0 < p2 then p2 else -p2)]) (S := []) (v := some (.long x1)) (h1 := h2) (S2 := [.long x1]) dX8_put_8 mtX8_divisor lX8_19 stX8_divisor (fnX8_divisor_ok _ _ cx1) (by decide) rfl (Nat.le_of_ble_eq_true rfl) (Nat.le_of_ble_eq_true rfl) rfl rfl ?_
  refine gb_lload dX8_put_11 rfl ?_
  obtain ⟨x3, h4, cx3, hF⟩ := gb_bdE hF
  refine gb_cS (As := [.long x1, .long p3]) (S := []) (v := some (.long x3)) (h1 := h4) (S2 := [.long x3]) dX8_put_13 mtX8_divisor lX8_19 stX8_divisor (fnX8_divisor_ok _ _ cx3) (by decide) rfl (Nat.le_of_ble_eq_true rfl) (Nat.le_of_ble_eq_true rfl) rfl rfl ?_
  refine gb_lstore (L' := [some (.ref p0), some (.long p1), none, some (.long p2), none, some (.long p3), none, some (.long x3), none]) dX8_put_16 (by decide) rfl rfl ?_
  refine gb_lload dX8_put_18 rfl ?_
  refine gb_lconst (v := (0 : Int64)) dX8_put_20 (by decide) ?_
  refine gb_lc_gt (tgt := 41) dX8_put_21 dX8_put_22 (by decide) (fun c5 => ?_) (fun c5 => ?_)
  · replace hF := gb_ifT c5 hF
    refine gb_aload_n dX8_put_41 rfl rfl ?_
    refine gb_lload_n dX8_put_42 rfl rfl ?_
    refine gb_lload dX8_put_43 rfl ?_
    obtain ⟨g6, hF⟩ := gb_gdE hF
    refine gb_ldiv dX8_put_45 (gb_nzLE g6) ?_
    obtain ⟨g7, hF⟩ := gb_gdE hF
    obtain ⟨h8, eh8, hF⟩ := gb_ltE hF
    refine gb_putL fX8_23 (gb_nff nf8_0) dX8_put_46 (gb_kE g7) (fun _ => ⟨rfl, rfl⟩) (gb_hp eh8 ?_)
    refine gb_aload_n dX8_put_49 rfl rfl ?_
    refine gb_lload_n dX8_put_50 rfl rfl ?_
    refine gb_lload dX8_put_51 rfl ?_
    obtain ⟨g9, hF⟩ := gb_gdE hF
    refine gb_ldiv dX8_put_53 (gb_nzLE g9) ?_
    obtain ⟨g10, hF⟩ := gb_gdE hF
    obtain ⟨h11, eh11, hF⟩ := gb_ltE hF
    refine gb_putL fX8_26 (gb_nff nf8_1) dX8_put_54 (gb_kE g10) (fun _ => ⟨rfl, rfl⟩) (gb_hp eh11 ?_)
    refine gb_aload_n dX8_put_57 rfl rfl ?_
    refine gb_lload dX8_put_58 rfl ?_
    refine gb_lload dX8_put_60 rfl ?_
    obtain ⟨g12, hF⟩ := gb_gdE hF
    refine gb_ldiv dX8_put_62 (gb_nzLE g12) ?_
    obtain ⟨g13, hF⟩ := gb_gdE hF
    obtain ⟨h14, eh14, hF⟩ := gb_ltE hF
    refine gb_putL fX8_7 (gb_nff nf8_2) dX8_put_63 (gb_kE g13) (fun _ => ⟨rfl, rfl⟩) (gb_hp eh14 ?_)
    cases hF
    exact gb_vret dX8_put_66 rfl
  · replace hF := gb_ifF c5 hF
    refine gb_aload_n dX8_put_25 rfl rfl ?_
    refine gb_lconst (v := (0 : Int64)) dX8_put_26 (by decide) ?_
    obtain ⟨g15, hF⟩ := gb_gdE hF
    obtain ⟨h16, eh16, hF⟩ := gb_ltE hF
    refine gb_putL fX8_23 (gb_nff nf8_0) dX8_put_27 (gb_kE g15) (fun _ => ⟨rfl, rfl⟩) (gb_hp eh16 ?_)
    refine gb_aload_n dX8_put_30 rfl rfl ?_
    refine gb_lconst (v := (0 : Int64)) dX8_put_31 (by decide) ?_
    obtain ⟨g17, hF⟩ := gb_gdE hF
    obtain ⟨h18, eh18, hF⟩ := gb_ltE hF
    refine gb_putL fX8_26 (gb_nff nf8_1) dX8_put_32 (gb_kE g17) (fun _ => ⟨rfl, rfl⟩) (gb_hp eh18 ?_)
    refine gb_aload_n dX8_put_35 rfl rfl ?_
    refine gb_lconst (v := (1 : Int64)) dX8_put_36 (by decide) ?_
    obtain ⟨g19, hF⟩ := gb_gdE hF
    obtain ⟨h20, eh20, hF⟩ := gb_ltE hF
    refine gb_putL fX8_7 (gb_nff nf8_2) dX8_put_37 (gb_kE g19) (fun _ => ⟨rfl, rfl⟩) (gb_hp eh20 ?_)
    cases hF
    exact gb_vret dX8_put_40 rfl
def fbX8_part_25 (s0 : Int64) (h : gb_H) : Option (Int64 × gb_H) :=
  some (s0, h)
theorem fbX8_part_25_ok {X : gb_X} (s0 : Int64) (h : gb_H) (r : Int64 × gb_H) (hF : fbX8_part_25 s0 h = some r) : gb_Ev X 1 mX8_part 25 [none, none] [.long s0] h (gb_wJ r) := by
  unfold fbX8_part_25 at hF
  cases hF
  exact gb_lret dX8_part_25 rfl
def fnX8_part (p0 : Nat) (p1 : Int32) (h : gb_H) : Option (Int64 × gb_H) :=
  if p1 = 0 then
    gb_gd (gb_k h p0 8) <|
    some (gb_L h p0 0, h)
  else
    if p1 = (1 : Int32) then
      gb_gd (gb_k h p0 8) <|
      fbX8_part_25 (gb_L h p0 1) h
    else
      gb_gd (gb_k h p0 8) <|
      fbX8_part_25 (gb_L h p0 2) h
theorem fnX8_part_ok {X : gb_X}  {p0 : Nat} {p1 : Int32} (h : gb_H) (r : Int64 × gb_H) (hF : fnX8_part p0 p1 h = some r) : gb_Ev X 1 mX8_part 0 (gb_L0 [.ref p0, .int p1]) [] h (gb_wJ r) := by
  unfold fnX8_part at hF
  refine gb_weak (L' := [some (.ref p0), some (.int p1)]) (And.intro rfl (And.intro rfl trivial)) ?_
  refine gb_iload_n dX8_part_0 rfl rfl ?_
  refine gb_if_ne (tgt := 9) dX8_part_1 (by decide) (fun c1 => ?_) (fun c1 => ?_)
  · replace hF := gb_ifF c1 hF
    refine gb_iload_n dX8_part_9 rfl rfl ?_
    refine gb_iconst (v := (1 : Int32)) dX8_part_10 (by decide) ?_
    refine gb_icmp_ne (tgt := 21) dX8_part_11 (by decide) (fun c3 => ?_) (fun c3 => ?_)
    · replace hF := gb_ifF c3 hF
      refine gb_aload_n dX8_part_21 rfl rfl ?_
      obtain ⟨g5, hF⟩ := gb_gdE hF
      refine gb_getL fX8_7 dX8_part_22 (gb_kE g5) ?_
      exact gb_wk (fbX8_part_25_ok (gb_L h p0 2) h r hF) trivial
    · replace hF := gb_ifT c3 hF
      refine gb_aload_n dX8_part_14 rfl rfl ?_
      obtain ⟨g4, hF⟩ := gb_gdE hF
      refine gb_getL fX8_26 dX8_part_15 (gb_kE g4) ?_
      refine gb_goto (tgt := 25) dX8_part_18 (by decide) ?_
      exact gb_wk (fbX8_part_25_ok (gb_L h p0 1) h r hF) trivial
  · replace hF := gb_ifT c1 hF
    refine gb_aload_n dX8_part_4 rfl rfl ?_
    obtain ⟨g2, hF⟩ := gb_gdE hF
    refine gb_getL fX8_23 dX8_part_5 (gb_kE g2) ?_
    cases hF
    exact gb_lret dX8_part_8 rfl
def fbX3_tally_81 (k28 : Nat → Int32 → Int32 → Int32 → gb_H → Option (Unit × gb_H)) (v0 : Nat) (v1 : Int32) (v2 : Int32) (v3 : Int32) (h : gb_H) : Option (Unit × gb_H) :=
  gb_lt (v3 + (1 : Int32)) fun x1 =>
  k28 v0 v1 v2 x1 h
theorem fbX3_tally_81_ok {X : gb_X} {k28 : Nat → Int32 → Int32 → Int32 → gb_H → Option (Unit × gb_H)} (hk28 : ∀ v0 v1 v2 v3 h r, k28 v0 v1 v2 v3 h = some r → gb_Ev X 1 mX3_tally 28 [some (.ref v0), some (.int v1), some (.int v2), some (.int v3)] [] h (gb_wV r)) (v0 : Nat) (v1 : Int32) (v2 : Int32) (v3 : Int32) (h : gb_H) (r : Unit × gb_H) (hF : fbX3_tally_81 k28 v0 v1 v2 v3 h = some r) : gb_Ev X 1 mX3_tally 81 [some (.ref v0), some (.int v1), some (.int v2), some (.int v3)] [] h (gb_wV r) := by
  unfold fbX3_tally_81 at hF
  obtain ⟨x1, ex1, hF⟩ := gb_ltE hF
  refine gb_iinc (v := x1) (L' := [some (.ref v0), some (.int v1), some (.int v2), some (.int x1)]) dX3_tally_81 rfl (by rw [ex1]; rfl) (by decide) rfl rfl ?_
  refine gb_goto (tgt := 28) dX3_tally_84 (by decide) ?_
  exact gb_wk (hk28 v0 v1 v2 x1 h r hF) (And.intro rfl (And.intro rfl (And.intro rfl (And.intro rfl trivial))))
def fbX3_tally_28 (k28 : Nat → Int32 → Int32 → Int32 → gb_H → Option (Unit × gb_H)) (v0 : Nat) (v1 : Int32) (v2 : Int32) (v3 : Int32) (h : gb_H) : Option (Unit × gb_H) :=
  gb_gd (gb_k h v0 3) <|
  if (gb_I h v0 3) ≤ v3 then
    some ((), h)
  else
    gb_gd (gb_k h v0 3) <|
    gb_rd (gb_R h v0 0) fun a4 =>
    gb_gd (gb_k h a4 20) <|
    gb_gd (gb_in h a4 v3) <|
    if (gb_I h a4 v3.toNatClampNeg) = v1 then
      gb_gd (gb_k h v0 3) <|
      gb_rd (gb_R h v0 2) fun a9 =>
      gb_gd (gb_k h a9 20) <|
      gb_gd (gb_in h a9 v3) <|
      if v2 < (gb_I h a9 v3.toNatClampNeg) then
        fbX3_tally_81 k28 v0 v1 v2 v3 h
      else
        gb_gd (gb_k h v0 3) <|
        gb_rd (gb_R h v0 4) fun a14 =>
        gb_gd (gb_k h v0 3) <|
        gb_rd (gb_R h v0 1) fun a16 =>
        gb_gd (gb_k h a16 20) <|
        gb_gd (gb_in h a16 v3) <|
        gb_lt (gb_I h a16 v3.toNatClampNeg) fun x19 =>
        gb_gd (gb_k h a14 20) <|
        gb_gd (gb_in h a14 x19) <|
        gb_gd (gb_k h a14 20) <|
        gb_gd (gb_in h a14 x19) <|
        gb_lt (gb_sI h a14 x19.toNatClampNeg ((gb_I h a14 x19.toNatClampNeg) + (1 : Int32))) fun h24 =>
        gb_gd (gb_k h24 v0 3) <|
        gb_gd (gb_k h24 v0 3) <|
        gb_lt (gb_sI h24 v0 5 ((gb_I h24 v0 5) + (1 : Int32))) fun h27 =>
        fbX3_tally_81 k28 v0 v1 v2 v3 h27
    else
      fbX3_tally_81 k28 v0 v1 v2 v3 h
theorem fbX3_tally_28_ok {X : gb_X} {k28 : Nat → Int32 → Int32 → Int32 → gb_H → Option (Unit × gb_H)} (hk28 : ∀ v0 v1 v2 v3 h r, k28 v0 v1 v2 v3 h = some r → gb_Ev X 1 mX3_tally 28 [some (.ref v0), some (.int v1), some (.int v2), some (.int v3)] [] h (gb_wV r)) (v0 : Nat) (v1 : Int32) (v2 : Int32) (v3 : Int32) (h : gb_H) (r : Unit × gb_H) (hF : fbX3_tally_28 k28 v0 v1 v2 v3 h = some r) : gb_Ev X 1 mX3_tally 28 [some (.ref v0), some (.int v1), some (.int v2), some (.int v3)] [] h (gb_wV r) := by
  unfold fbX3_tally_28 at hF
  refine gb_iload_n dX3_tally_28 rfl rfl ?_
  refine gb_aload_n dX3_tally_29 rfl rfl ?_
  obtain ⟨g1, hF⟩ := gb_gdE hF
  refine gb_getI fX3_30 dX3_tally_30 (gb_kE g1) ?_
  refine gb_icmp_ge (tgt := 87) dX3_tally_33 (by decide) (fun c2 => ?_) (fun c2 => ?_)
  · replace hF := gb_ifT c2 hF
    cases hF
    exact gb_vret dX3_tally_87 rfl
  · replace hF := gb_ifF c2 hF
    refine gb_aload_n dX3_tally_36 rfl rfl ?_
    obtain ⟨g3, hF⟩ := gb_gdE hF
    obtain ⟨a4, ea4, hF⟩ := gb_rdE hF
    refine gb_getR fX3_9 dX3_tally_37 (gb_kE g3) ea4 ?_
    refine gb_iload_n dX3_tally_40 rfl rfl ?_
    obtain ⟨g5, hF⟩ := gb_gdE hF
    obtain ⟨g6, hF⟩ := gb_gdE hF
    refine gb_iald dX3_tally_41 (gb_kE g5) (gb_inE g6) ?_
    refine gb_iload_n dX3_tally_42 rfl rfl ?_
    refine gb_icmp_ne (tgt := 81) dX3_tally_43 (by decide) (fun c7 => ?_) (fun c7 => ?_)
    · replace hF := gb_ifF c7 hF
      exact gb_wk (fbX3_tally_81_ok hk28 v0 v1 v2 v3 h r hF) (And.intro rfl (And.intro rfl (And.intro rfl (And.intro rfl trivial))))
    · replace hF := gb_ifT c7 hF
      refine gb_aload_n dX3_tally_46 rfl rfl ?_
      obtain ⟨g8, hF⟩ := gb_gdE hF
      obtain ⟨a9, ea9, hF⟩ := gb_rdE hF
      refine gb_getR fX3_18 dX3_tally_47 (gb_kE g8) ea9 ?_
      refine gb_iload_n dX3_tally_50 rfl rfl ?_
      obtain ⟨g10, hF⟩ := gb_gdE hF
      obtain ⟨g11, hF⟩ := gb_gdE hF
      refine gb_iald dX3_tally_51 (gb_kE g10) (gb_inE g11) ?_
      refine gb_iload_n dX3_tally_52 rfl rfl ?_
      refine gb_icmp_gt (tgt := 81) dX3_tally_53 (by decide) (fun c12 => ?_) (fun c12 => ?_)
      · replace hF := gb_ifT c12 hF
        exact gb_wk (fbX3_tally_81_ok hk28 v0 v1 v2 v3 h r hF) (And.intro rfl (And.intro rfl (And.intro rfl (And.intro rfl trivial))))
      · replace hF := gb_ifF c12 hF
        refine gb_aload_n dX3_tally_56 rfl rfl ?_
        obtain ⟨g13, hF⟩ := gb_gdE hF
        obtain ⟨a14, ea14, hF⟩ := gb_rdE hF
        refine gb_getR fX3_21 dX3_tally_57 (gb_kE g13) ea14 ?_
        refine gb_aload_n dX3_tally_60 rfl rfl ?_
        obtain ⟨g15, hF⟩ := gb_gdE hF
        obtain ⟨a16, ea16, hF⟩ := gb_rdE hF
        refine gb_getR fX3_15 dX3_tally_61 (gb_kE g15) ea16 ?_
        refine gb_iload_n dX3_tally_64 rfl rfl ?_
        obtain ⟨g17, hF⟩ := gb_gdE hF
        obtain ⟨g18, hF⟩ := gb_gdE hF
        refine gb_iald dX3_tally_65 (gb_kE g17) (gb_inE g18) ?_
        obtain ⟨x19, ex19, hF⟩ := gb_ltE hF
        refine gb_topI ex19 ?_
        refine gb_dup2 dX3_tally_66 rfl rfl ?_
        obtain ⟨g20, hF⟩ := gb_gdE hF
        obtain ⟨g21, hF⟩ := gb_gdE hF
        refine gb_iald dX3_tally_67 (gb_kE g20) (gb_inE g21) ?_
        refine gb_iconst (v := (1 : Int32)) dX3_tally_68 (by decide) ?_
        refine gb_iadd dX3_tally_69 ?_
        obtain ⟨g22, hF⟩ := gb_gdE hF
        obtain ⟨g23, hF⟩ := gb_gdE hF
        obtain ⟨h24, eh24, hF⟩ := gb_ltE hF
        refine gb_iast dX3_tally_70 (gb_kE g22) (gb_inE g23) (gb_hp eh24 ?_)
        refine gb_aload_n dX3_tally_71 rfl rfl ?_
        refine gb_dup dX3_tally_72 rfl ?_
        obtain ⟨g25, hF⟩ := gb_gdE hF
        refine gb_getI fX3_34 dX3_tally_73 (gb_kE g25) ?_
        refine gb_iconst (v := (1 : Int32)) dX3_tally_76 (by decide) ?_
        refine gb_iadd dX3_tally_77 ?_
        obtain ⟨g26, hF⟩ := gb_gdE hF
        obtain ⟨h27, eh27, hF⟩ := gb_ltE hF
        refine gb_putI fX3_34 (gb_nff nf3_5) dX3_tally_78 (gb_kE g26) (fun _ => ⟨rfl, rfl⟩) (gb_hp eh27 ?_)
        exact gb_wk (fbX3_tally_81_ok hk28 v0 v1 v2 v3 h27 r hF) (And.intro rfl (And.intro rfl (And.intro rfl (And.intro rfl trivial))))
def lpX3_tally_28 (n : Nat) (v0 : Nat) (v1 : Int32) (v2 : Int32) (v3 : Int32) (h : gb_H) : Option (Unit × gb_H) := gb_lp (σ := Nat × Int32 × Int32 × Int32 × gb_H) (fun k s => fbX3_tally_28 (fun v0 v1 v2 v3 h => k (v0, v1, v2, v3, h)) s.1 s.2.1 s.2.2.1 s.2.2.2.1 s.2.2.2.2) n (v0, v1, v2, v3, h)
theorem lpX3_tally_28_ok {X : gb_X}  (n : Nat) (v0 : Nat) (v1 : Int32) (v2 : Int32) (v3 : Int32) (h : gb_H) (r : Unit × gb_H) (hF : lpX3_tally_28 n v0 v1 v2 v3 h = some r) : gb_Ev X 1 mX3_tally 28 [some (.ref v0), some (.int v1), some (.int v2), some (.int v3)] [] h (gb_wV r) := by
  exact gb_lpE (σ := Nat × Int32 × Int32 × Int32 × gb_H) (P := fun s r => gb_Ev X 1 mX3_tally 28 [some (.ref s.1), some (.int s.2.1), some (.int s.2.2.1), some (.int s.2.2.2.1)] [] s.2.2.2.2 (gb_wV r)) (fun k hk s r hs => fbX3_tally_28_ok (fun v0 v1 v2 v3 h r e => hk (v0, v1, v2, v3, h) r e) _ _ _ _ _ r hs) n (v0, v1, v2, v3, h) r hF
def fbX3_tally_2 (k2 : Nat → Int32 → Int32 → Int32 → gb_H → Option (Unit × gb_H)) (v0 : Nat) (v1 : Int32) (v2 : Int32) (v3 : Int32) (h : gb_H) : Option (Unit × gb_H) :=
  if (32 : Int32) ≤ v3 then
    gb_gd (gb_k h v0 3) <|
    gb_lt (gb_sI h v0 5 (0 : Int32)) fun h3 =>
    lpX3_tally_28 gb_FU v0 v1 v2 (0 : Int32) h3
  else
    gb_gd (gb_k h v0 3) <|
    gb_rd (gb_R h v0 4) fun a5 =>
    gb_gd (gb_k h a5 20) <|
    gb_gd (gb_in h a5 v3) <|
    gb_lt (gb_sI h a5 v3.toNatClampNeg (0 : Int32)) fun h8 =>
    gb_lt (v3 + (1 : Int32)) fun x9 =>
    k2 v0 v1 v2 x9 h8
theorem fbX3_tally_2_ok {X : gb_X} {k2 : Nat → Int32 → Int32 → Int32 → gb_H → Option (Unit × gb_H)} (hk2 : ∀ v0 v1 v2 v3 h r, k2 v0 v1 v2 v3 h = some r → gb_Ev X 1 mX3_tally 2 [some (.ref v0), some (.int v1), some (.int v2), some (.int v3)] [] h (gb_wV r)) (v0 : Nat) (v1 : Int32) (v2 : Int32) (v3 : Int32) (h : gb_H) (r : Unit × gb_H) (hF : fbX3_tally_2 k2 v0 v1 v2 v3 h = some r) : gb_Ev X 1 mX3_tally 2 [some (.ref v0), some (.int v1), some (.int v2), some (.int v3)] [] h (gb_wV r) := by
  unfold fbX3_tally_2 at hF
  refine gb_iload_n dX3_tally_2 rfl rfl ?_
  refine gb_bipush (v := (32 : Int32)) dX3_tally_3 (by decide) ?_
  refine gb_icmp_ge (tgt := 21) dX3_tally_5 (by decide) (fun c1 => ?_) (fun c1 => ?_)
  · replace hF := gb_ifT c1 hF
    refine gb_aload_n dX3_tally_21 rfl rfl ?_
    refine gb_iconst (v := (0 : Int32)) dX3_tally_22 (by decide) ?_
    obtain ⟨g2, hF⟩ := gb_gdE hF
    obtain ⟨h3, eh3, hF⟩ := gb_ltE hF
    refine gb_putI fX3_34 (gb_nff nf3_5) dX3_tally_23 (gb_kE g2) (fun _ => ⟨rfl, rfl⟩) (gb_hp eh3 ?_)
    refine gb_iconst (v := (0 : Int32)) dX3_tally_26 (by decide) ?_
    refine gb_istore_n (L' := [some (.ref v0), some (.int v1), some (.int v2), some (.int (0 : Int32))]) dX3_tally_27 rfl (by decide) rfl rfl ?_
    exact gb_wk (lpX3_tally_28_ok gb_FU v0 v1 v2 (0 : Int32) h3 r hF) (And.intro rfl (And.intro rfl (And.intro rfl (And.intro rfl trivial))))
  · replace hF := gb_ifF c1 hF
    refine gb_aload_n dX3_tally_8 rfl rfl ?_
    obtain ⟨g4, hF⟩ := gb_gdE hF
    obtain ⟨a5, ea5, hF⟩ := gb_rdE hF
    refine gb_getR fX3_21 dX3_tally_9 (gb_kE g4) ea5 ?_
    refine gb_iload_n dX3_tally_12 rfl rfl ?_
    refine gb_iconst (v := (0 : Int32)) dX3_tally_13 (by decide) ?_
    obtain ⟨g6, hF⟩ := gb_gdE hF
    obtain ⟨g7, hF⟩ := gb_gdE hF
    obtain ⟨h8, eh8, hF⟩ := gb_ltE hF
    refine gb_iast dX3_tally_14 (gb_kE g6) (gb_inE g7) (gb_hp eh8 ?_)
    obtain ⟨x9, ex9, hF⟩ := gb_ltE hF
    refine gb_iinc (v := x9) (L' := [some (.ref v0), some (.int v1), some (.int v2), some (.int x9)]) dX3_tally_15 rfl (by rw [ex9]; rfl) (by decide) rfl rfl ?_
    refine gb_goto (tgt := 2) dX3_tally_18 (by decide) ?_
    exact gb_wk (hk2 v0 v1 v2 x9 h8 r hF) (And.intro rfl (And.intro rfl (And.intro rfl (And.intro rfl trivial))))
def lpX3_tally_2 (n : Nat) (v0 : Nat) (v1 : Int32) (v2 : Int32) (v3 : Int32) (h : gb_H) : Option (Unit × gb_H) := gb_lp (σ := Nat × Int32 × Int32 × Int32 × gb_H) (fun k s => fbX3_tally_2 (fun v0 v1 v2 v3 h => k (v0, v1, v2, v3, h)) s.1 s.2.1 s.2.2.1 s.2.2.2.1 s.2.2.2.2) n (v0, v1, v2, v3, h)
theorem lpX3_tally_2_ok {X : gb_X}  (n : Nat) (v0 : Nat) (v1 : Int32) (v2 : Int32) (v3 : Int32) (h : gb_H) (r : Unit × gb_H) (hF : lpX3_tally_2 n v0 v1 v2 v3 h = some r) : gb_Ev X 1 mX3_tally 2 [some (.ref v0), some (.int v1), some (.int v2), some (.int v3)] [] h (gb_wV r) := by
  exact gb_lpE (σ := Nat × Int32 × Int32 × Int32 × gb_H) (P := fun s r => gb_Ev X 1 mX3_tally 2 [some (.ref s.1), some (.int s.2.1), some (.int s.2.2.1), some (.int s.2.2.2.1)] [] s.2.2.2.2 (gb_wV r)) (fun k hk s r hs => fbX3_tally_2_ok (fun v0 v1 v2 v3 h r e => hk (v0, v1, v2, v3, h) r e) _ _ _ _ _ r hs) n (v0, v1, v2, v3, h) r hF
def fnX3_tally (p0 : Nat) (p1 : Int32) (p2 : Int32) (h : gb_H) : Option (Unit × gb_H) :=
  lpX3_tally_2 gb_FU p0 p1 p2 (0 : Int32) h
theorem fnX3_tally_ok {X : gb_X}  {p0 : Nat} {p1 : Int32} {p2 : Int32} (h : gb_H) (r : Unit × gb_H) (hF : fnX3_tally p0 p1 p2 h = some r) : gb_Ev X 1 mX3_tally 0 (gb_L0 [.ref p0, .int p1, .int p2]) [] h (gb_wV r) := by
  unfold fnX3_tally at hF
  refine gb_weak (L' := [some (.ref p0), some (.int p1), some (.int p2), none]) (And.intro rfl (And.intro rfl (And.intro rfl trivial))) ?_
  refine gb_iconst (v := (0 : Int32)) dX3_tally_0 (by decide) ?_
  refine gb_istore_n (L' := [some (.ref p0), some (.int p1), some (.int p2), some (.int (0 : Int32))]) dX3_tally_1 rfl (by decide) rfl rfl ?_
  exact gb_wk (lpX3_tally_2_ok gb_FU p0 p1 p2 (0 : Int32) h r hF) (And.intro rfl (And.intro rfl (And.intro rfl (And.intro rfl trivial))))
def fbX9_hasRoom_17 (s0 : Int32) (h : gb_H) : Option (Int32 × gb_H) :=
  gb_gd (gb_b s0) <|
  some (s0, h)
theorem fbX9_hasRoom_17_ok {X : gb_X} (s0 : Int32) (h : gb_H) (r : Int32 × gb_H) (hF : fbX9_hasRoom_17 s0 h = some r) : gb_Ev X 1 mX9_hasRoom 17 [none, none] [.int s0] h (gb_wI r) := by
  unfold fbX9_hasRoom_17 at hF
  obtain ⟨g1, hF⟩ := gb_gdE hF
  cases hF
  exact gb_zret dX9_hasRoom_17 rfl (gb_bE g1)
def fnX9_hasRoom (p0 : Nat) (p1 : Int32) (h : gb_H) : Option (Int32 × gb_H) :=
  gb_gd (gb_k h p0 9) <|
  if (400 : Int32) < ((gb_I h p0 1) + p1) then
    fbX9_hasRoom_17 (0 : Int32) h
  else
    fbX9_hasRoom_17 (1 : Int32) h
theorem fnX9_hasRoom_ok {X : gb_X}  {p0 : Nat} {p1 : Int32} (h : gb_H) (r : Int32 × gb_H) (hF : fnX9_hasRoom p0 p1 h = some r) : gb_Ev X 1 mX9_hasRoom 0 (gb_L0 [.ref p0, .int p1]) [] h (gb_wI r) := by
  unfold fnX9_hasRoom at hF
  refine gb_weak (L' := [some (.ref p0), some (.int p1)]) (And.intro rfl (And.intro rfl trivial)) ?_
  refine gb_aload_n dX9_hasRoom_0 rfl rfl ?_
  obtain ⟨g1, hF⟩ := gb_gdE hF
  refine gb_getI fX9_15 dX9_hasRoom_1 (gb_kE g1) ?_
  refine gb_iload_n dX9_hasRoom_4 rfl rfl ?_
  refine gb_iadd dX9_hasRoom_5 ?_
  refine gb_sipush (v := (400 : Int32)) dX9_hasRoom_6 (by decide) ?_
  refine gb_icmp_gt (tgt := 16) dX9_hasRoom_9 (by decide) (fun c2 => ?_) (fun c2 => ?_)
  · replace hF := gb_ifT c2 hF
    refine gb_iconst (v := (0 : Int32)) dX9_hasRoom_16 (by decide) ?_
    exact gb_wk (fbX9_hasRoom_17_ok (0 : Int32) h r hF) trivial
  · replace hF := gb_ifF c2 hF
    refine gb_iconst (v := (1 : Int32)) dX9_hasRoom_12 (by decide) ?_
    refine gb_goto (tgt := 17) dX9_hasRoom_13 (by decide) ?_
    exact gb_wk (fbX9_hasRoom_17_ok (1 : Int32) h r hF) trivial
def fbX9_write_49 (h : gb_H) : Option (Unit × gb_H) :=
  some ((), h)
theorem fbX9_write_49_ok {X : gb_X} (h : gb_H) (r : Unit × gb_H) (hF : fbX9_write_49 h = some r) : gb_Ev X 1 mX9_write 49 [none, none, none] [] h (gb_wV r) := by
  unfold fbX9_write_49 at hF
  cases hF
  exact gb_vret dX9_write_49 rfl
def fbX9_write_3 (k3 : Nat → Int32 → Int32 → gb_H → Option (Unit × gb_H)) (v0 : Nat) (v1 : Int32) (v2 : Int32) (h : gb_H) : Option (Unit × gb_H) :=
  if v2 < 0 then
    fbX9_write_49 h
  else
    gb_gd (gb_k h v0 9) <|
    if (400 : Int32) ≤ (gb_I h v0 1) then
      fbX9_write_49 h
    else
      gb_gd (gb_k h v0 9) <|
      gb_rd (gb_R h v0 0) fun a5 =>
      gb_gd (gb_k h v0 9) <|
      gb_lt (gb_I h v0 1) fun x7 =>
      gb_gd (gb_k h a5 20) <|
      gb_gd (gb_in h a5 x7) <|
      gb_lt (gb_sI h a5 x7.toNatClampNeg ((v1 >>> (v2 &&& 31)) &&& (255 : Int32))) fun h10 =>
      gb_gd (gb_k h10 v0 9) <|
      gb_gd (gb_k h10 v0 9) <|
      gb_lt (gb_sI h10 v0 1 ((gb_I h10 v0 1) + (1 : Int32))) fun h13 =>
      gb_lt (v2 + (-8 : Int32)) fun x14 =>
      k3 v0 v1 x14 h13
theorem fbX9_write_3_ok {X : gb_X} {k3 : Nat → Int32 → Int32 → gb_H → Option (Unit × gb_H)} (hk3 : ∀ v0 v1 v2 h r, k3 v0 v1 v2 h = some r → gb_Ev X 1 mX9_write 3 [some (.ref v0), some (.int v1), some (.int v2)] [] h (gb_wV r)) (v0 : Nat) (v1 : Int32) (v2 : Int32) (h : gb_H) (r : Unit × gb_H) (hF : fbX9_write_3 k3 v0 v1 v2 h = some r) : gb_Ev X 1 mX9_write 3 [some (.ref v0), some (.int v1), some (.int v2)] [] h (gb_wV r) := by
  unfold fbX9_write_3 at hF
  refine gb_iload_n dX9_write_3 rfl rfl ?_
  refine gb_if_lt (tgt := 49) dX9_write_4 (by decide) (fun c1 => ?_) (fun c1 => ?_)
  · replace hF := gb_ifT c1 hF
    exact gb_wk (fbX9_write_49_ok h r hF) trivial
  · replace hF := gb_ifF c1 hF
    refine gb_aload_n dX9_write_7 rfl rfl ?_
    obtain ⟨g2, hF⟩ := gb_gdE hF
    refine gb_getI fX9_15 dX9_write_8 (gb_kE g2) ?_
    refine gb_sipush (v := (400 : Int32)) dX9_write_11 (by decide) ?_
    refine gb_icmp_ge (tgt := 49) dX9_write_14 (by decide) (fun c3 => ?_) (fun c3 => ?_)
    · replace hF := gb_ifT c3 hF
      exact gb_wk (fbX9_write_49_ok h r hF) trivial
    · replace hF := gb_ifF c3 hF
      refine gb_aload_n dX9_write_17 rfl rfl ?_
      obtain ⟨g4, hF⟩ := gb_gdE hF
      obtain ⟨a5, ea5, hF⟩ := gb_rdE hF
      refine gb_getR fX9_9 dX9_write_18 (gb_kE g4) ea5 ?_
      refine gb_aload_n dX9_write_21 rfl rfl ?_
      obtain ⟨g6, hF⟩ := gb_gdE hF
      refine gb_getI fX9_15 dX9_write_22 (gb_kE g6) ?_
      refine gb_iload_n dX9_write_25 rfl rfl ?_
      refine gb_iload_n dX9_write_26 rfl rfl ?_
      refine gb_ishr dX9_write_27 ?_
      refine gb_sipush (v := (255 : Int32)) dX9_write_28 (by decide) ?_
      refine gb_iand dX9_write_31 ?_
      obtain ⟨x7, ex7, hF⟩ := gb_ltE hF
      refine gb_topI2 ex7 ?_
      obtain ⟨g8, hF⟩ := gb_gdE hF
      obtain ⟨g9, hF⟩ := gb_gdE hF
      obtain ⟨h10, eh10, hF⟩ := gb_ltE hF
      refine gb_iast dX9_write_32 (gb_kE g8) (gb_inE g9) (gb_hp eh10 ?_)
      refine gb_aload_n dX9_write_33 rfl rfl ?_
      refine gb_dup dX9_write_34 rfl ?_
      obtain ⟨g11, hF⟩ := gb_gdE hF
      refine gb_getI fX9_15 dX9_write_35 (gb_kE g11) ?_
      refine gb_iconst (v := (1 : Int32)) dX9_write_38 (by decide) ?_
      refine gb_iadd dX9_write_39 ?_
      obtain ⟨g12, hF⟩ := gb_gdE hF
      obtain ⟨h13, eh13, hF⟩ := gb_ltE hF
      refine gb_putI fX9_15 (gb_nff nf9_1) dX9_write_40 (gb_kE g12) (fun _ => ⟨rfl, rfl⟩) (gb_hp eh13 ?_)
      obtain ⟨x14, ex14, hF⟩ := gb_ltE hF
      refine gb_iinc (v := x14) (L' := [some (.ref v0), some (.int v1), some (.int x14)]) dX9_write_43 rfl (by rw [ex14]; rfl) (by decide) rfl rfl ?_
      refine gb_goto (tgt := 3) dX9_write_46 (by decide) ?_
      exact gb_wk (hk3 v0 v1 x14 h13 r hF) (And.intro rfl (And.intro rfl (And.intro rfl trivial)))
def lpX9_write_3 (n : Nat) (v0 : Nat) (v1 : Int32) (v2 : Int32) (h : gb_H) : Option (Unit × gb_H) := gb_lp (σ := Nat × Int32 × Int32 × gb_H) (fun k s => fbX9_write_3 (fun v0 v1 v2 h => k (v0, v1, v2, h)) s.1 s.2.1 s.2.2.1 s.2.2.2) n (v0, v1, v2, h)
theorem lpX9_write_3_ok {X : gb_X}  (n : Nat) (v0 : Nat) (v1 : Int32) (v2 : Int32) (h : gb_H) (r : Unit × gb_H) (hF : lpX9_write_3 n v0 v1 v2 h = some r) : gb_Ev X 1 mX9_write 3 [some (.ref v0), some (.int v1), some (.int v2)] [] h (gb_wV r) := by
  exact gb_lpE (σ := Nat × Int32 × Int32 × gb_H) (P := fun s r => gb_Ev X 1 mX9_write 3 [some (.ref s.1), some (.int s.2.1), some (.int s.2.2.1)] [] s.2.2.2 (gb_wV r)) (fun k hk s r hs => fbX9_write_3_ok (fun v0 v1 v2 h r e => hk (v0, v1, v2, h) r e) _ _ _ _ r hs) n (v0, v1, v2, h) r hF
def fnX9_write (p0 : Nat) (p1 : Int32) (h : gb_H) : Option (Unit × gb_H) :=
  lpX9_write_3 gb_FU p0 p1 (24 : Int32) h
theorem fnX9_write_ok {X : gb_X}  {p0 : Nat} {p1 : Int32} (h : gb_H) (r : Unit × gb_H) (hF : fnX9_write p0 p1 h = some r) : gb_Ev X 1 mX9_write 0 (gb_L0 [.ref p0, .int p1]) [] h (gb_wV r) := by
  unfold fnX9_write at hF
  refine gb_weak (L' := [some (.ref p0), some (.int p1), none]) (And.intro rfl (And.intro rfl trivial)) ?_
  refine gb_bipush (v := (24 : Int32)) dX9_write_0 (by decide) ?_
  refine gb_istore_n (L' := [some (.ref p0), some (.int p1), some (.int (24 : Int32))]) dX9_write_2 rfl (by decide) rfl rfl ?_
  exact gb_wk (lpX9_write_3_ok gb_FU p0 p1 (24 : Int32) h r hF) (And.intro rfl (And.intro rfl (And.intro rfl trivial)))
def fnX8_thousandths (p0 : Nat) (h : gb_H) : Option (Int32 × gb_H) :=
  gb_gd (gb_k h p0 8) <|
  if (0 : Int64) < (gb_L h p0 2) then
    gb_gd (gb_k h p0 8) <|
    gb_gd (gb_k h p0 8) <|
    gb_gd (gb_nzL (1000 : Int64)) <|
    gb_gd (gb_k h p0 8) <|
    gb_lt (gb_L h p0 2) fun x7 =>
    gb_gd (gb_nzL x7) <|
    some (((((gb_L h p0 0) + (((gb_L h p0 1) * (1414 : Int64)) / (1000 : Int64))) * (1000 : Int64)) / x7).toInt32, h)
  else
    some ((0 : Int32), h)
theorem fnX8_thousandths_ok {X : gb_X}  {p0 : Nat} (h : gb_H) (r : Int32 × gb_H) (hF : fnX8_thousandths p0 h = some r) : gb_Ev X 1 mX8_thousandths 0 (gb_L0 [.ref p0]) [] h (gb_wI r) := by
  unfold fnX8_thousandths at hF
  refine gb_weak (L' := [some (.ref p0)]) (And.intro rfl trivial) ?_
  refine gb_aload_n dX8_thousandths_0 rfl rfl ?_
  obtain ⟨g1, hF⟩ := gb_gdE hF
  refine gb_getL fX8_7 dX8_thousandths_1 (gb_kE g1) ?_
  refine gb_lconst (v := (0 : Int64)) dX8_thousandths_4 (by decide) ?_
  refine gb_lc_gt (tgt := 11) dX8_thousandths_5 dX8_thousandths_6 (by decide) (fun c2 => ?_) (fun c2 => ?_)
  · replace hF := gb_ifT c2 hF
    refine gb_aload_n dX8_thousandths_11 rfl rfl ?_
    obtain ⟨g3, hF⟩ := gb_gdE hF
    refine gb_getL fX8_23 dX8_thousandths_12 (gb_kE g3) ?_
    refine gb_aload_n dX8_thousandths_15 rfl rfl ?_
    obtain ⟨g4, hF⟩ := gb_gdE hF
    refine gb_getL fX8_26 dX8_thousandths_16 (gb_kE g4) ?_
    refine gb_ldc2 (v := (1414 : Int64)) dX8_thousandths_19 kX8_29 ?_
    refine gb_lmul dX8_thousandths_22 ?_
    refine gb_ldc2 (v := (1000 : Int64)) dX8_thousandths_23 kX8_31 ?_
    obtain ⟨g5, hF⟩ := gb_gdE hF
    refine gb_ldiv dX8_thousandths_26 (gb_nzLE g5) ?_
    refine gb_ladd dX8_thousandths_27 ?_
    refine gb_ldc2 (v := (1000 : Int64)) dX8_thousandths_28 kX8_31 ?_
    refine gb_lmul dX8_thousandths_31 ?_
    refine gb_aload_n dX8_thousandths_32 rfl rfl ?_
    obtain ⟨g6, hF⟩ := gb_gdE hF
    refine gb_getL fX8_7 dX8_thousandths_33 (gb_kE g6) ?_
    obtain ⟨x7, ex7, hF⟩ := gb_ltE hF
    refine gb_topJ ex7 ?_
    obtain ⟨g8, hF⟩ := gb_gdE hF
    refine gb_ldiv dX8_thousandths_36 (gb_nzLE g8) ?_
    refine gb_l2i dX8_thousandths_37 ?_
    cases hF
    exact gb_iret dX8_thousandths_38 rfl
  · replace hF := gb_ifF c2 hF
    refine gb_iconst (v := (0 : Int32)) dX8_thousandths_9 (by decide) ?_
    cases hF
    exact gb_iret dX8_thousandths_10 rfl
def fnX3_like (p0 : Nat) (h : gb_H) : Option (Int32 × gb_H) :=
  gb_gd (gb_k h p0 3) <|
  gb_rd (gb_R h p0 4) fun a2 =>
  gb_gd (gb_k h a2 20) <|
  gb_gd (gb_in h a2 (5 : Int32)) <|
  gb_gd (gb_k h p0 3) <|
  gb_rd (gb_R h p0 4) fun a6 =>
  gb_gd (gb_k h a6 20) <|
  gb_gd (gb_in h a6 (10 : Int32)) <|
  some ((gb_I h a2 (5 : Int32).toNatClampNeg) + (gb_I h a6 (10 : Int32).toNatClampNeg), h)
theorem fnX3_like_ok {X : gb_X}  {p0 : Nat} (h : gb_H) (r : Int32 × gb_H) (hF : fnX3_like p0 h = some r) : gb_Ev X 1 mX3_like 0 (gb_L0 [.ref p0]) [] h (gb_wI r) := by
  unfold fnX3_like at hF
  refine gb_weak (L' := [some (.ref p0)]) (And.intro rfl trivial) ?_
  refine gb_aload_n dX3_like_0 rfl rfl ?_
  obtain ⟨g1, hF⟩ := gb_gdE hF
  obtain ⟨a2, ea2, hF⟩ := gb_rdE hF
  refine gb_getR fX3_21 dX3_like_1 (gb_kE g1) ea2 ?_
  refine gb_iconst (v := (5 : Int32)) dX3_like_4 (by decide) ?_
  obtain ⟨g3, hF⟩ := gb_gdE hF
  obtain ⟨g4, hF⟩ := gb_gdE hF
  refine gb_iald dX3_like_5 (gb_kE g3) (gb_inE g4) ?_
  refine gb_aload_n dX3_like_6 rfl rfl ?_
  obtain ⟨g5, hF⟩ := gb_gdE hF
  obtain ⟨a6, ea6, hF⟩ := gb_rdE hF
  refine gb_getR fX3_21 dX3_like_7 (gb_kE g5) ea6 ?_
  refine gb_bipush (v := (10 : Int32)) dX3_like_10 (by decide) ?_
  obtain ⟨g7, hF⟩ := gb_gdE hF
  obtain ⟨g8, hF⟩ := gb_gdE hF
  refine gb_iald dX3_like_12 (gb_kE g7) (gb_inE g8) ?_
  refine gb_iadd dX3_like_13 ?_
  cases hF
  exact gb_iret dX3_like_14 rfl
def fnX3_unlike (p0 : Nat) (h : gb_H) : Option (Int32 × gb_H) :=
  gb_gd (gb_k h p0 3) <|
  gb_rd (gb_R h p0 4) fun a2 =>
  gb_gd (gb_k h a2 20) <|
  gb_gd (gb_in h a2 (9 : Int32)) <|
  gb_gd (gb_k h p0 3) <|
  gb_rd (gb_R h p0 4) fun a6 =>
  gb_gd (gb_k h a6 20) <|
  gb_gd (gb_in h a6 (6 : Int32)) <|
  some ((gb_I h a2 (9 : Int32).toNatClampNeg) + (gb_I h a6 (6 : Int32).toNatClampNeg), h)
theorem fnX3_unlike_ok {X : gb_X}  {p0 : Nat} (h : gb_H) (r : Int32 × gb_H) (hF : fnX3_unlike p0 h = some r) : gb_Ev X 1 mX3_unlike 0 (gb_L0 [.ref p0]) [] h (gb_wI r) := by
  unfold fnX3_unlike at hF
  refine gb_weak (L' := [some (.ref p0)]) (And.intro rfl trivial) ?_
  refine gb_aload_n dX3_unlike_0 rfl rfl ?_
  obtain ⟨g1, hF⟩ := gb_gdE hF
  obtain ⟨a2, ea2, hF⟩ := gb_rdE hF
  refine gb_getR fX3_21 dX3_unlike_1 (gb_kE g1) ea2 ?_
  refine gb_bipush (v := (9 : Int32)) dX3_unlike_4 (by decide) ?_
  obtain ⟨g3, hF⟩ := gb_gdE hF
  obtain ⟨g4, hF⟩ := gb_gdE hF
  refine gb_iald dX3_unlike_6 (gb_kE g3) (gb_inE g4) ?_
  refine gb_aload_n dX3_unlike_7 rfl rfl ?_
  obtain ⟨g5, hF⟩ := gb_gdE hF
  obtain ⟨a6, ea6, hF⟩ := gb_rdE hF
  refine gb_getR fX3_21 dX3_unlike_8 (gb_kE g5) ea6 ?_
  refine gb_bipush (v := (6 : Int32)) dX3_unlike_11 (by decide) ?_
  obtain ⟨g7, hF⟩ := gb_gdE hF
  obtain ⟨g8, hF⟩ := gb_gdE hF
  refine gb_iald dX3_unlike_13 (gb_kE g7) (gb_inE g8) ?_
  refine gb_iadd dX3_unlike_14 ?_
  cases hF
  exact gb_iret dX3_unlike_15 rfl
def fnJ6_bitCount_0f7a4 (p0 : Int32) (h : gb_H) : Option (Int32 × gb_H) :=
  gb_lt (p0 - (((p0.toUInt32 >>> ((1 : Int32).toUInt32 &&& Int32.toUInt32 31)).toInt32) &&& (1431655765 : Int32))) fun x1 =>
  gb_lt ((x1 &&& (858993459 : Int32)) + (((x1.toUInt32 >>> ((2 : Int32).toUInt32 &&& Int32.toUInt32 31)).toInt32) &&& (858993459 : Int32))) fun x2 =>
  gb_lt ((x2 + ((x2.toUInt32 >>> ((4 : Int32).toUInt32 &&& Int32.toUInt32 31)).toInt32)) &&& (252645135 : Int32)) fun x3 =>
  gb_lt (x3 + ((x3.toUInt32 >>> ((8 : Int32).toUInt32 &&& Int32.toUInt32 31)).toInt32)) fun x4 =>
  gb_lt (x4 + ((x4.toUInt32 >>> ((16 : Int32).toUInt32 &&& Int32.toUInt32 31)).toInt32)) fun x5 =>
  some (x5 &&& (63 : Int32), h)
theorem fnJ6_bitCount_0f7a4_ok {X : gb_X}  {p0 : Int32} (h : gb_H) (r : Int32 × gb_H) (hF : fnJ6_bitCount_0f7a4 p0 h = some r) : gb_Ev X 1 mJ6_bitCount_0f7a4 0 (gb_L0 [.int p0]) [] h (gb_wI r) := by
  unfold fnJ6_bitCount_0f7a4 at hF
  refine gb_weak (L' := [some (.int p0)]) (And.intro rfl trivial) ?_
  refine gb_iload_n dJ6_bitCount_0f7a4_0 rfl rfl ?_
  refine gb_iload_n dJ6_bitCount_0f7a4_1 rfl rfl ?_
  refine gb_iconst (v := (1 : Int32)) dJ6_bitCount_0f7a4_2 (by decide) ?_
  refine gb_iushr dJ6_bitCount_0f7a4_3 ?_
  refine gb_ldcw (v := (1431655765 : Int32)) dJ6_bitCount_0f7a4_4 kJ6_265 ?_
  refine gb_iand dJ6_bitCount_0f7a4_7 ?_
  refine gb_isub dJ6_bitCount_0f7a4_8 ?_
  obtain ⟨x1, ex1, hF⟩ := gb_ltE hF
  refine gb_topI ex1 ?_
  refine gb_istore_n (L' := [some (.int x1)]) dJ6_bitCount_0f7a4_9 rfl (by decide) rfl rfl ?_
  refine gb_iload_n dJ6_bitCount_0f7a4_10 rfl rfl ?_
  refine gb_ldcw (v := (858993459 : Int32)) dJ6_bitCount_0f7a4_11 kJ6_266 ?_
  refine gb_iand dJ6_bitCount_0f7a4_14 ?_
  refine gb_iload_n dJ6_bitCount_0f7a4_15 rfl rfl ?_
  refine gb_iconst (v := (2 : Int32)) dJ6_bitCount_0f7a4_16 (by decide) ?_
  refine gb_iushr dJ6_bitCount_0f7a4_17 ?_
  refine gb_ldcw (v := (858993459 : Int32)) dJ6_bitCount_0f7a4_18 kJ6_266 ?_
  refine gb_iand dJ6_bitCount_0f7a4_21 ?_
  refine gb_iadd dJ6_bitCount_0f7a4_22 ?_
  obtain ⟨x2, ex2, hF⟩ := gb_ltE hF
  refine gb_topI ex2 ?_
  refine gb_istore_n (L' := [some (.int x2)]) dJ6_bitCount_0f7a4_23 rfl (by decide) rfl rfl ?_
  refine gb_iload_n dJ6_bitCount_0f7a4_24 rfl rfl ?_
  refine gb_iload_n dJ6_bitCount_0f7a4_25 rfl rfl ?_
  refine gb_iconst (v := (4 : Int32)) dJ6_bitCount_0f7a4_26 (by decide) ?_
  refine gb_iushr dJ6_bitCount_0f7a4_27 ?_
  refine gb_iadd dJ6_bitCount_0f7a4_28 ?_
  refine gb_ldcw (v := (252645135 : Int32)) dJ6_bitCount_0f7a4_29 kJ6_267 ?_
  refine gb_iand dJ6_bitCount_0f7a4_32 ?_
  obtain ⟨x3, ex3, hF⟩ := gb_ltE hF
  refine gb_topI ex3 ?_
  refine gb_istore_n (L' := [some (.int x3)]) dJ6_bitCount_0f7a4_33 rfl (by decide) rfl rfl ?_
  refine gb_iload_n dJ6_bitCount_0f7a4_34 rfl rfl ?_
  refine gb_iload_n dJ6_bitCount_0f7a4_35 rfl rfl ?_
  refine gb_bipush (v := (8 : Int32)) dJ6_bitCount_0f7a4_36 (by decide) ?_
  refine gb_iushr dJ6_bitCount_0f7a4_38 ?_
  refine gb_iadd dJ6_bitCount_0f7a4_39 ?_
  obtain ⟨x4, ex4, hF⟩ := gb_ltE hF
  refine gb_topI ex4 ?_
  refine gb_istore_n (L' := [some (.int x4)]) dJ6_bitCount_0f7a4_40 rfl (by decide) rfl rfl ?_
  refine gb_iload_n dJ6_bitCount_0f7a4_41 rfl rfl ?_
  refine gb_iload_n dJ6_bitCount_0f7a4_42 rfl rfl ?_
  refine gb_bipush (v := (16 : Int32)) dJ6_bitCount_0f7a4_43 (by decide) ?_
  refine gb_iushr dJ6_bitCount_0f7a4_45 ?_
  refine gb_iadd dJ6_bitCount_0f7a4_46 ?_
  obtain ⟨x5, ex5, hF⟩ := gb_ltE hF
  refine gb_topI ex5 ?_
  refine gb_istore_n (L' := [some (.int x5)]) dJ6_bitCount_0f7a4_47 rfl (by decide) rfl rfl ?_
  refine gb_iload_n dJ6_bitCount_0f7a4_48 rfl rfl ?_
  refine gb_bipush (v := (63 : Int32)) dJ6_bitCount_0f7a4_49 (by decide) ?_
  refine gb_iand dJ6_bitCount_0f7a4_51 ?_
  cases hF
  exact gb_iret dJ6_bitCount_0f7a4_52 rfl
def fbX3_signedSum_67 (k6 : Nat → Int32 → Int64 → Int64 → Int32 → gb_H → Option (Int64 × gb_H)) (v0 : Nat) (v1 : Int32) (v2 : Int64) (v4 : Int64) (v6 : Int32) (h : gb_H) : Option (Int64 × gb_H) :=
  gb_lt (v6 + (1 : Int32)) fun x1 =>
  k6 v0 v1 v2 v4 x1 h
theorem fbX3_signedSum_67_ok {X : gb_X} {k6 : Nat → Int32 → Int64 → Int64 → Int32 → gb_H → Option (Int64 × gb_H)} (hk6 : ∀ v0 v1 v2 v4 v6 h r, k6 v0 v1 v2 v4 v6 h = some r → gb_Ev X 1 mX3_signedSum 6 [some (.ref v0), some (.int v1), some (.long v2), none, some (.long v4), none, some (.int v6), none, none, none, none] [] h (gb_wJ r)) (v0 : Nat) (v1 : Int32) (v2 : Int64) (v4 : Int64) (v6 : Int32) (h : gb_H) (r : Int64 × gb_H) (hF : fbX3_signedSum_67 k6 v0 v1 v2 v4 v6 h = some r) : gb_Ev X 1 mX3_signedSum 67 [some (.ref v0), some (.int v1), some (.long v2), none, some (.long v4), none, some (.int v6), none, none, none, none] [] h (gb_wJ r) := by
  unfold fbX3_signedSum_67 at hF
  obtain ⟨x1, ex1, hF⟩ := gb_ltE hF
  refine gb_iinc (v := x1) (L' := [some (.ref v0), some (.int v1), some (.long v2), none, some (.long v4), none, some (.int x1), none, none, none, none]) dX3_signedSum_67 rfl (by rw [ex1]; rfl) (by decide) rfl rfl ?_
  refine gb_goto (tgt := 6) dX3_signedSum_70 (by decide) ?_
  exact gb_wk (hk6 v0 v1 v2 v4 x1 h r hF) (And.intro rfl (And.intro rfl (And.intro rfl (And.intro rfl (And.intro rfl trivial)))))
def fbX3_signedSum_64 (k6 : Nat → Int32 → Int64 → Int64 → Int32 → gb_H → Option (Int64 × gb_H)) (v0 : Nat) (v1 : Int32) (v2 : Int64) (v6 : Int32) (s0 : Int64) (s1 : Int64) (h : gb_H) : Option (Int64 × gb_H) :=
  gb_lt (s0 + s1) fun x1 =>
  fbX3_signedSum_67 k6 v0 v1 v2 x1 v6 h
theorem fbX3_signedSum_64_ok {X : gb_X} {k6 : Nat → Int32 → Int64 → Int64 → Int32 → gb_H → Option (Int64 × gb_H)} (hk6 : ∀ v0 v1 v2 v4 v6 h r, k6 v0 v1 v2 v4 v6 h = some r → gb_Ev X 1 mX3_signedSum 6 [some (.ref v0), some (.int v1), some (.long v2), none, some (.long v4), none, some (.int v6), none, none, none, none] [] h (gb_wJ r)) (v0 : Nat) (v1 : Int32) (v2 : Int64) (v6 : Int32) (s0 : Int64) (s1 : Int64) (h : gb_H) (r : Int64 × gb_H) (hF : fbX3_signedSum_64 k6 v0 v1 v2 v6 s0 s1 h = some r) : gb_Ev X 1 mX3_signedSum 64 [some (.ref v0), some (.int v1), some (.long v2), none, none, none, some (.int v6), none, none, none, none] [.long s1, .long s0] h (gb_wJ r) := by
  unfold fbX3_signedSum_64 at hF
  refine gb_ladd dX3_signedSum_64 ?_
  obtain ⟨x1, ex1, hF⟩ := gb_ltE hF
  refine gb_topJ ex1 ?_
  refine gb_lstore (L' := [some (.ref v0), some (.int v1), some (.long v2), none, some (.long x1), none, some (.int v6), none, none, none, none]) dX3_signedSum_65 (by decide) rfl rfl ?_
  exact gb_wk (fbX3_signedSum_67_ok hk6 v0 v1 v2 x1 v6 h r hF) (And.intro rfl (And.intro rfl (And.intro rfl (And.intro rfl (And.intro rfl trivial)))))
def fbX3_signedSum_6 (k6 : Nat → Int32 → Int64 → Int64 → Int32 → gb_H → Option (Int64 × gb_H)) (v0 : Nat) (v1 : Int32) (v2 : Int64) (v4 : Int64) (v6 : Int32) (h : gb_H) : Option (Int64 × gb_H) :=
  if (4 : Int32) ≤ v6 then
    some (v4, h)
  else
    gb_gd (gb_k h v0 3) <|
    gb_rd (gb_R h v0 7) fun a3 =>
    gb_gd (gb_k h a3 20) <|
    gb_gd (gb_in h a3 v6) <|
    gb_lt ((gb_I h a3 v6.toNatClampNeg).toInt64) fun x6 =>
    if x6 ≤ (0 : Int64) then
      fbX3_signedSum_67 k6 v0 v1 v2 v4 v6 h
    else
      gb_gd (gb_k h v0 3) <|
      gb_rd (gb_R h v0 6) fun a9 =>
      gb_gd (gb_k h a9 20) <|
      gb_gd (gb_in h a9 v6) <|
      gb_gd (gb_nzL x6) <|
      gb_lt (((gb_I h a9 v6.toNatClampNeg).toInt64) * (v2 / x6)) fun x13 =>
      if ((v1 >>> (v6 &&& 31)) &&& (1 : Int32)) = (1 : Int32) then
        fbX3_signedSum_64 k6 v0 v1 v2 v6 v4 (-x13) h
      else
        fbX3_signedSum_64 k6 v0 v1 v2 v6 v4 x13 h
theorem fbX3_signedSum_6_ok {X : gb_X} {k6 : Nat → Int32 → Int64 → Int64 → Int32 → gb_H → Option (Int64 × gb_H)} (hk6 : ∀ v0 v1 v2 v4 v6 h r, k6 v0 v1 v2 v4 v6 h = some r → gb_Ev X 1 mX3_signedSum 6 [some (.ref v0), some (.int v1), some (.long v2), none, some (.long v4), none, some (.int v6), none, none, none, none] [] h (gb_wJ r)) (v0 : Nat) (v1 : Int32) (v2 : Int64) (v4 : Int64) (v6 : Int32) (h : gb_H) (r : Int64 × gb_H) (hF : fbX3_signedSum_6 k6 v0 v1 v2 v4 v6 h = some r) : gb_Ev X 1 mX3_signedSum 6 [some (.ref v0), some (.int v1), some (.long v2), none, some (.long v4), none, some (.int v6), none, none, none, none] [] h (gb_wJ r) := by
  unfold fbX3_signedSum_6 at hF
  refine gb_iload dX3_signedSum_6 rfl ?_
  refine gb_iconst (v := (4 : Int32)) dX3_signedSum_8 (by decide) ?_
  refine gb_icmp_ge (tgt := 73) dX3_signedSum_9 (by decide) (fun c1 => ?_) (fun c1 => ?_)
  · replace hF := gb_ifT c1 hF
    refine gb_lload dX3_signedSum_73 rfl ?_
    cases hF
    exact gb_lret dX3_signedSum_75 rfl
  · replace hF := gb_ifF c1 hF
    refine gb_aload_n dX3_signedSum_12 rfl rfl ?_
    obtain ⟨g2, hF⟩ := gb_gdE hF
    obtain ⟨a3, ea3, hF⟩ := gb_rdE hF
    refine gb_getR fX3_27 dX3_signedSum_13 (gb_kE g2) ea3 ?_
    refine gb_iload dX3_signedSum_16 rfl ?_
    obtain ⟨g4, hF⟩ := gb_gdE hF
    obtain ⟨g5, hF⟩ := gb_gdE hF
    refine gb_iald dX3_signedSum_18 (gb_kE g4) (gb_inE g5) ?_
    refine gb_i2l dX3_signedSum_19 ?_
    obtain ⟨x6, ex6, hF⟩ := gb_ltE hF
    refine gb_topJ ex6 ?_
    refine gb_lstore (L' := [some (.ref v0), some (.int v1), some (.long v2), none, some (.long v4), none, some (.int v6), some (.long x6), none, none, none]) dX3_signedSum_20 (by decide) rfl rfl ?_
    refine gb_lload dX3_signedSum_22 rfl ?_
    refine gb_lconst (v := (0 : Int64)) dX3_signedSum_24 (by decide) ?_
    refine gb_lc_le (tgt := 67) dX3_signedSum_25 dX3_signedSum_26 (by decide) (fun c7 => ?_) (fun c7 => ?_)
    · replace hF := gb_ifT c7 hF
      exact gb_wk (fbX3_signedSum_67_ok hk6 v0 v1 v2 v4 v6 h r hF) (And.intro rfl (And.intro rfl (And.intro rfl (And.intro rfl (And.intro rfl trivial)))))
    · replace hF := gb_ifF c7 hF
      refine gb_aload_n dX3_signedSum_29 rfl rfl ?_
      obtain ⟨g8, hF⟩ := gb_gdE hF
      obtain ⟨a9, ea9, hF⟩ := gb_rdE hF
      refine gb_getR fX3_24 dX3_signedSum_30 (gb_kE g8) ea9 ?_
      refine gb_iload dX3_signedSum_33 rfl ?_
      obtain ⟨g10, hF⟩ := gb_gdE hF
      obtain ⟨g11, hF⟩ := gb_gdE hF
      refine gb_iald dX3_signedSum_35 (gb_kE g10) (gb_inE g11) ?_
      refine gb_i2l dX3_signedSum_36 ?_
      refine gb_lload_n dX3_signedSum_37 rfl rfl ?_
      refine gb_lload dX3_signedSum_38 rfl ?_
      obtain ⟨g12, hF⟩ := gb_gdE hF
      refine gb_ldiv dX3_signedSum_40 (gb_nzLE g12) ?_
      refine gb_lmul dX3_signedSum_41 ?_
      obtain ⟨x13, ex13, hF⟩ := gb_ltE hF
      refine gb_topJ ex13 ?_
      refine gb_lstore (L' := [some (.ref v0), some (.int v1), some (.long v2), none, some (.long v4), none, some (.int v6), some (.long x6), none, some (.long x13), none]) dX3_signedSum_42 (by decide) rfl rfl ?_
      refine gb_lload dX3_signedSum_44 rfl ?_
      refine gb_iload_n dX3_signedSum_46 rfl rfl ?_
      refine gb_iload dX3_signedSum_47 rfl ?_
      refine gb_ishr dX3_signedSum_49 ?_
      refine gb_iconst (v := (1 : Int32)) dX3_signedSum_50 (by decide) ?_
      refine gb_iand dX3_signedSum_51 ?_
      refine gb_iconst (v := (1 : Int32)) dX3_signedSum_52 (by decide) ?_
      refine gb_icmp_ne (tgt := 62) dX3_signedSum_53 (by decide) (fun c14 => ?_) (fun c14 => ?_)
      · replace hF := gb_ifF c14 hF
        refine gb_lload dX3_signedSum_62 rfl ?_
        exact gb_wk (fbX3_signedSum_64_ok hk6 v0 v1 v2 v6 v4 x13 h r hF) (And.intro rfl (And.intro rfl (And.intro rfl (And.intro rfl trivial))))
      · replace hF := gb_ifT c14 hF
        refine gb_lload dX3_signedSum_56 rfl ?_
        refine gb_lneg dX3_signedSum_58 ?_
        refine gb_goto (tgt := 64) dX3_signedSum_59 (by decide) ?_
        exact gb_wk (fbX3_signedSum_64_ok hk6 v0 v1 v2 v6 v4 (-x13) h r hF) (And.intro rfl (And.intro rfl (And.intro rfl (And.intro rfl trivial))))
def lpX3_signedSum_6 (n : Nat) (v0 : Nat) (v1 : Int32) (v2 : Int64) (v4 : Int64) (v6 : Int32) (h : gb_H) : Option (Int64 × gb_H) := gb_lp (σ := Nat × Int32 × Int64 × Int64 × Int32 × gb_H) (fun k s => fbX3_signedSum_6 (fun v0 v1 v2 v4 v6 h => k (v0, v1, v2, v4, v6, h)) s.1 s.2.1 s.2.2.1 s.2.2.2.1 s.2.2.2.2.1 s.2.2.2.2.2) n (v0, v1, v2, v4, v6, h)
theorem lpX3_signedSum_6_ok {X : gb_X}  (n : Nat) (v0 : Nat) (v1 : Int32) (v2 : Int64) (v4 : Int64) (v6 : Int32) (h : gb_H) (r : Int64 × gb_H) (hF : lpX3_signedSum_6 n v0 v1 v2 v4 v6 h = some r) : gb_Ev X 1 mX3_signedSum 6 [some (.ref v0), some (.int v1), some (.long v2), none, some (.long v4), none, some (.int v6), none, none, none, none] [] h (gb_wJ r) := by
  exact gb_lpE (σ := Nat × Int32 × Int64 × Int64 × Int32 × gb_H) (P := fun s r => gb_Ev X 1 mX3_signedSum 6 [some (.ref s.1), some (.int s.2.1), some (.long s.2.2.1), none, some (.long s.2.2.2.1), none, some (.int s.2.2.2.2.1), none, none, none, none] [] s.2.2.2.2.2 (gb_wJ r)) (fun k hk s r hs => fbX3_signedSum_6_ok (fun v0 v1 v2 v4 v6 h r e => hk (v0, v1, v2, v4, v6, h) r e) _ _ _ _ _ _ r hs) n (v0, v1, v2, v4, v6, h) r hF
def fnX3_signedSum (p0 : Nat) (p1 : Int32) (p2 : Int64) (h : gb_H) : Option (Int64 × gb_H) :=
  lpX3_signedSum_6 gb_FU p0 p1 p2 (0 : Int64) (0 : Int32) h
theorem fnX3_signedSum_ok {X : gb_X}  {p0 : Nat} {p1 : Int32} {p2 : Int64} (h : gb_H) (r : Int64 × gb_H) (hF : fnX3_signedSum p0 p1 p2 h = some r) : gb_Ev X 1 mX3_signedSum 0 (gb_L0 [.ref p0, .int p1, .long p2]) [] h (gb_wJ r) := by
  unfold fnX3_signedSum at hF
  refine gb_weak (L' := [some (.ref p0), some (.int p1), some (.long p2), none, none, none, none, none, none, none, none]) (And.intro rfl (And.intro rfl (And.intro rfl trivial))) ?_
  refine gb_lconst (v := (0 : Int64)) dX3_signedSum_0 (by decide) ?_
  refine gb_lstore (L' := [some (.ref p0), some (.int p1), some (.long p2), none, some (.long (0 : Int64)), none, none, none, none, none, none]) dX3_signedSum_1 (by decide) rfl rfl ?_
  refine gb_iconst (v := (0 : Int32)) dX3_signedSum_3 (by decide) ?_
  refine gb_istore (L' := [some (.ref p0), some (.int p1), some (.long p2), none, some (.long (0 : Int64)), none, some (.int (0 : Int32)), none, none, none, none]) dX3_signedSum_4 (by decide) rfl rfl ?_
  exact gb_wk (lpX3_signedSum_6_ok gb_FU p0 p1 p2 (0 : Int64) (0 : Int32) h r hF) (And.intro rfl (And.intro rfl (And.intro rfl (And.intro rfl (And.intro rfl trivial)))))
def fbX3_sumSides_121 (k89 : Nat → Nat → Int64 → Int64 → Int32 → gb_H → Option (Int32 × gb_H)) (v0 : Nat) (v2 : Nat) (v3 : Int64) (v5 : Int64) (v7 : Int32) (h : gb_H) : Option (Int32 × gb_H) :=
  gb_lt (v7 + (1 : Int32)) fun x1 =>
  k89 v0 v2 v3 v5 x1 h
theorem fbX3_sumSides_121_ok {X : gb_X} {k89 : Nat → Nat → Int64 → Int64 → Int32 → gb_H → Option (Int32 × gb_H)} (hk89 : ∀ v0 v2 v3 v5 v7 h r, k89 v0 v2 v3 v5 v7 h = some r → gb_Ev X 3 mX3_sumSides 89 [some (.ref v0), none, some (.ref v2), some (.long v3), none, some (.long v5), none, some (.int v7)] [] h (gb_wI r)) (v0 : Nat) (v2 : Nat) (v3 : Int64) (v5 : Int64) (v7 : Int32) (h : gb_H) (r : Int32 × gb_H) (hF : fbX3_sumSides_121 k89 v0 v2 v3 v5 v7 h = some r) : gb_Ev X 3 mX3_sumSides 121 [some (.ref v0), none, some (.ref v2), some (.long v3), none, some (.long v5), none, some (.int v7)] [] h (gb_wI r) := by
  unfold fbX3_sumSides_121 at hF
  obtain ⟨x1, ex1, hF⟩ := gb_ltE hF
  refine gb_iinc (v := x1) (L' := [some (.ref v0), none, some (.ref v2), some (.long v3), none, some (.long v5), none, some (.int x1)]) dX3_sumSides_121 rfl (by rw [ex1]; rfl) (by decide) rfl rfl ?_
  refine gb_goto (tgt := 89) dX3_sumSides_124 (by decide) ?_
  exact gb_wk (hk89 v0 v2 v3 v5 x1 h r hF) (And.intro rfl (And.intro rfl (And.intro rfl (And.intro rfl (And.intro rfl trivial)))))
def fbX3_sumSides_89 (k89 : Nat → Nat → Int64 → Int64 → Int32 → gb_H → Option (Int32 × gb_H)) (v0 : Nat) (v2 : Nat) (v3 : Int64) (v5 : Int64) (v7 : Int32) (h : gb_H) : Option (Int32 × gb_H) :=
  if (16 : Int32) ≤ v7 then
    gb_gd (gb_k h v2 8) <|
    gb_bd (fnX8_put v2 v5 (0 : Int64) v3 h) fun _ h4 =>
    some ((1 : Int32), h4)
  else
    gb_bd (fnJ6_bitCount_0f7a4 v7 h) fun x5 h6 =>
    if (x5 &&& (1 : Int32)) = (1 : Int32) then
      gb_gd (gb_k h6 v0 3) <|
      gb_bd (fnX3_signedSum v0 v7 v3 h6) fun x9 h10 =>
      gb_lt (if x9 < v5 then v5 else x9) fun x11 =>
      fbX3_sumSides_121 k89 v0 v2 v3 x11 v7 h10
    else
      fbX3_sumSides_121 k89 v0 v2 v3 v5 v7 h6
theorem fbX3_sumSides_89_ok {X : gb_X} {k89 : Nat → Nat → Int64 → Int64 → Int32 → gb_H → Option (Int32 × gb_H)} (hk89 : ∀ v0 v2 v3 v5 v7 h r, k89 v0 v2 v3 v5 v7 h = some r → gb_Ev X 3 mX3_sumSides 89 [some (.ref v0), none, some (.ref v2), some (.long v3), none, some (.long v5), none, some (.int v7)] [] h (gb_wI r)) (v0 : Nat) (v2 : Nat) (v3 : Int64) (v5 : Int64) (v7 : Int32) (h : gb_H) (r : Int32 × gb_H) (hF : fbX3_sumSides_89 k89 v0 v2 v3 v5 v7 h = some r) : gb_Ev X 3 mX3_sumSides 89 [some (.ref v0), none, some (.ref v2), some (.long v3), none, some (.long v5), none, some (.int v7)] [] h (gb_wI r) := by
  unfold fbX3_sumSides_89 at hF
  refine gb_iload dX3_sumSides_89 rfl ?_
  refine gb_bipush (v := (16 : Int32)) dX3_sumSides_91 (by decide) ?_
  refine gb_icmp_ge (tgt := 127) dX3_sumSides_93 (by decide) (fun c1 => ?_) (fun c1 => ?_)
  · replace hF := gb_ifT c1 hF
    refine gb_aload_n dX3_sumSides_127 rfl rfl ?_
    refine gb_lload dX3_sumSides_128 rfl ?_
    refine gb_lconst (v := (0 : Int64)) dX3_sumSides_130 (by decide) ?_
    refine gb_lload_n dX3_sumSides_131 rfl rfl ?_
    obtain ⟨g2, hF⟩ := gb_gdE hF
    obtain ⟨x3, h4, cx3, hF⟩ := gb_bdE hF
    refine gb_cV (As := [.long v5, .long (0 : Int64), .long v3]) (S := []) (v := none) (h1 := h4) (S2 := []) cf8 dX3_sumSides_132 mtX8_put lX3_66 inX8_put seX8_put (gb_kE g2) (fnX8_put_ok _ _ cx3) (by decide) rfl (Nat.le_of_ble_eq_true rfl) (Nat.le_of_ble_eq_true rfl) rfl rfl ?_
    refine gb_iconst (v := (1 : Int32)) dX3_sumSides_135 (by decide) ?_
    cases hF
    exact gb_zret dX3_sumSides_136 rfl (by decide)
  · replace hF := gb_ifF c1 hF
    refine gb_iload dX3_sumSides_96 rfl ?_
    obtain ⟨x5, h6, cx5, hF⟩ := gb_bdE hF
    refine gb_cS (As := [.int v7]) (S := []) (v := some (.int x5)) (h1 := h6) (S2 := [.int x5]) dX3_sumSides_98 mtJ6_bitCount_0f7a4 lX3_50 stJ6_bitCount_0f7a4 (fnJ6_bitCount_0f7a4_ok _ _ cx5) (by decide) rfl (Nat.le_of_ble_eq_true rfl) (Nat.le_of_ble_eq_true rfl) rfl rfl ?_
    refine gb_iconst (v := (1 : Int32)) dX3_sumSides_101 (by decide) ?_
    refine gb_iand dX3_sumSides_102 ?_
    refine gb_iconst (v := (1 : Int32)) dX3_sumSides_103 (by decide) ?_
    refine gb_icmp_ne (tgt := 121) dX3_sumSides_104 (by decide) (fun c7 => ?_) (fun c7 => ?_)
    · replace hF := gb_ifF c7 hF
      exact gb_wk (fbX3_sumSides_121_ok hk89 v0 v2 v3 v5 v7 h6 r hF) (And.intro rfl (And.intro rfl (And.intro rfl (And.intro rfl (And.intro rfl trivial)))))
    · replace hF := gb_ifT c7 hF
      refine gb_lload dX3_sumSides_107 rfl ?_
      refine gb_aload_n dX3_sumSides_109 rfl rfl ?_
      refine gb_iload dX3_sumSides_110 rfl ?_
      refine gb_lload_n dX3_sumSides_112 rfl rfl ?_
      obtain ⟨g8, hF⟩ := gb_gdE hF
      obtain ⟨x9, h10, cx9, hF⟩ := gb_bdE hF
      refine gb_cV (As := [.int v7, .long v3]) (S := [.long v5]) (v := some (.long x9)) (h1 := h10) (S2 := [.long x9, .long v5]) cf3 dX3_sumSides_113 mtX3_signedSum lX3_56 inX3_signedSum seX3_signedSum (gb_kE g8) (fnX3_signedSum_ok _ _ cx9) (by decide) rfl (Nat.le_of_ble_eq_true rfl) (Nat.le_of_ble_eq_true rfl) rfl rfl ?_
      refine gb_mmaxL dX3_sumSides_116 lmX3_60 gb_sdmaxL gb_mini gb_cdmaxL (by decide) (Nat.le_of_ble_eq_true rfl) ?_
      obtain ⟨x11, ex11, hF⟩ := gb_ltE hF
      refine gb_topJ ex11 ?_
      refine gb_lstore (L' := [some (.ref v0), none, some (.ref v2), some (.long v3), none, some (.long x11), none, some (.int v7)]) dX3_sumSides_119 (by decide) rfl rfl ?_
      exact gb_wk (fbX3_sumSides_121_ok hk89 v0 v2 v3 x11 v7 h10 r hF) (And.intro rfl (And.intro rfl (And.intro rfl (And.intro rfl (And.intro rfl trivial)))))
def lpX3_sumSides_89 (n : Nat) (v0 : Nat) (v2 : Nat) (v3 : Int64) (v5 : Int64) (v7 : Int32) (h : gb_H) : Option (Int32 × gb_H) := gb_lp (σ := Nat × Nat × Int64 × Int64 × Int32 × gb_H) (fun k s => fbX3_sumSides_89 (fun v0 v2 v3 v5 v7 h => k (v0, v2, v3, v5, v7, h)) s.1 s.2.1 s.2.2.1 s.2.2.2.1 s.2.2.2.2.1 s.2.2.2.2.2) n (v0, v2, v3, v5, v7, h)
theorem lpX3_sumSides_89_ok {X : gb_X}  (n : Nat) (v0 : Nat) (v2 : Nat) (v3 : Int64) (v5 : Int64) (v7 : Int32) (h : gb_H) (r : Int32 × gb_H) (hF : lpX3_sumSides_89 n v0 v2 v3 v5 v7 h = some r) : gb_Ev X 3 mX3_sumSides 89 [some (.ref v0), none, some (.ref v2), some (.long v3), none, some (.long v5), none, some (.int v7)] [] h (gb_wI r) := by
  exact gb_lpE (σ := Nat × Nat × Int64 × Int64 × Int32 × gb_H) (P := fun s r => gb_Ev X 3 mX3_sumSides 89 [some (.ref s.1), none, some (.ref s.2.1), some (.long s.2.2.1), none, some (.long s.2.2.2.1), none, some (.int s.2.2.2.2.1)] [] s.2.2.2.2.2 (gb_wI r)) (fun k hk s r hs => fbX3_sumSides_89_ok (fun v0 v2 v3 v5 v7 h r e => hk (v0, v2, v3, v5, v7, h) r e) _ _ _ _ _ _ r hs) n (v0, v2, v3, v5, v7, h) r hF
def fbX3_sumSides_5 (k5 : Nat → Int32 → Nat → Int64 → Int32 → gb_H → Option (Int32 × gb_H)) (v0 : Nat) (v1 : Int32) (v2 : Nat) (v3 : Int64) (v5 : Int32) (h : gb_H) : Option (Int32 × gb_H) :=
  if (4 : Int32) ≤ v5 then
    gb_lt ((-4 : Int64) * v3) fun x2 =>
    lpX3_sumSides_89 gb_FU v0 v2 v3 x2 (0 : Int32) h
  else
    gb_gd (gb_k h v0 3) <|
    gb_bd (fnX3_tally v0 v5 v1 h) fun _ h5 =>
    gb_gd (gb_k h5 v0 3) <|
    gb_rd (gb_R h5 v0 6) fun a7 =>
    gb_gd (gb_k h5 v0 3) <|
    gb_bd (fnX3_like v0 h5) fun x9 h10 =>
    gb_gd (gb_k h10 v0 3) <|
    gb_bd (fnX3_unlike v0 h10) fun x12 h13 =>
    gb_gd (gb_k h13 a7 20) <|
    gb_gd (gb_in h13 a7 v5) <|
    gb_lt (gb_sI h13 a7 v5.toNatClampNeg (x9 - x12)) fun h16 =>
    gb_gd (gb_k h16 v0 3) <|
    gb_rd (gb_R h16 v0 7) fun a18 =>
    gb_gd (gb_k h16 v0 3) <|
    gb_bd (fnX3_like v0 h16) fun x20 h21 =>
    gb_gd (gb_k h21 v0 3) <|
    gb_bd (fnX3_unlike v0 h21) fun x23 h24 =>
    gb_gd (gb_k h24 a18 20) <|
    gb_gd (gb_in h24 a18 v5) <|
    gb_lt (gb_sI h24 a18 v5.toNatClampNeg (x20 + x23)) fun h27 =>
    gb_gd (gb_k h27 v0 3) <|
    gb_rd (gb_R h27 v0 7) fun a29 =>
    gb_gd (gb_k h27 a29 20) <|
    gb_gd (gb_in h27 a29 v5) <|
    if 0 < (gb_I h27 a29 v5.toNatClampNeg) then
      gb_gd (gb_k h27 v0 3) <|
      gb_rd (gb_R h27 v0 7) fun a34 =>
      gb_gd (gb_k h27 a34 20) <|
      gb_gd (gb_in h27 a34 v5) <|
      gb_lt (v3 * ((gb_I h27 a34 v5.toNatClampNeg).toInt64)) fun x37 =>
      gb_lt (v5 + (1 : Int32)) fun x38 =>
      k5 v0 v1 v2 x37 x38 h27
    else
      some ((0 : Int32), h27)
theorem fbX3_sumSides_5_ok {X : gb_X} {k5 : Nat → Int32 → Nat → Int64 → Int32 → gb_H → Option (Int32 × gb_H)} (hk5 : ∀ v0 v1 v2 v3 v5 h r, k5 v0 v1 v2 v3 v5 h = some r → gb_Ev X 3 mX3_sumSides 5 [some (.ref v0), some (.int v1), some (.ref v2), some (.long v3), none, some (.int v5), none, none] [] h (gb_wI r)) (v0 : Nat) (v1 : Int32) (v2 : Nat) (v3 : Int64) (v5 : Int32) (h : gb_H) (r : Int32 × gb_H) (hF : fbX3_sumSides_5 k5 v0 v1 v2 v3 v5 h = some r) : gb_Ev X 3 mX3_sumSides 5 [some (.ref v0), some (.int v1), some (.ref v2), some (.long v3), none, some (.int v5), none, none] [] h (gb_wI r) := by
  unfold fbX3_sumSides_5 at hF
  refine gb_iload dX3_sumSides_5 rfl ?_
  refine gb_iconst (v := (4 : Int32)) dX3_sumSides_7 (by decide) ?_
  refine gb_icmp_ge (tgt := 79) dX3_sumSides_8 (by decide) (fun c1 => ?_) (fun c1 => ?_)
  · replace hF := gb_ifT c1 hF
    refine gb_ldc2 (v := (-4 : Int64)) dX3_sumSides_79 kX3_48 ?_
    refine gb_lload_n dX3_sumSides_82 rfl rfl ?_
    refine gb_lmul dX3_sumSides_83 ?_
    obtain ⟨x2, ex2, hF⟩ := gb_ltE hF
    refine gb_topJ ex2 ?_
    refine gb_lstore (L' := [some (.ref v0), some (.int v1), some (.ref v2), some (.long v3), none, some (.long x2), none, none]) dX3_sumSides_84 (by decide) rfl rfl ?_
    refine gb_iconst (v := (0 : Int32)) dX3_sumSides_86 (by decide) ?_
    refine gb_istore (L' := [some (.ref v0), some (.int v1), some (.ref v2), some (.long v3), none, some (.long x2), none, some (.int (0 : Int32))]) dX3_sumSides_87 (by decide) rfl rfl ?_
    exact gb_wk (lpX3_sumSides_89_ok gb_FU v0 v2 v3 x2 (0 : Int32) h r hF) (And.intro rfl (And.intro rfl (And.intro rfl (And.intro rfl (And.intro rfl trivial)))))
  · replace hF := gb_ifF c1 hF
    refine gb_aload_n dX3_sumSides_11 rfl rfl ?_
    refine gb_iload dX3_sumSides_12 rfl ?_
    refine gb_iload_n dX3_sumSides_14 rfl rfl ?_
    obtain ⟨g3, hF⟩ := gb_gdE hF
    obtain ⟨x4, h5, cx4, hF⟩ := gb_bdE hF
    refine gb_cV (As := [.int v5, .int v1]) (S := []) (v := none) (h1 := h5) (S2 := []) cf3 dX3_sumSides_15 mtX3_tally lX3_37 inX3_tally seX3_tally (gb_kE g3) (fnX3_tally_ok _ _ cx4) (by decide) rfl (Nat.le_of_ble_eq_true rfl) (Nat.le_of_ble_eq_true rfl) rfl rfl ?_
    refine gb_aload_n dX3_sumSides_18 rfl rfl ?_
    obtain ⟨g6, hF⟩ := gb_gdE hF
    obtain ⟨a7, ea7, hF⟩ := gb_rdE hF
    refine gb_getR fX3_24 dX3_sumSides_19 (gb_kE g6) ea7 ?_
    refine gb_iload dX3_sumSides_22 rfl ?_
    refine gb_aload_n dX3_sumSides_24 rfl rfl ?_
    obtain ⟨g8, hF⟩ := gb_gdE hF
    obtain ⟨x9, h10, cx9, hF⟩ := gb_bdE hF
    refine gb_cV (As := []) (S := [.int v5, .ref a7]) (v := some (.int x9)) (h1 := h10) (S2 := [.int x9, .int v5, .ref a7]) cf3 dX3_sumSides_25 mtX3_like lX3_41 inX3_like seX3_like (gb_kE g8) (fnX3_like_ok _ _ cx9) (by decide) rfl (Nat.le_of_ble_eq_true rfl) (Nat.le_of_ble_eq_true rfl) rfl rfl ?_
    refine gb_aload_n dX3_sumSides_28 rfl rfl ?_
    obtain ⟨g11, hF⟩ := gb_gdE hF
    obtain ⟨x12, h13, cx12, hF⟩ := gb_bdE hF
    refine gb_cV (As := []) (S := [.int x9, .int v5, .ref a7]) (v := some (.int x12)) (h1 := h13) (S2 := [.int x12, .int x9, .int v5, .ref a7]) cf3 dX3_sumSides_29 mtX3_unlike lX3_45 inX3_unlike seX3_unlike (gb_kE g11) (fnX3_unlike_ok _ _ cx12) (by decide) rfl (Nat.le_of_ble_eq_true rfl) (Nat.le_of_ble_eq_true rfl) rfl rfl ?_
    refine gb_isub dX3_sumSides_32 ?_
    obtain ⟨g14, hF⟩ := gb_gdE hF
    obtain ⟨g15, hF⟩ := gb_gdE hF
    obtain ⟨h16, eh16, hF⟩ := gb_ltE hF
    refine gb_iast dX3_sumSides_33 (gb_kE g14) (gb_inE g15) (gb_hp eh16 ?_)
    refine gb_aload_n dX3_sumSides_34 rfl rfl ?_
    obtain ⟨g17, hF⟩ := gb_gdE hF
    obtain ⟨a18, ea18, hF⟩ := gb_rdE hF
    refine gb_getR fX3_27 dX3_sumSides_35 (gb_kE g17) ea18 ?_
    refine gb_iload dX3_sumSides_38 rfl ?_
    refine gb_aload_n dX3_sumSides_40 rfl rfl ?_
    obtain ⟨g19, hF⟩ := gb_gdE hF
    obtain ⟨x20, h21, cx20, hF⟩ := gb_bdE hF
    refine gb_cV (As := []) (S := [.int v5, .ref a18]) (v := some (.int x20)) (h1 := h21) (S2 := [.int x20, .int v5, .ref a18]) cf3 dX3_sumSides_41 mtX3_like lX3_41 inX3_like seX3_like (gb_kE g19) (fnX3_like_ok _ _ cx20) (by decide) rfl (Nat.le_of_ble_eq_true rfl) (Nat.le_of_ble_eq_true rfl) rfl rfl ?_
    refine gb_aload_n dX3_sumSides_44 rfl rfl ?_
    obtain ⟨g22, hF⟩ := gb_gdE hF
    obtain ⟨x23, h24, cx23, hF⟩ := gb_bdE hF
    refine gb_cV (As := []) (S := [.int x20, .int v5, .ref a18]) (v := some (.int x23)) (h1 := h24) (S2 := [.int x23, .int x20, .int v5, .ref a18]) cf3 dX3_sumSides_45 mtX3_unlike lX3_45 inX3_unlike seX3_unlike (gb_kE g22) (fnX3_unlike_ok _ _ cx23) (by decide) rfl (Nat.le_of_ble_eq_true rfl) (Nat.le_of_ble_eq_true rfl) rfl rfl ?_
    refine gb_iadd dX3_sumSides_48 ?_
    obtain ⟨g25, hF⟩ := gb_gdE hF
    obtain ⟨g26, hF⟩ := gb_gdE hF
    obtain ⟨h27, eh27, hF⟩ := gb_ltE hF
    refine gb_iast dX3_sumSides_49 (gb_kE g25) (gb_inE g26) (gb_hp eh27 ?_)
    refine gb_aload_n dX3_sumSides_50 rfl rfl ?_
    obtain ⟨g28, hF⟩ := gb_gdE hF
    obtain ⟨a29, ea29, hF⟩ := gb_rdE hF
    refine gb_getR fX3_27 dX3_sumSides_51 (gb_kE g28) ea29 ?_
    refine gb_iload dX3_sumSides_54 rfl ?_
    obtain ⟨g30, hF⟩ := gb_gdE hF
    obtain ⟨g31, hF⟩ := gb_gdE hF
    refine gb_iald dX3_sumSides_56 (gb_kE g30) (gb_inE g31) ?_
    refine gb_if_gt (tgt := 62) dX3_sumSides_57 (by decide) (fun c32 => ?_) (fun c32 => ?_)
    · replace hF := gb_ifT c32 hF
      refine gb_lload_n dX3_sumSides_62 rfl rfl ?_
      refine gb_aload_n dX3_sumSides_63 rfl rfl ?_
      obtain ⟨g33, hF⟩ := gb_gdE hF
      obtain ⟨a34, ea34, hF⟩ := gb_rdE hF
      refine gb_getR fX3_27 dX3_sumSides_64 (gb_kE g33) ea34 ?_
      refine gb_iload dX3_sumSides_67 rfl ?_
      obtain ⟨g35, hF⟩ := gb_gdE hF
      obtain ⟨g36, hF⟩ := gb_gdE hF
      refine gb_iald dX3_sumSides_69 (gb_kE g35) (gb_inE g36) ?_
      refine gb_i2l dX3_sumSides_70 ?_
      refine gb_lmul dX3_sumSides_71 ?_
      obtain ⟨x37, ex37, hF⟩ := gb_ltE hF
      refine gb_topJ ex37 ?_
      refine gb_lstore_n (L' := [some (.ref v0), some (.int v1), some (.ref v2), some (.long x37), none, some (.int v5), none, none]) dX3_sumSides_72 rfl (by decide) rfl rfl ?_
      obtain ⟨x38, ex38, hF⟩ := gb_ltE hF
      refine gb_iinc (v := x38) (L' := [some (.ref v0), some (.int v1), some (.ref v2), some (.long x37), none, some (.int x38), none, none]) dX3_sumSides_73 rfl (by rw [ex38]; rfl) (by decide) rfl rfl ?_
      refine gb_goto (tgt := 5) dX3_sumSides_76 (by decide) ?_
      exact gb_wk (hk5 v0 v1 v2 x37 x38 h27 r hF) (And.intro rfl (And.intro rfl (And.intro rfl (And.intro rfl (And.intro rfl trivial)))))
    · replace hF := gb_ifF c32 hF
      refine gb_iconst (v := (0 : Int32)) dX3_sumSides_60 (by decide) ?_
      cases hF
      exact gb_zret dX3_sumSides_61 rfl (by decide)
def lpX3_sumSides_5 (n : Nat) (v0 : Nat) (v1 : Int32) (v2 : Nat) (v3 : Int64) (v5 : Int32) (h : gb_H) : Option (Int32 × gb_H) := gb_lp (σ := Nat × Int32 × Nat × Int64 × Int32 × gb_H) (fun k s => fbX3_sumSides_5 (fun v0 v1 v2 v3 v5 h => k (v0, v1, v2, v3, v5, h)) s.1 s.2.1 s.2.2.1 s.2.2.2.1 s.2.2.2.2.1 s.2.2.2.2.2) n (v0, v1, v2, v3, v5, h)
theorem lpX3_sumSides_5_ok {X : gb_X}  (n : Nat) (v0 : Nat) (v1 : Int32) (v2 : Nat) (v3 : Int64) (v5 : Int32) (h : gb_H) (r : Int32 × gb_H) (hF : lpX3_sumSides_5 n v0 v1 v2 v3 v5 h = some r) : gb_Ev X 3 mX3_sumSides 5 [some (.ref v0), some (.int v1), some (.ref v2), some (.long v3), none, some (.int v5), none, none] [] h (gb_wI r) := by
  exact gb_lpE (σ := Nat × Int32 × Nat × Int64 × Int32 × gb_H) (P := fun s r => gb_Ev X 3 mX3_sumSides 5 [some (.ref s.1), some (.int s.2.1), some (.ref s.2.2.1), some (.long s.2.2.2.1), none, some (.int s.2.2.2.2.1), none, none] [] s.2.2.2.2.2 (gb_wI r)) (fun k hk s r hs => fbX3_sumSides_5_ok (fun v0 v1 v2 v3 v5 h r e => hk (v0, v1, v2, v3, v5, h) r e) _ _ _ _ _ _ r hs) n (v0, v1, v2, v3, v5, h) r hF
def fnX3_sumSides (p0 : Nat) (p1 : Int32) (p2 : Nat) (h : gb_H) : Option (Int32 × gb_H) :=
  lpX3_sumSides_5 gb_FU p0 p1 p2 (1 : Int64) (0 : Int32) h
theorem fnX3_sumSides_ok {X : gb_X}  {p0 : Nat} {p1 : Int32} {p2 : Nat} (h : gb_H) (r : Int32 × gb_H) (hF : fnX3_sumSides p0 p1 p2 h = some r) : gb_Ev X 3 mX3_sumSides 0 (gb_L0 [.ref p0, .int p1, .ref p2]) [] h (gb_wI r) := by
  unfold fnX3_sumSides at hF
  refine gb_weak (L' := [some (.ref p0), some (.int p1), some (.ref p2), none, none, none, none, none]) (And.intro rfl (And.intro rfl (And.intro rfl trivial))) ?_
  refine gb_lconst (v := (1 : Int64)) dX3_sumSides_0 (by decide) ?_
  refine gb_lstore_n (L' := [some (.ref p0), some (.int p1), some (.ref p2), some (.long (1 : Int64)), none, none, none, none]) dX3_sumSides_1 rfl (by decide) rfl rfl ?_
  refine gb_iconst (v := (0 : Int32)) dX3_sumSides_2 (by decide) ?_
  refine gb_istore (L' := [some (.ref p0), some (.int p1), some (.ref p2), some (.long (1 : Int64)), none, some (.int (0 : Int32)), none, none]) dX3_sumSides_3 (by decide) rfl rfl ?_
  exact gb_wk (lpX3_sumSides_5_ok gb_FU p0 p1 p2 (1 : Int64) (0 : Int32) h r hF) (And.intro rfl (And.intro rfl (And.intro rfl (And.intro rfl (And.intro rfl trivial)))))
def fbX8_signOf_29 (s0 : Int32) (h : gb_H) : Option (Int32 × gb_H) :=
  some (s0, h)
theorem fbX8_signOf_29_ok {X : gb_X} (s0 : Int32) (h : gb_H) (r : Int32 × gb_H) (hF : fbX8_signOf_29 s0 h = some r) : gb_Ev X 2 mX8_signOf 29 [none, none, none, none, none, none, none, none, none, none, none, none] [.int s0] h (gb_wI r) := by
  unfold fbX8_signOf_29 at hF
  cases hF
  exact gb_iret dX8_signOf_29 rfl
def fbX8_signOf_28 (h : gb_H) : Option (Int32 × gb_H) :=
  fbX8_signOf_29 (1 : Int32) h
theorem fbX8_signOf_28_ok {X : gb_X} (h : gb_H) (r : Int32 × gb_H) (hF : fbX8_signOf_28 h = some r) : gb_Ev X 2 mX8_signOf 28 [none, none, none, none, none, none, none, none, none, none, none, none] [] h (gb_wI r) := by
  unfold fbX8_signOf_28 at hF
  refine gb_iconst (v := (1 : Int32)) dX8_signOf_28 (by decide) ?_
  exact gb_wk (fbX8_signOf_29_ok (1 : Int32) h r hF) trivial
def fbX8_signOf_72 (k72 : Int32 → Int64 → Int64 → Int32 → gb_H → Option (Int32 × gb_H)) (v4 : Int32) (v5 : Int64) (v7 : Int64) (v9 : Int32) (h : gb_H) : Option (Int32 × gb_H) :=
  if (200 : Int32) ≤ v9 then
    some ((0 : Int32), h)
  else
    if v5 < ((2 : Int64) * v7) then
      if v7 < v5 then
        gb_lt (v5 - v7) fun x4 =>
        gb_lt (((2 : Int64) * v7) - v5) fun x5 =>
        gb_lt (-v4) fun x6 =>
        gb_lt (v9 + (1 : Int32)) fun x7 =>
        k72 x6 x5 x4 x7 h
      else
        some (-v4, h)
    else
      some (v4, h)
theorem fbX8_signOf_72_ok {X : gb_X} {k72 : Int32 → Int64 → Int64 → Int32 → gb_H → Option (Int32 × gb_H)} (hk72 : ∀ v4 v5 v7 v9 h r, k72 v4 v5 v7 v9 h = some r → gb_Ev X 2 mX8_signOf 72 [none, none, none, none, some (.int v4), some (.long v5), none, some (.long v7), none, some (.int v9), none, none] [] h (gb_wI r)) (v4 : Int32) (v5 : Int64) (v7 : Int64) (v9 : Int32) (h : gb_H) (r : Int32 × gb_H) (hF : fbX8_signOf_72 k72 v4 v5 v7 v9 h = some r) : gb_Ev X 2 mX8_signOf 72 [none, none, none, none, some (.int v4), some (.long v5), none, some (.long v7), none, some (.int v9), none, none] [] h (gb_wI r) := by
  unfold fbX8_signOf_72 at hF
  refine gb_iload dX8_signOf_72 rfl ?_
  refine gb_sipush (v := (200 : Int32)) dX8_signOf_74 (by decide) ?_
  refine gb_icmp_ge (tgt := 140) dX8_signOf_77 (by decide) (fun c1 => ?_) (fun c1 => ?_)
  · replace hF := gb_ifT c1 hF
    refine gb_iconst (v := (0 : Int32)) dX8_signOf_140 (by decide) ?_
    cases hF
    exact gb_iret dX8_signOf_141 rfl
  · replace hF := gb_ifF c1 hF
    refine gb_lload dX8_signOf_80 rfl ?_
    refine gb_ldc2 (v := (2 : Int64)) dX8_signOf_82 kX8_37 ?_
    refine gb_lload dX8_signOf_85 rfl ?_
    refine gb_lmul dX8_signOf_87 ?_
    refine gb_lc_lt (tgt := 95) dX8_signOf_88 dX8_signOf_89 (by decide) (fun c2 => ?_) (fun c2 => ?_)
    · replace hF := gb_ifT c2 hF
      refine gb_lload dX8_signOf_95 rfl ?_
      refine gb_lload dX8_signOf_97 rfl ?_
      refine gb_lc_gt (tgt := 107) dX8_signOf_99 dX8_signOf_100 (by decide) (fun c3 => ?_) (fun c3 => ?_)
      · replace hF := gb_ifT c3 hF
        refine gb_lload dX8_signOf_107 rfl ?_
        refine gb_lload dX8_signOf_109 rfl ?_
        refine gb_lsub dX8_signOf_111 ?_
        obtain ⟨x4, ex4, hF⟩ := gb_ltE hF
        refine gb_topJ ex4 ?_
        refine gb_lstore (L' := [none, none, none, none, some (.int v4), some (.long v5), none, some (.long v7), none, some (.int v9), some (.long x4), none]) dX8_signOf_112 (by decide) rfl rfl ?_
        refine gb_ldc2 (v := (2 : Int64)) dX8_signOf_114 kX8_37 ?_
        refine gb_lload dX8_signOf_117 rfl ?_
        refine gb_lmul dX8_signOf_119 ?_
        refine gb_lload dX8_signOf_120 rfl ?_
        refine gb_lsub dX8_signOf_122 ?_
        obtain ⟨x5, ex5, hF⟩ := gb_ltE hF
        refine gb_topJ ex5 ?_
        refine gb_lstore (L' := [none, none, none, none, some (.int v4), some (.long x5), none, some (.long v7), none, some (.int v9), some (.long x4), none]) dX8_signOf_123 (by decide) rfl rfl ?_
        refine gb_lload dX8_signOf_125 rfl ?_
        refine gb_lstore (L' := [none, none, none, none, some (.int v4), some (.long x5), none, some (.long x4), none, some (.int v9), some (.long x4), none]) dX8_signOf_127 (by decide) rfl rfl ?_
        refine gb_iload dX8_signOf_129 rfl ?_
        refine gb_ineg dX8_signOf_131 ?_
        obtain ⟨x6, ex6, hF⟩ := gb_ltE hF
        refine gb_topI ex6 ?_
        refine gb_istore (L' := [none, none, none, none, some (.int x6), some (.long x5), none, some (.long x4), none, some (.int v9), some (.long x4), none]) dX8_signOf_132 (by decide) rfl rfl ?_
        obtain ⟨x7, ex7, hF⟩ := gb_ltE hF
        refine gb_iinc (v := x7) (L' := [none, none, none, none, some (.int x6), some (.long x5), none, some (.long x4), none, some (.int x7), some (.long x4), none]) dX8_signOf_134 rfl (by rw [ex7]; rfl) (by decide) rfl rfl ?_
        refine gb_goto (tgt := 72) dX8_signOf_137 (by decide) ?_
        exact gb_wk (hk72 x6 x5 x4 x7 h r hF) (And.intro rfl (And.intro rfl (And.intro rfl (And.intro rfl trivial))))
      · replace hF := gb_ifF c3 hF
        refine gb_iload dX8_signOf_103 rfl ?_
        refine gb_ineg dX8_signOf_105 ?_
        cases hF
        exact gb_iret dX8_signOf_106 rfl
    · replace hF := gb_ifF c2 hF
      refine gb_iload dX8_signOf_92 rfl ?_
      cases hF
      exact gb_iret dX8_signOf_94 rfl
def lpX8_signOf_72 (n : Nat) (v4 : Int32) (v5 : Int64) (v7 : Int64) (v9 : Int32) (h : gb_H) : Option (Int32 × gb_H) := gb_lp (σ := Int32 × Int64 × Int64 × Int32 × gb_H) (fun k s => fbX8_signOf_72 (fun v4 v5 v7 v9 h => k (v4, v5, v7, v9, h)) s.1 s.2.1 s.2.2.1 s.2.2.2.1 s.2.2.2.2) n (v4, v5, v7, v9, h)
theorem lpX8_signOf_72_ok {X : gb_X}  (n : Nat) (v4 : Int32) (v5 : Int64) (v7 : Int64) (v9 : Int32) (h : gb_H) (r : Int32 × gb_H) (hF : lpX8_signOf_72 n v4 v5 v7 v9 h = some r) : gb_Ev X 2 mX8_signOf 72 [none, none, none, none, some (.int v4), some (.long v5), none, some (.long v7), none, some (.int v9), none, none] [] h (gb_wI r) := by
  exact gb_lpE (σ := Int32 × Int64 × Int64 × Int32 × gb_H) (P := fun s r => gb_Ev X 2 mX8_signOf 72 [none, none, none, none, some (.int s.1), some (.long s.2.1), none, some (.long s.2.2.1), none, some (.int s.2.2.2.1), none, none] [] s.2.2.2.2 (gb_wI r)) (fun k hk s r hs => fbX8_signOf_72_ok (fun v4 v5 v7 v9 h r e => hk (v4, v5, v7, v9, h) r e) _ _ _ _ _ r hs) n (v4, v5, v7, v9, h) r hF
def fbX8_signOf_55 (v0 : Int64) (v2 : Int64) (s0 : Int32) (h : gb_H) : Option (Int32 × gb_H) :=
  gb_lt (if 0 < v0 then v0 else -v0) fun x1 =>
  gb_lt (if 0 < v2 then v2 else -v2) fun x2 =>
  lpX8_signOf_72 gb_FU s0 x1 x2 (0 : Int32) h
theorem fbX8_signOf_55_ok {X : gb_X} (v0 : Int64) (v2 : Int64) (s0 : Int32) (h : gb_H) (r : Int32 × gb_H) (hF : fbX8_signOf_55 v0 v2 s0 h = some r) : gb_Ev X 2 mX8_signOf 55 [some (.long v0), none, some (.long v2), none, none, none, none, none, none, none, none, none] [.int s0] h (gb_wI r) := by
  unfold fbX8_signOf_55 at hF
  refine gb_istore (L' := [some (.long v0), none, some (.long v2), none, some (.int s0), none, none, none, none, none, none, none]) dX8_signOf_55 (by decide) rfl rfl ?_
  refine gb_lload_n dX8_signOf_57 rfl rfl ?_
  refine gb_mabsL dX8_signOf_58 lmX8_13 gb_sdabsL gb_mini gb_cdabsL (by decide) (Nat.le_of_ble_eq_true rfl) ?_
  obtain ⟨x1, ex1, hF⟩ := gb_ltE hF
  refine gb_topJ ex1 ?_
  refine gb_lstore (L' := [some (.long v0), none, some (.long v2), none, some (.int s0), some (.long x1), none, none, none, none, none, none]) dX8_signOf_61 (by decide) rfl rfl ?_
  refine gb_lload_n dX8_signOf_63 rfl rfl ?_
  refine gb_mabsL dX8_signOf_64 lmX8_13 gb_sdabsL gb_mini gb_cdabsL (by decide) (Nat.le_of_ble_eq_true rfl) ?_
  obtain ⟨x2, ex2, hF⟩ := gb_ltE hF
  refine gb_topJ ex2 ?_
  refine gb_lstore (L' := [some (.long v0), none, some (.long v2), none, some (.int s0), some (.long x1), none, some (.long x2), none, none, none, none]) dX8_signOf_67 (by decide) rfl rfl ?_
  refine gb_iconst (v := (0 : Int32)) dX8_signOf_69 (by decide) ?_
  refine gb_istore (L' := [some (.long v0), none, some (.long v2), none, some (.int s0), some (.long x1), none, some (.long x2), none, some (.int (0 : Int32)), none, none]) dX8_signOf_70 (by decide) rfl rfl ?_
  exact gb_wk (lpX8_signOf_72_ok gb_FU s0 x1 x2 (0 : Int32) h r hF) (And.intro rfl (And.intro rfl (And.intro rfl (And.intro rfl trivial))))
def fbX8_signOf_44 (v0 : Int64) (v2 : Int64) (h : gb_H) : Option (Int32 × gb_H) :=
  if v0 ≤ (0 : Int64) then
    fbX8_signOf_55 v0 v2 (-1 : Int32) h
  else
    fbX8_signOf_55 v0 v2 (1 : Int32) h
theorem fbX8_signOf_44_ok {X : gb_X} (v0 : Int64) (v2 : Int64) (h : gb_H) (r : Int32 × gb_H) (hF : fbX8_signOf_44 v0 v2 h = some r) : gb_Ev X 2 mX8_signOf 44 [some (.long v0), none, some (.long v2), none, none, none, none, none, none, none, none, none] [] h (gb_wI r) := by
  unfold fbX8_signOf_44 at hF
  refine gb_lload_n dX8_signOf_44 rfl rfl ?_
  refine gb_lconst (v := (0 : Int64)) dX8_signOf_45 (by decide) ?_
  refine gb_lc_le (tgt := 54) dX8_signOf_46 dX8_signOf_47 (by decide) (fun c1 => ?_) (fun c1 => ?_)
  · replace hF := gb_ifT c1 hF
    refine gb_iconst (v := (-1 : Int32)) dX8_signOf_54 (by decide) ?_
    exact gb_wk (fbX8_signOf_55_ok v0 v2 (-1 : Int32) h r hF) (And.intro rfl (And.intro rfl trivial))
  · replace hF := gb_ifF c1 hF
    refine gb_iconst (v := (1 : Int32)) dX8_signOf_50 (by decide) ?_
    refine gb_goto (tgt := 55) dX8_signOf_51 (by decide) ?_
    exact gb_wk (fbX8_signOf_55_ok v0 v2 (1 : Int32) h r hF) (And.intro rfl (And.intro rfl trivial))
def fbX8_signOf_30 (v0 : Int64) (v2 : Int64) (h : gb_H) : Option (Int32 × gb_H) :=
  if (0 : Int64) < v0 then
    fbX8_signOf_44 v0 v2 h
  else
    if (0 : Int64) < v2 then
      fbX8_signOf_44 v0 v2 h
    else
      some ((-1 : Int32), h)
theorem fbX8_signOf_30_ok {X : gb_X} (v0 : Int64) (v2 : Int64) (h : gb_H) (r : Int32 × gb_H) (hF : fbX8_signOf_30 v0 v2 h = some r) : gb_Ev X 2 mX8_signOf 30 [some (.long v0), none, some (.long v2), none, none, none, none, none, none, none, none, none] [] h (gb_wI r) := by
  unfold fbX8_signOf_30 at hF
  refine gb_lload_n dX8_signOf_30 rfl rfl ?_
  refine gb_lconst (v := (0 : Int64)) dX8_signOf_31 (by decide) ?_
  refine gb_lc_gt (tgt := 44) dX8_signOf_32 dX8_signOf_33 (by decide) (fun c1 => ?_) (fun c1 => ?_)
  · replace hF := gb_ifT c1 hF
    exact gb_wk (fbX8_signOf_44_ok v0 v2 h r hF) (And.intro rfl (And.intro rfl trivial))
  · replace hF := gb_ifF c1 hF
    refine gb_lload_n dX8_signOf_36 rfl rfl ?_
    refine gb_lconst (v := (0 : Int64)) dX8_signOf_37 (by decide) ?_
    refine gb_lc_gt (tgt := 44) dX8_signOf_38 dX8_signOf_39 (by decide) (fun c2 => ?_) (fun c2 => ?_)
    · replace hF := gb_ifT c2 hF
      exact gb_wk (fbX8_signOf_44_ok v0 v2 h r hF) (And.intro rfl (And.intro rfl trivial))
    · replace hF := gb_ifF c2 hF
      refine gb_iconst (v := (-1 : Int32)) dX8_signOf_42 (by decide) ?_
      cases hF
      exact gb_iret dX8_signOf_43 rfl
def fnX8_signOf (p0 : Int64) (p1 : Int64) (h : gb_H) : Option (Int32 × gb_H) :=
  if p0 < (0 : Int64) then
    fbX8_signOf_30 p0 p1 h
  else
    if p1 < (0 : Int64) then
      fbX8_signOf_30 p0 p1 h
    else
      if p0 = (0 : Int64) then
        if p1 = (0 : Int64) then
          fbX8_signOf_29 (0 : Int32) h
        else
          fbX8_signOf_28 h
      else
        fbX8_signOf_28 h
theorem fnX8_signOf_ok {X : gb_X}  {p0 : Int64} {p1 : Int64} (h : gb_H) (r : Int32 × gb_H) (hF : fnX8_signOf p0 p1 h = some r) : gb_Ev X 2 mX8_signOf 0 (gb_L0 [.long p0, .long p1]) [] h (gb_wI r) := by
  unfold fnX8_signOf at hF
  refine gb_weak (L' := [some (.long p0), none, some (.long p1), none, none, none, none, none, none, none, none, none]) (And.intro rfl (And.intro rfl trivial)) ?_
  refine gb_lload_n dX8_signOf_0 rfl rfl ?_
  refine gb_lconst (v := (0 : Int64)) dX8_signOf_1 (by decide) ?_
  refine gb_lc_lt (tgt := 30) dX8_signOf_2 dX8_signOf_3 (by decide) (fun c1 => ?_) (fun c1 => ?_)
  · replace hF := gb_ifT c1 hF
    exact gb_wk (fbX8_signOf_30_ok p0 p1 h r hF) (And.intro rfl (And.intro rfl trivial))
  · replace hF := gb_ifF c1 hF
    refine gb_lload_n dX8_signOf_6 rfl rfl ?_
    refine gb_lconst (v := (0 : Int64)) dX8_signOf_7 (by decide) ?_
    refine gb_lc_lt (tgt := 30) dX8_signOf_8 dX8_signOf_9 (by decide) (fun c2 => ?_) (fun c2 => ?_)
    · replace hF := gb_ifT c2 hF
      exact gb_wk (fbX8_signOf_30_ok p0 p1 h r hF) (And.intro rfl (And.intro rfl trivial))
    · replace hF := gb_ifF c2 hF
      refine gb_lload_n dX8_signOf_12 rfl rfl ?_
      refine gb_lconst (v := (0 : Int64)) dX8_signOf_13 (by decide) ?_
      refine gb_lc_ne (tgt := 28) dX8_signOf_14 dX8_signOf_15 (by decide) (fun c3 => ?_) (fun c3 => ?_)
      · replace hF := gb_ifF c3 hF
        exact gb_wk (fbX8_signOf_28_ok h r hF) trivial
      · replace hF := gb_ifT c3 hF
        refine gb_lload_n dX8_signOf_18 rfl rfl ?_
        refine gb_lconst (v := (0 : Int64)) dX8_signOf_19 (by decide) ?_
        refine gb_lc_ne (tgt := 28) dX8_signOf_20 dX8_signOf_21 (by decide) (fun c4 => ?_) (fun c4 => ?_)
        · replace hF := gb_ifF c4 hF
          exact gb_wk (fbX8_signOf_28_ok h r hF) trivial
        · replace hF := gb_ifT c4 hF
          refine gb_iconst (v := (0 : Int32)) dX8_signOf_24 (by decide) ?_
          refine gb_goto (tgt := 29) dX8_signOf_25 (by decide) ?_
          exact gb_wk (fbX8_signOf_29_ok (0 : Int32) h r hF) trivial
def fnX8_compareShare (p0 : Nat) (p1 : Nat) (h : gb_H) : Option (Int32 × gb_H) :=
  gb_gd (gb_k h p0 8) <|
  gb_gd (gb_k h p1 8) <|
  gb_bd (fnX8_divisor (gb_L h p0 2) (gb_L h p1 2) h) fun x3 h4 =>
  if (0 : Int64) < x3 then
    gb_gd (gb_k h4 p1 8) <|
    gb_gd (gb_nzL x3) <|
    gb_lt ((gb_L h4 p1 2) / x3) fun x8 =>
    gb_gd (gb_k h4 p0 8) <|
    gb_gd (gb_nzL x3) <|
    gb_lt ((gb_L h4 p0 2) / x3) fun x11 =>
    gb_gd (gb_k h4 p0 8) <|
    gb_gd (gb_k h4 p1 8) <|
    gb_gd (gb_k h4 p0 8) <|
    gb_gd (gb_k h4 p1 8) <|
    gb_bd (fnX8_signOf (((gb_L h4 p0 0) * x8) - ((gb_L h4 p1 0) * x11)) (((gb_L h4 p0 1) * x8) - ((gb_L h4 p1 1) * x11)) h4) fun x16 h17 =>
    some (x16, h17)
  else
    some ((0 : Int32), h4)
theorem fnX8_compareShare_ok {X : gb_X}  {p0 : Nat} {p1 : Nat} (h : gb_H) (r : Int32 × gb_H) (hF : fnX8_compareShare p0 p1 h = some r) : gb_Ev X 3 mX8_compareShare 0 (gb_L0 [.ref p0, .ref p1]) [] h (gb_wI r) := by
  unfold fnX8_compareShare at hF
  refine gb_weak (L' := [some (.ref p0), some (.ref p1), none, none, none, none, none, none]) (And.intro rfl (And.intro rfl trivial)) ?_
  refine gb_aload_n dX8_compareShare_0 rfl rfl ?_
  obtain ⟨g1, hF⟩ := gb_gdE hF
  refine gb_getL fX8_7 dX8_compareShare_1 (gb_kE g1) ?_
  refine gb_aload_n dX8_compareShare_4 rfl rfl ?_
  obtain ⟨g2, hF⟩ := gb_gdE hF
  refine gb_getL fX8_7 dX8_compareShare_5 (gb_kE g2) ?_
  obtain ⟨x3, h4, cx3, hF⟩ := gb_bdE hF
  refine gb_cS (As := [.long (gb_L h p0 2), .long (gb_L h p1 2)]) (S := []) (v := some (.long x3)) (h1 := h4) (S2 := [.long x3]) dX8_compareShare_8 mtX8_divisor lX8_19 stX8_divisor (fnX8_divisor_ok _ _ cx3) (by decide) rfl (Nat.le_of_ble_eq_true rfl) (Nat.le_of_ble_eq_true rfl) rfl rfl ?_
  refine gb_lstore_n (L' := [some (.ref p0), some (.ref p1), some (.long x3), none, none, none, none, none]) dX8_compareShare_11 rfl (by decide) rfl rfl ?_
  refine gb_lload_n dX8_compareShare_12 rfl rfl ?_
  refine gb_lconst (v := (0 : Int64)) dX8_compareShare_13 (by decide) ?_
  refine gb_lc_gt (tgt := 20) dX8_compareShare_14 dX8_compareShare_15 (by decide) (fun c5 => ?_) (fun c5 => ?_)
  · replace hF := gb_ifT c5 hF
    refine gb_aload_n dX8_compareShare_20 rfl rfl ?_
    obtain ⟨g6, hF⟩ := gb_gdE hF
    refine gb_getL fX8_7 dX8_compareShare_21 (gb_kE g6) ?_
    refine gb_lload_n dX8_compareShare_24 rfl rfl ?_
    obtain ⟨g7, hF⟩ := gb_gdE hF
    refine gb_ldiv dX8_compareShare_25 (gb_nzLE g7) ?_
    obtain ⟨x8, ex8, hF⟩ := gb_ltE hF
    refine gb_topJ ex8 ?_
    refine gb_lstore (L' := [some (.ref p0), some (.ref p1), some (.long x3), none, some (.long x8), none, none, none]) dX8_compareShare_26 (by decide) rfl rfl ?_
    refine gb_aload_n dX8_compareShare_28 rfl rfl ?_
    obtain ⟨g9, hF⟩ := gb_gdE hF
    refine gb_getL fX8_7 dX8_compareShare_29 (gb_kE g9) ?_
    refine gb_lload_n dX8_compareShare_32 rfl rfl ?_
    obtain ⟨g10, hF⟩ := gb_gdE hF
    refine gb_ldiv dX8_compareShare_33 (gb_nzLE g10) ?_
    obtain ⟨x11, ex11, hF⟩ := gb_ltE hF
    refine gb_topJ ex11 ?_
    refine gb_lstore (L' := [some (.ref p0), some (.ref p1), some (.long x3), none, some (.long x8), none, some (.long x11), none]) dX8_compareShare_34 (by decide) rfl rfl ?_
    refine gb_aload_n dX8_compareShare_36 rfl rfl ?_
    obtain ⟨g12, hF⟩ := gb_gdE hF
    refine gb_getL fX8_23 dX8_compareShare_37 (gb_kE g12) ?_
    refine gb_lload dX8_compareShare_40 rfl ?_
    refine gb_lmul dX8_compareShare_42 ?_
    refine gb_aload_n dX8_compareShare_43 rfl rfl ?_
    obtain ⟨g13, hF⟩ := gb_gdE hF
    refine gb_getL fX8_23 dX8_compareShare_44 (gb_kE g13) ?_
    refine gb_lload dX8_compareShare_47 rfl ?_
    refine gb_lmul dX8_compareShare_49 ?_
    refine gb_lsub dX8_compareShare_50 ?_
    refine gb_aload_n dX8_compareShare_51 rfl rfl ?_
    obtain ⟨g14, hF⟩ := gb_gdE hF
    refine gb_getL fX8_26 dX8_compareShare_52 (gb_kE g14) ?_
    refine gb_lload dX8_compareShare_55 rfl ?_
    refine gb_lmul dX8_compareShare_57 ?_
    refine gb_aload_n dX8_compareShare_58 rfl rfl ?_
    obtain ⟨g15, hF⟩ := gb_gdE hF
    refine gb_getL fX8_26 dX8_compareShare_59 (gb_kE g15) ?_
    refine gb_lload dX8_compareShare_62 rfl ?_
    refine gb_lmul dX8_compareShare_64 ?_
    refine gb_lsub dX8_compareShare_65 ?_
    obtain ⟨x16, h17, cx16, hF⟩ := gb_bdE hF
    refine gb_cS (As := [.long (((gb_L h4 p0 0) * x8) - ((gb_L h4 p1 0) * x11)), .long (((gb_L h4 p0 1) * x8) - ((gb_L h4 p1 1) * x11))]) (S := []) (v := some (.int x16)) (h1 := h17) (S2 := [.int x16]) dX8_compareShare_66 mtX8_signOf lX8_33 stX8_signOf (fnX8_signOf_ok _ _ cx16) (by decide) rfl (Nat.le_of_ble_eq_true rfl) (Nat.le_of_ble_eq_true rfl) rfl rfl ?_
    cases hF
    exact gb_iret dX8_compareShare_69 rfl
  · replace hF := gb_ifF c5 hF
    refine gb_iconst (v := (0 : Int32)) dX8_compareShare_18 (by decide) ?_
    cases hF
    exact gb_iret dX8_compareShare_19 rfl
def fnX8_copyShare (p0 : Nat) (p1 : Nat) (h : gb_H) : Option (Unit × gb_H) :=
  gb_gd (gb_k h p1 8) <|
  gb_gd (gb_k h p0 8) <|
  gb_lt (gb_sL h p0 0 (gb_L h p1 0)) fun h3 =>
  gb_gd (gb_k h3 p1 8) <|
  gb_gd (gb_k h3 p0 8) <|
  gb_lt (gb_sL h3 p0 1 (gb_L h3 p1 1)) fun h6 =>
  gb_gd (gb_k h6 p1 8) <|
  gb_gd (gb_k h6 p0 8) <|
  gb_lt (gb_sL h6 p0 2 (gb_L h6 p1 2)) fun h9 =>
  some ((), h9)
theorem fnX8_copyShare_ok {X : gb_X}  {p0 : Nat} {p1 : Nat} (h : gb_H) (r : Unit × gb_H) (hF : fnX8_copyShare p0 p1 h = some r) : gb_Ev X 1 mX8_copyShare 0 (gb_L0 [.ref p0, .ref p1]) [] h (gb_wV r) := by
  unfold fnX8_copyShare at hF
  refine gb_weak (L' := [some (.ref p0), some (.ref p1)]) (And.intro rfl (And.intro rfl trivial)) ?_
  refine gb_aload_n dX8_copyShare_0 rfl rfl ?_
  refine gb_aload_n dX8_copyShare_1 rfl rfl ?_
  obtain ⟨g1, hF⟩ := gb_gdE hF
  refine gb_getL fX8_23 dX8_copyShare_2 (gb_kE g1) ?_
  obtain ⟨g2, hF⟩ := gb_gdE hF
  obtain ⟨h3, eh3, hF⟩ := gb_ltE hF
  refine gb_putL fX8_23 (gb_nff nf8_0) dX8_copyShare_5 (gb_kE g2) (fun _ => ⟨rfl, rfl⟩) (gb_hp eh3 ?_)
  refine gb_aload_n dX8_copyShare_8 rfl rfl ?_
  refine gb_aload_n dX8_copyShare_9 rfl rfl ?_
  obtain ⟨g4, hF⟩ := gb_gdE hF
  refine gb_getL fX8_26 dX8_copyShare_10 (gb_kE g4) ?_
  obtain ⟨g5, hF⟩ := gb_gdE hF
  obtain ⟨h6, eh6, hF⟩ := gb_ltE hF
  refine gb_putL fX8_26 (gb_nff nf8_1) dX8_copyShare_13 (gb_kE g5) (fun _ => ⟨rfl, rfl⟩) (gb_hp eh6 ?_)
  refine gb_aload_n dX8_copyShare_16 rfl rfl ?_
  refine gb_aload_n dX8_copyShare_17 rfl rfl ?_
  obtain ⟨g7, hF⟩ := gb_gdE hF
  refine gb_getL fX8_7 dX8_copyShare_18 (gb_kE g7) ?_
  obtain ⟨g8, hF⟩ := gb_gdE hF
  obtain ⟨h9, eh9, hF⟩ := gb_ltE hF
  refine gb_putL fX8_7 (gb_nff nf8_2) dX8_copyShare_21 (gb_kE g8) (fun _ => ⟨rfl, rfl⟩) (gb_hp eh9 ?_)
  cases hF
  exact gb_vret dX8_copyShare_24 rfl
def fbX3_append_50 (h : gb_H) : Option (Unit × gb_H) :=
  some ((), h)
theorem fbX3_append_50_ok {X : gb_X} (h : gb_H) (r : Unit × gb_H) (hF : fbX3_append_50 h = some r) : gb_Ev X 1 mX3_append 50 [none, none, none, none] [] h (gb_wV r) := by
  unfold fbX3_append_50 at hF
  cases hF
  exact gb_vret dX3_append_50 rfl
def fnX3_append (p0 : Nat) (p1 : Int32) (p2 : Int32) (p3 : Int32) (h : gb_H) : Option (Unit × gb_H) :=
  gb_gd (gb_k h p0 3) <|
  if (200 : Int32) ≤ (gb_I h p0 3) then
    fbX3_append_50 h
  else
    gb_gd (gb_k h p0 3) <|
    gb_rd (gb_R h p0 0) fun a4 =>
    gb_gd (gb_k h p0 3) <|
    gb_lt (gb_I h p0 3) fun x6 =>
    gb_gd (gb_k h a4 20) <|
    gb_gd (gb_in h a4 x6) <|
    gb_lt (gb_sI h a4 x6.toNatClampNeg p1) fun h9 =>
    gb_gd (gb_k h9 p0 3) <|
    gb_rd (gb_R h9 p0 1) fun a11 =>
    gb_gd (gb_k h9 p0 3) <|
    gb_lt (gb_I h9 p0 3) fun x13 =>
    gb_gd (gb_k h9 a11 20) <|
    gb_gd (gb_in h9 a11 x13) <|
    gb_lt (gb_sI h9 a11 x13.toNatClampNeg p2) fun h16 =>
    gb_gd (gb_k h16 p0 3) <|
    gb_rd (gb_R h16 p0 2) fun a18 =>
    gb_gd (gb_k h16 p0 3) <|
    gb_lt (gb_I h16 p0 3) fun x20 =>
    gb_gd (gb_k h16 a18 20) <|
    gb_gd (gb_in h16 a18 x20) <|
    gb_lt (gb_sI h16 a18 x20.toNatClampNeg p3) fun h23 =>
    gb_gd (gb_k h23 p0 3) <|
    gb_gd (gb_k h23 p0 3) <|
    gb_lt (gb_sI h23 p0 3 ((gb_I h23 p0 3) + (1 : Int32))) fun h26 =>
    fbX3_append_50 h26
theorem fnX3_append_ok {X : gb_X}  {p0 : Nat} {p1 : Int32} {p2 : Int32} {p3 : Int32} (h : gb_H) (r : Unit × gb_H) (hF : fnX3_append p0 p1 p2 p3 h = some r) : gb_Ev X 1 mX3_append 0 (gb_L0 [.ref p0, .int p1, .int p2, .int p3]) [] h (gb_wV r) := by
  unfold fnX3_append at hF
  refine gb_weak (L' := [some (.ref p0), some (.int p1), some (.int p2), some (.int p3)]) (And.intro rfl (And.intro rfl (And.intro rfl (And.intro rfl trivial)))) ?_
  refine gb_aload_n dX3_append_0 rfl rfl ?_
  obtain ⟨g1, hF⟩ := gb_gdE hF
  refine gb_getI fX3_30 dX3_append_1 (gb_kE g1) ?_
  refine gb_sipush (v := (200 : Int32)) dX3_append_4 (by decide) ?_
  refine gb_icmp_ge (tgt := 50) dX3_append_7 (by decide) (fun c2 => ?_) (fun c2 => ?_)
  · replace hF := gb_ifT c2 hF
    exact gb_wk (fbX3_append_50_ok h r hF) trivial
  · replace hF := gb_ifF c2 hF
    refine gb_aload_n dX3_append_10 rfl rfl ?_
    obtain ⟨g3, hF⟩ := gb_gdE hF
    obtain ⟨a4, ea4, hF⟩ := gb_rdE hF
    refine gb_getR fX3_9 dX3_append_11 (gb_kE g3) ea4 ?_
    refine gb_aload_n dX3_append_14 rfl rfl ?_
    obtain ⟨g5, hF⟩ := gb_gdE hF
    refine gb_getI fX3_30 dX3_append_15 (gb_kE g5) ?_
    refine gb_iload_n dX3_append_18 rfl rfl ?_
    obtain ⟨x6, ex6, hF⟩ := gb_ltE hF
    refine gb_topI2 ex6 ?_
    obtain ⟨g7, hF⟩ := gb_gdE hF
    obtain ⟨g8, hF⟩ := gb_gdE hF
    obtain ⟨h9, eh9, hF⟩ := gb_ltE hF
    refine gb_iast dX3_append_19 (gb_kE g7) (gb_inE g8) (gb_hp eh9 ?_)
    refine gb_aload_n dX3_append_20 rfl rfl ?_
    obtain ⟨g10, hF⟩ := gb_gdE hF
    obtain ⟨a11, ea11, hF⟩ := gb_rdE hF
    refine gb_getR fX3_15 dX3_append_21 (gb_kE g10) ea11 ?_
    refine gb_aload_n dX3_append_24 rfl rfl ?_
    obtain ⟨g12, hF⟩ := gb_gdE hF
    refine gb_getI fX3_30 dX3_append_25 (gb_kE g12) ?_
    refine gb_iload_n dX3_append_28 rfl rfl ?_
    obtain ⟨x13, ex13, hF⟩ := gb_ltE hF
    refine gb_topI2 ex13 ?_
    obtain ⟨g14, hF⟩ := gb_gdE hF
    obtain ⟨g15, hF⟩ := gb_gdE hF
    obtain ⟨h16, eh16, hF⟩ := gb_ltE hF
    refine gb_iast dX3_append_29 (gb_kE g14) (gb_inE g15) (gb_hp eh16 ?_)
    refine gb_aload_n dX3_append_30 rfl rfl ?_
    obtain ⟨g17, hF⟩ := gb_gdE hF
    obtain ⟨a18, ea18, hF⟩ := gb_rdE hF
    refine gb_getR fX3_18 dX3_append_31 (gb_kE g17) ea18 ?_
    refine gb_aload_n dX3_append_34 rfl rfl ?_
    obtain ⟨g19, hF⟩ := gb_gdE hF
    refine gb_getI fX3_30 dX3_append_35 (gb_kE g19) ?_
    refine gb_iload_n dX3_append_38 rfl rfl ?_
    obtain ⟨x20, ex20, hF⟩ := gb_ltE hF
    refine gb_topI2 ex20 ?_
    obtain ⟨g21, hF⟩ := gb_gdE hF
    obtain ⟨g22, hF⟩ := gb_gdE hF
    obtain ⟨h23, eh23, hF⟩ := gb_ltE hF
    refine gb_iast dX3_append_39 (gb_kE g21) (gb_inE g22) (gb_hp eh23 ?_)
    refine gb_aload_n dX3_append_40 rfl rfl ?_
    refine gb_dup dX3_append_41 rfl ?_
    obtain ⟨g24, hF⟩ := gb_gdE hF
    refine gb_getI fX3_30 dX3_append_42 (gb_kE g24) ?_
    refine gb_iconst (v := (1 : Int32)) dX3_append_45 (by decide) ?_
    refine gb_iadd dX3_append_46 ?_
    obtain ⟨g25, hF⟩ := gb_gdE hF
    obtain ⟨h26, eh26, hF⟩ := gb_ltE hF
    refine gb_putI fX3_30 (gb_nff nf3_3) dX3_append_47 (gb_kE g25) (fun _ => ⟨rfl, rfl⟩) (gb_hp eh26 ?_)
    exact gb_wk (fbX3_append_50_ok h26 r hF) trivial
def fbX8_isZero_23 (s0 : Int32) (h : gb_H) : Option (Int32 × gb_H) :=
  gb_gd (gb_b s0) <|
  some (s0, h)
theorem fbX8_isZero_23_ok {X : gb_X} (s0 : Int32) (h : gb_H) (r : Int32 × gb_H) (hF : fbX8_isZero_23 s0 h = some r) : gb_Ev X 1 mX8_isZero 23 [none] [.int s0] h (gb_wI r) := by
  unfold fbX8_isZero_23 at hF
  obtain ⟨g1, hF⟩ := gb_gdE hF
  cases hF
  exact gb_zret dX8_isZero_23 rfl (gb_bE g1)
def fbX8_isZero_22 (h : gb_H) : Option (Int32 × gb_H) :=
  fbX8_isZero_23 (0 : Int32) h
theorem fbX8_isZero_22_ok {X : gb_X} (h : gb_H) (r : Int32 × gb_H) (hF : fbX8_isZero_22 h = some r) : gb_Ev X 1 mX8_isZero 22 [none] [] h (gb_wI r) := by
  unfold fbX8_isZero_22 at hF
  refine gb_iconst (v := (0 : Int32)) dX8_isZero_22 (by decide) ?_
  exact gb_wk (fbX8_isZero_23_ok (0 : Int32) h r hF) trivial
def fnX8_isZero (p0 : Nat) (h : gb_H) : Option (Int32 × gb_H) :=
  gb_gd (gb_k h p0 8) <|
  if (gb_L h p0 0) = (0 : Int64) then
    gb_gd (gb_k h p0 8) <|
    if (gb_L h p0 1) = (0 : Int64) then
      fbX8_isZero_23 (1 : Int32) h
    else
      fbX8_isZero_22 h
  else
    fbX8_isZero_22 h
theorem fnX8_isZero_ok {X : gb_X}  {p0 : Nat} (h : gb_H) (r : Int32 × gb_H) (hF : fnX8_isZero p0 h = some r) : gb_Ev X 1 mX8_isZero 0 (gb_L0 [.ref p0]) [] h (gb_wI r) := by
  unfold fnX8_isZero at hF
  refine gb_weak (L' := [some (.ref p0)]) (And.intro rfl trivial) ?_
  refine gb_aload_n dX8_isZero_0 rfl rfl ?_
  obtain ⟨g1, hF⟩ := gb_gdE hF
  refine gb_getL fX8_23 dX8_isZero_1 (gb_kE g1) ?_
  refine gb_lconst (v := (0 : Int64)) dX8_isZero_4 (by decide) ?_
  refine gb_lc_ne (tgt := 22) dX8_isZero_5 dX8_isZero_6 (by decide) (fun c2 => ?_) (fun c2 => ?_)
  · replace hF := gb_ifF c2 hF
    exact gb_wk (fbX8_isZero_22_ok h r hF) trivial
  · replace hF := gb_ifT c2 hF
    refine gb_aload_n dX8_isZero_9 rfl rfl ?_
    obtain ⟨g3, hF⟩ := gb_gdE hF
    refine gb_getL fX8_26 dX8_isZero_10 (gb_kE g3) ?_
    refine gb_lconst (v := (0 : Int64)) dX8_isZero_13 (by decide) ?_
    refine gb_lc_ne (tgt := 22) dX8_isZero_14 dX8_isZero_15 (by decide) (fun c4 => ?_) (fun c4 => ?_)
    · replace hF := gb_ifF c4 hF
      exact gb_wk (fbX8_isZero_22_ok h r hF) trivial
    · replace hF := gb_ifT c4 hF
      refine gb_iconst (v := (1 : Int32)) dX8_isZero_18 (by decide) ?_
      refine gb_goto (tgt := 23) dX8_isZero_19 (by decide) ?_
      exact gb_wk (fbX8_isZero_23_ok (1 : Int32) h r hF) trivial
