def fnX7_init (p0 : Nat) (p1 : Nat) (h : gb_H) : Option (Unit × gb_H) :=
  gb_lt (gb_cn h) fun a1 =>
  gb_lt (gb_nw h 2 0 2) fun h2 =>
  gb_bd (fnX2_init a1 (16 : Int32) h2) fun _ h4 =>
  gb_gd (gb_k h4 p0 7) <|
  gb_lt (gb_sR h4 p0 1 (some a1)) fun h6 =>
  gb_gd (gb_k h6 p0 7) <|
  gb_lt (gb_sR h6 p0 0 (some p1)) fun h8 =>
  some ((), h8)
theorem fnX7_init_ok {X : gb_X}  {p0 : Nat} {p1 : Nat} (h : gb_H) (r : Unit × gb_H) (hF : fnX7_init p0 p1 h = some r) : gb_Ev X 4 mX7_init 0 (gb_L0 [.ref p0, .ref p1]) [] h (gb_wV r) := by
  unfold fnX7_init at hF
  refine gb_weak (L' := [some (.ref p0), some (.ref p1)]) (And.intro rfl (And.intro rfl trivial)) ?_
  refine gb_aload_n dX7_init_0 rfl rfl ?_
  refine gb_objInit dX7_init_1 lX7_3 gb_oin gb_ocd (by decide) (Nat.le_of_ble_eq_true rfl) ?_
  refine gb_aload_n dX7_init_4 rfl rfl ?_
  obtain ⟨a1, ea1, hF⟩ := gb_ltE hF
  obtain ⟨h2, eh2, hF⟩ := gb_ltE hF
  refine gb_new cf2 cX7_9 df2 dX7_init_5 (gb_hp eh2 (gb_topA ea1 ?_))
  refine gb_dup dX7_init_8 rfl ?_
  refine gb_bipush (v := (16 : Int32)) dX7_init_9 (by decide) ?_
  obtain ⟨x3, h4, cx3, hF⟩ := gb_bdE hF
  refine gb_callI (As := [.int (16 : Int32)]) (S := [.ref a1, .ref p0]) (h1 := h4) dX7_init_11 mtX2_init rfl rfl lX7_11 inX2_init (fnX2_init_ok _ _ cx3) (by decide) rfl (Nat.le_of_ble_eq_true rfl) (Nat.le_of_ble_eq_true rfl) rfl ?_
  obtain ⟨g5, hF⟩ := gb_gdE hF
  obtain ⟨h6, eh6, hF⟩ := gb_ltE hF
  refine gb_putR fX7_14 ffX7_14 dX7_init_14 (gb_kE g5) (fun _ => ⟨rfl, rfl⟩) (gb_hp eh6 ?_)
  refine gb_aload_n dX7_init_17 rfl rfl ?_
  refine gb_aload_n dX7_init_18 rfl rfl ?_
  obtain ⟨g7, hF⟩ := gb_gdE hF
  obtain ⟨h8, eh8, hF⟩ := gb_ltE hF
  refine gb_putR fX7_20 ffX7_20 dX7_init_19 (gb_kE g7) (fun _ => ⟨rfl, rfl⟩) (gb_hp eh8 ?_)
  cases hF
  exact gb_vret dX7_init_22 rfl
def fbX7_isDigit_17 (s0 : Int32) (h : gb_H) : Option (Int32 × gb_H) :=
  gb_gd (gb_b s0) <|
  some (s0, h)
theorem fbX7_isDigit_17_ok {X : gb_X} (s0 : Int32) (h : gb_H) (r : Int32 × gb_H) (hF : fbX7_isDigit_17 s0 h = some r) : gb_Ev X 1 mX7_isDigit 17 [none] [.int s0] h (gb_wI r) := by
  unfold fbX7_isDigit_17 at hF
  obtain ⟨g1, hF⟩ := gb_gdE hF
  cases hF
  exact gb_zret dX7_isDigit_17 rfl (gb_bE g1)
def fbX7_isDigit_16 (h : gb_H) : Option (Int32 × gb_H) :=
  fbX7_isDigit_17 (0 : Int32) h
theorem fbX7_isDigit_16_ok {X : gb_X} (h : gb_H) (r : Int32 × gb_H) (hF : fbX7_isDigit_16 h = some r) : gb_Ev X 1 mX7_isDigit 16 [none] [] h (gb_wI r) := by
  unfold fbX7_isDigit_16 at hF
  refine gb_iconst (v := (0 : Int32)) dX7_isDigit_16 (by decide) ?_
  exact gb_wk (fbX7_isDigit_17_ok (0 : Int32) h r hF) trivial
def fnX7_isDigit (p0 : Int32) (h : gb_H) : Option (Int32 × gb_H) :=
  if p0 < (48 : Int32) then
    fbX7_isDigit_16 h
  else
    if (57 : Int32) < p0 then
      fbX7_isDigit_16 h
    else
      fbX7_isDigit_17 (1 : Int32) h
theorem fnX7_isDigit_ok {X : gb_X}  {p0 : Int32} (h : gb_H) (r : Int32 × gb_H) (hF : fnX7_isDigit p0 h = some r) : gb_Ev X 1 mX7_isDigit 0 (gb_L0 [.int p0]) [] h (gb_wI r) := by
  unfold fnX7_isDigit at hF
  refine gb_weak (L' := [some (.int p0)]) (And.intro rfl trivial) ?_
  refine gb_iload_n dX7_isDigit_0 rfl rfl ?_
  refine gb_bipush (v := (48 : Int32)) dX7_isDigit_1 (by decide) ?_
  refine gb_icmp_lt (tgt := 16) dX7_isDigit_3 (by decide) (fun c1 => ?_) (fun c1 => ?_)
  · replace hF := gb_ifT c1 hF
    exact gb_wk (fbX7_isDigit_16_ok h r hF) trivial
  · replace hF := gb_ifF c1 hF
    refine gb_iload_n dX7_isDigit_6 rfl rfl ?_
    refine gb_bipush (v := (57 : Int32)) dX7_isDigit_7 (by decide) ?_
    refine gb_icmp_gt (tgt := 16) dX7_isDigit_9 (by decide) (fun c2 => ?_) (fun c2 => ?_)
    · replace hF := gb_ifT c2 hF
      exact gb_wk (fbX7_isDigit_16_ok h r hF) trivial
    · replace hF := gb_ifF c2 hF
      refine gb_iconst (v := (1 : Int32)) dX7_isDigit_12 (by decide) ?_
      refine gb_goto (tgt := 17) dX7_isDigit_13 (by decide) ?_
      exact gb_wk (fbX7_isDigit_17_ok (1 : Int32) h r hF) trivial
def fbX7_isLetter_17 (s0 : Int32) (h : gb_H) : Option (Int32 × gb_H) :=
  gb_gd (gb_b s0) <|
  some (s0, h)
theorem fbX7_isLetter_17_ok {X : gb_X} (s0 : Int32) (h : gb_H) (r : Int32 × gb_H) (hF : fbX7_isLetter_17 s0 h = some r) : gb_Ev X 1 mX7_isLetter 17 [none] [.int s0] h (gb_wI r) := by
  unfold fbX7_isLetter_17 at hF
  obtain ⟨g1, hF⟩ := gb_gdE hF
  cases hF
  exact gb_zret dX7_isLetter_17 rfl (gb_bE g1)
def fbX7_isLetter_16 (h : gb_H) : Option (Int32 × gb_H) :=
  fbX7_isLetter_17 (0 : Int32) h
theorem fbX7_isLetter_16_ok {X : gb_X} (h : gb_H) (r : Int32 × gb_H) (hF : fbX7_isLetter_16 h = some r) : gb_Ev X 1 mX7_isLetter 16 [none] [] h (gb_wI r) := by
  unfold fbX7_isLetter_16 at hF
  refine gb_iconst (v := (0 : Int32)) dX7_isLetter_16 (by decide) ?_
  exact gb_wk (fbX7_isLetter_17_ok (0 : Int32) h r hF) trivial
def fnX7_isLetter (p0 : Int32) (h : gb_H) : Option (Int32 × gb_H) :=
  if p0 < (97 : Int32) then
    fbX7_isLetter_16 h
  else
    if (122 : Int32) < p0 then
      fbX7_isLetter_16 h
    else
      fbX7_isLetter_17 (1 : Int32) h
theorem fnX7_isLetter_ok {X : gb_X}  {p0 : Int32} (h : gb_H) (r : Int32 × gb_H) (hF : fnX7_isLetter p0 h = some r) : gb_Ev X 1 mX7_isLetter 0 (gb_L0 [.int p0]) [] h (gb_wI r) := by
  unfold fnX7_isLetter at hF
  refine gb_weak (L' := [some (.int p0)]) (And.intro rfl trivial) ?_
  refine gb_iload_n dX7_isLetter_0 rfl rfl ?_
  refine gb_bipush (v := (97 : Int32)) dX7_isLetter_1 (by decide) ?_
  refine gb_icmp_lt (tgt := 16) dX7_isLetter_3 (by decide) (fun c1 => ?_) (fun c1 => ?_)
  · replace hF := gb_ifT c1 hF
    exact gb_wk (fbX7_isLetter_16_ok h r hF) trivial
  · replace hF := gb_ifF c1 hF
    refine gb_iload_n dX7_isLetter_6 rfl rfl ?_
    refine gb_bipush (v := (122 : Int32)) dX7_isLetter_7 (by decide) ?_
    refine gb_icmp_gt (tgt := 16) dX7_isLetter_9 (by decide) (fun c2 => ?_) (fun c2 => ?_)
    · replace hF := gb_ifT c2 hF
      exact gb_wk (fbX7_isLetter_16_ok h r hF) trivial
    · replace hF := gb_ifF c2 hF
      refine gb_iconst (v := (1 : Int32)) dX7_isLetter_12 (by decide) ?_
      refine gb_goto (tgt := 17) dX7_isLetter_13 (by decide) ?_
      exact gb_wk (fbX7_isLetter_17_ok (1 : Int32) h r hF) trivial
def fbX7_advance_171 (h : gb_H) : Option (Unit × gb_H) :=
  some ((), h)
theorem fbX7_advance_171_ok {X : gb_X} (h : gb_H) (r : Unit × gb_H) (hF : fbX7_advance_171 h = some r) : gb_Ev X 2 mX7_advance 171 [none, none] [] h (gb_wV r) := by
  unfold fbX7_advance_171 at hF
  cases hF
  exact gb_vret dX7_advance_171 rfl
def fbX7_advance_99 (k99 : Nat → Int32 → gb_H → Option (Unit × gb_H)) (v0 : Nat) (v1 : Int32) (h : gb_H) : Option (Unit × gb_H) :=
  gb_gd (gb_k h v0 7) <|
  if v1 ≤ (gb_I h v0 3) then
    fbX7_advance_171 h
  else
    gb_gd (gb_k h v0 7) <|
    gb_rd (gb_R h v0 0) fun a4 =>
    gb_gd (gb_k h a4 9) <|
    gb_rd (gb_R h a4 0) fun a6 =>
    gb_gd (gb_k h v0 7) <|
    gb_lt (gb_I h v0 3) fun x8 =>
    gb_gd (gb_k h a6 20) <|
    gb_gd (gb_in h a6 x8) <|
    gb_bd (fnX7_isDigit (gb_I h a6 x8.toNatClampNeg) h) fun x11 h12 =>
    if x11 = 0 then
      fbX7_advance_171 h12
    else
      gb_gd (gb_k h12 v0 7) <|
      gb_gd (gb_k h12 v0 7) <|
      gb_rd (gb_R h12 v0 0) fun a16 =>
      gb_gd (gb_k h12 a16 9) <|
      gb_rd (gb_R h12 a16 0) fun a18 =>
      gb_gd (gb_k h12 v0 7) <|
      gb_lt (gb_I h12 v0 3) fun x20 =>
      gb_gd (gb_k h12 a18 20) <|
      gb_gd (gb_in h12 a18 x20) <|
      gb_lt ((((gb_I h12 v0 4) * (10 : Int32)) + (gb_I h12 a18 x20.toNatClampNeg)) - (48 : Int32)) fun x23 =>
      gb_gd (gb_k h12 v0 7) <|
      gb_lt (gb_sI h12 v0 4 (if (1000 : Int32) < x23 then (1000 : Int32) else x23)) fun h25 =>
      gb_gd (gb_k h25 v0 7) <|
      gb_gd (gb_k h25 v0 7) <|
      gb_lt (gb_sI h25 v0 3 ((gb_I h25 v0 3) + (1 : Int32))) fun h28 =>
      k99 v0 v1 h28
theorem fbX7_advance_99_ok {X : gb_X} {k99 : Nat → Int32 → gb_H → Option (Unit × gb_H)} (hk99 : ∀ v0 v1 h r, k99 v0 v1 h = some r → gb_Ev X 2 mX7_advance 99 [some (.ref v0), some (.int v1)] [] h (gb_wV r)) (v0 : Nat) (v1 : Int32) (h : gb_H) (r : Unit × gb_H) (hF : fbX7_advance_99 k99 v0 v1 h = some r) : gb_Ev X 2 mX7_advance 99 [some (.ref v0), some (.int v1)] [] h (gb_wV r) := by
  unfold fbX7_advance_99 at hF
  refine gb_aload_n dX7_advance_99 rfl rfl ?_
  obtain ⟨g1, hF⟩ := gb_gdE hF
  refine gb_getI fX7_66 dX7_advance_100 (gb_kE g1) ?_
  refine gb_iload_n dX7_advance_103 rfl rfl ?_
  refine gb_icmp_ge (tgt := 171) dX7_advance_104 (by decide) (fun c2 => ?_) (fun c2 => ?_)
  · replace hF := gb_ifT c2 hF
    exact gb_wk (fbX7_advance_171_ok h r hF) trivial
  · replace hF := gb_ifF c2 hF
    refine gb_aload_n dX7_advance_107 rfl rfl ?_
    obtain ⟨g3, hF⟩ := gb_gdE hF
    obtain ⟨a4, ea4, hF⟩ := gb_rdE hF
    refine gb_getR fX7_20 dX7_advance_108 (gb_kE g3) ea4 ?_
    obtain ⟨g5, hF⟩ := gb_gdE hF
    obtain ⟨a6, ea6, hF⟩ := gb_rdE hF
    refine gb_getR fX7_165 dX7_advance_111 (gb_kE g5) ea6 ?_
    refine gb_aload_n dX7_advance_114 rfl rfl ?_
    obtain ⟨g7, hF⟩ := gb_gdE hF
    refine gb_getI fX7_66 dX7_advance_115 (gb_kE g7) ?_
    obtain ⟨x8, ex8, hF⟩ := gb_ltE hF
    refine gb_topI ex8 ?_
    obtain ⟨g9, hF⟩ := gb_gdE hF
    obtain ⟨g10, hF⟩ := gb_gdE hF
    refine gb_iald dX7_advance_118 (gb_kE g9) (gb_inE g10) ?_
    obtain ⟨x11, h12, cx11, hF⟩ := gb_bdE hF
    refine gb_cS (As := [.int (gb_I h a6 x8.toNatClampNeg)]) (S := []) (v := some (.int x11)) (h1 := h12) (S2 := [.int x11]) dX7_advance_119 mtX7_isDigit lX7_177 stX7_isDigit (fnX7_isDigit_ok _ _ cx11) (by decide) rfl (Nat.le_of_ble_eq_true rfl) (Nat.le_of_ble_eq_true rfl) rfl rfl ?_
    refine gb_if_eq (tgt := 171) dX7_advance_122 (by decide) (fun c13 => ?_) (fun c13 => ?_)
    · replace hF := gb_ifT c13 hF
      exact gb_wk (fbX7_advance_171_ok h12 r hF) trivial
    · replace hF := gb_ifF c13 hF
      refine gb_aload_n dX7_advance_125 rfl rfl ?_
      refine gb_aload_n dX7_advance_126 rfl rfl ?_
      obtain ⟨g14, hF⟩ := gb_gdE hF
      refine gb_getI fX7_156 dX7_advance_127 (gb_kE g14) ?_
      refine gb_bipush (v := (10 : Int32)) dX7_advance_130 (by decide) ?_
      refine gb_imul dX7_advance_132 ?_
      refine gb_aload_n dX7_advance_133 rfl rfl ?_
      obtain ⟨g15, hF⟩ := gb_gdE hF
      obtain ⟨a16, ea16, hF⟩ := gb_rdE hF
      refine gb_getR fX7_20 dX7_advance_134 (gb_kE g15) ea16 ?_
      obtain ⟨g17, hF⟩ := gb_gdE hF
      obtain ⟨a18, ea18, hF⟩ := gb_rdE hF
      refine gb_getR fX7_165 dX7_advance_137 (gb_kE g17) ea18 ?_
      refine gb_aload_n dX7_advance_140 rfl rfl ?_
      obtain ⟨g19, hF⟩ := gb_gdE hF
      refine gb_getI fX7_66 dX7_advance_141 (gb_kE g19) ?_
      obtain ⟨x20, ex20, hF⟩ := gb_ltE hF
      refine gb_topI ex20 ?_
      obtain ⟨g21, hF⟩ := gb_gdE hF
      obtain ⟨g22, hF⟩ := gb_gdE hF
      refine gb_iald dX7_advance_144 (gb_kE g21) (gb_inE g22) ?_
      refine gb_iadd dX7_advance_145 ?_
      refine gb_bipush (v := (48 : Int32)) dX7_advance_146 (by decide) ?_
      refine gb_isub dX7_advance_148 ?_
      refine gb_sipush (v := (1000 : Int32)) dX7_advance_149 (by decide) ?_
      obtain ⟨x23, ex23, hF⟩ := gb_ltE hF
      refine gb_topI2 ex23 ?_
      refine gb_mmin dX7_advance_152 lmX7_181 gb_sdmin gb_mini gb_cdmin (by decide) (Nat.le_of_ble_eq_true rfl) ?_
      obtain ⟨g24, hF⟩ := gb_gdE hF
      obtain ⟨h25, eh25, hF⟩ := gb_ltE hF
      refine gb_putI fX7_156 (gb_nff nf7_4) dX7_advance_155 (gb_kE g24) (fun _ => ⟨rfl, rfl⟩) (gb_hp eh25 ?_)
      refine gb_aload_n dX7_advance_158 rfl rfl ?_
      refine gb_dup dX7_advance_159 rfl ?_
      obtain ⟨g26, hF⟩ := gb_gdE hF
      refine gb_getI fX7_66 dX7_advance_160 (gb_kE g26) ?_
      refine gb_iconst (v := (1 : Int32)) dX7_advance_163 (by decide) ?_
      refine gb_iadd dX7_advance_164 ?_
      obtain ⟨g27, hF⟩ := gb_gdE hF
      obtain ⟨h28, eh28, hF⟩ := gb_ltE hF
      refine gb_putI fX7_66 (gb_nff nf7_3) dX7_advance_165 (gb_kE g27) (fun _ => ⟨rfl, rfl⟩) (gb_hp eh28 ?_)
      refine gb_goto (tgt := 99) dX7_advance_168 (by decide) ?_
      exact gb_wk (hk99 v0 v1 h28 r hF) (And.intro rfl (And.intro rfl trivial))
def lpX7_advance_99 (n : Nat) (v0 : Nat) (v1 : Int32) (h : gb_H) : Option (Unit × gb_H) := gb_lp (σ := Nat × Int32 × gb_H) (fun k s => fbX7_advance_99 (fun v0 v1 h => k (v0, v1, h)) s.1 s.2.1 s.2.2) n (v0, v1, h)
theorem lpX7_advance_99_ok {X : gb_X}  (n : Nat) (v0 : Nat) (v1 : Int32) (h : gb_H) (r : Unit × gb_H) (hF : lpX7_advance_99 n v0 v1 h = some r) : gb_Ev X 2 mX7_advance 99 [some (.ref v0), some (.int v1)] [] h (gb_wV r) := by
  exact gb_lpE (σ := Nat × Int32 × gb_H) (P := fun s r => gb_Ev X 2 mX7_advance 99 [some (.ref s.1), some (.int s.2.1)] [] s.2.2 (gb_wV r)) (fun k hk s r hs => fbX7_advance_99_ok (fun v0 v1 h r e => hk (v0, v1, h) r e) _ _ _ r hs) n (v0, v1, h) r hF
def fbX7_advance_239 (h : gb_H) : Option (Unit × gb_H) :=
  some ((), h)
theorem fbX7_advance_239_ok {X : gb_X} (h : gb_H) (r : Unit × gb_H) (hF : fbX7_advance_239 h = some r) : gb_Ev X 2 mX7_advance 239 [none, none] [] h (gb_wV r) := by
  unfold fbX7_advance_239 at hF
  cases hF
  exact gb_vret dX7_advance_239 rfl
def fbX7_advance_200 (k200 : Nat → Int32 → gb_H → Option (Unit × gb_H)) (v0 : Nat) (v1 : Int32) (h : gb_H) : Option (Unit × gb_H) :=
  gb_gd (gb_k h v0 7) <|
  if v1 ≤ (gb_I h v0 3) then
    fbX7_advance_239 h
  else
    gb_gd (gb_k h v0 7) <|
    gb_rd (gb_R h v0 0) fun a4 =>
    gb_gd (gb_k h a4 9) <|
    gb_rd (gb_R h a4 0) fun a6 =>
    gb_gd (gb_k h v0 7) <|
    gb_lt (gb_I h v0 3) fun x8 =>
    gb_gd (gb_k h a6 20) <|
    gb_gd (gb_in h a6 x8) <|
    gb_bd (fnX7_isLetter (gb_I h a6 x8.toNatClampNeg) h) fun x11 h12 =>
    if x11 = 0 then
      fbX7_advance_239 h12
    else
      gb_gd (gb_k h12 v0 7) <|
      gb_gd (gb_k h12 v0 7) <|
      gb_lt (gb_sI h12 v0 3 ((gb_I h12 v0 3) + (1 : Int32))) fun h16 =>
      k200 v0 v1 h16
theorem fbX7_advance_200_ok {X : gb_X} {k200 : Nat → Int32 → gb_H → Option (Unit × gb_H)} (hk200 : ∀ v0 v1 h r, k200 v0 v1 h = some r → gb_Ev X 2 mX7_advance 200 [some (.ref v0), some (.int v1)] [] h (gb_wV r)) (v0 : Nat) (v1 : Int32) (h : gb_H) (r : Unit × gb_H) (hF : fbX7_advance_200 k200 v0 v1 h = some r) : gb_Ev X 2 mX7_advance 200 [some (.ref v0), some (.int v1)] [] h (gb_wV r) := by
  unfold fbX7_advance_200 at hF
  refine gb_aload_n dX7_advance_200 rfl rfl ?_
  obtain ⟨g1, hF⟩ := gb_gdE hF
  refine gb_getI fX7_66 dX7_advance_201 (gb_kE g1) ?_
  refine gb_iload_n dX7_advance_204 rfl rfl ?_
  refine gb_icmp_ge (tgt := 239) dX7_advance_205 (by decide) (fun c2 => ?_) (fun c2 => ?_)
  · replace hF := gb_ifT c2 hF
    exact gb_wk (fbX7_advance_239_ok h r hF) trivial
  · replace hF := gb_ifF c2 hF
    refine gb_aload_n dX7_advance_208 rfl rfl ?_
    obtain ⟨g3, hF⟩ := gb_gdE hF
    obtain ⟨a4, ea4, hF⟩ := gb_rdE hF
    refine gb_getR fX7_20 dX7_advance_209 (gb_kE g3) ea4 ?_
    obtain ⟨g5, hF⟩ := gb_gdE hF
    obtain ⟨a6, ea6, hF⟩ := gb_rdE hF
    refine gb_getR fX7_165 dX7_advance_212 (gb_kE g5) ea6 ?_
    refine gb_aload_n dX7_advance_215 rfl rfl ?_
    obtain ⟨g7, hF⟩ := gb_gdE hF
    refine gb_getI fX7_66 dX7_advance_216 (gb_kE g7) ?_
    obtain ⟨x8, ex8, hF⟩ := gb_ltE hF
    refine gb_topI ex8 ?_
    obtain ⟨g9, hF⟩ := gb_gdE hF
    obtain ⟨g10, hF⟩ := gb_gdE hF
    refine gb_iald dX7_advance_219 (gb_kE g9) (gb_inE g10) ?_
    obtain ⟨x11, h12, cx11, hF⟩ := gb_bdE hF
    refine gb_cS (As := [.int (gb_I h a6 x8.toNatClampNeg)]) (S := []) (v := some (.int x11)) (h1 := h12) (S2 := [.int x11]) dX7_advance_220 mtX7_isLetter lX7_187 stX7_isLetter (fnX7_isLetter_ok _ _ cx11) (by decide) rfl (Nat.le_of_ble_eq_true rfl) (Nat.le_of_ble_eq_true rfl) rfl rfl ?_
    refine gb_if_eq (tgt := 239) dX7_advance_223 (by decide) (fun c13 => ?_) (fun c13 => ?_)
    · replace hF := gb_ifT c13 hF
      exact gb_wk (fbX7_advance_239_ok h12 r hF) trivial
    · replace hF := gb_ifF c13 hF
      refine gb_aload_n dX7_advance_226 rfl rfl ?_
      refine gb_dup dX7_advance_227 rfl ?_
      obtain ⟨g14, hF⟩ := gb_gdE hF
      refine gb_getI fX7_66 dX7_advance_228 (gb_kE g14) ?_
      refine gb_iconst (v := (1 : Int32)) dX7_advance_231 (by decide) ?_
      refine gb_iadd dX7_advance_232 ?_
      obtain ⟨g15, hF⟩ := gb_gdE hF
      obtain ⟨h16, eh16, hF⟩ := gb_ltE hF
      refine gb_putI fX7_66 (gb_nff nf7_3) dX7_advance_233 (gb_kE g15) (fun _ => ⟨rfl, rfl⟩) (gb_hp eh16 ?_)
      refine gb_goto (tgt := 200) dX7_advance_236 (by decide) ?_
      exact gb_wk (hk200 v0 v1 h16 r hF) (And.intro rfl (And.intro rfl trivial))
def lpX7_advance_200 (n : Nat) (v0 : Nat) (v1 : Int32) (h : gb_H) : Option (Unit × gb_H) := gb_lp (σ := Nat × Int32 × gb_H) (fun k s => fbX7_advance_200 (fun v0 v1 h => k (v0, v1, h)) s.1 s.2.1 s.2.2) n (v0, v1, h)
theorem lpX7_advance_200_ok {X : gb_X}  (n : Nat) (v0 : Nat) (v1 : Int32) (h : gb_H) (r : Unit × gb_H) (hF : lpX7_advance_200 n v0 v1 h = some r) : gb_Ev X 2 mX7_advance 200 [some (.ref v0), some (.int v1)] [] h (gb_wV r) := by
  exact gb_lpE (σ := Nat × Int32 × gb_H) (P := fun s r => gb_Ev X 2 mX7_advance 200 [some (.ref s.1), some (.int s.2.1)] [] s.2.2 (gb_wV r)) (fun k hk s r hs => fbX7_advance_200_ok (fun v0 v1 h r e => hk (v0, v1, h) r e) _ _ _ r hs) n (v0, v1, h) r hF
def fbX7_advance_54 (v0 : Nat) (v1 : Int32) (h : gb_H) : Option (Unit × gb_H) :=
  gb_gd (gb_k h v0 7) <|
  gb_gd (gb_k h v0 7) <|
  gb_lt (gb_sI h v0 3 (gb_I h v0 2)) fun h3 =>
  gb_gd (gb_k h3 v0 7) <|
  gb_lt (gb_sI h3 v0 4 (-1 : Int32)) fun h5 =>
  gb_gd (gb_k h5 v0 7) <|
  if (gb_I h5 v0 2) < v1 then
    gb_gd (gb_k h5 v0 7) <|
    gb_rd (gb_R h5 v0 0) fun a9 =>
    gb_gd (gb_k h5 a9 9) <|
    gb_rd (gb_R h5 a9 0) fun a11 =>
    gb_gd (gb_k h5 v0 7) <|
    gb_lt (gb_I h5 v0 2) fun x13 =>
    gb_gd (gb_k h5 a11 20) <|
    gb_gd (gb_in h5 a11 x13) <|
    gb_bd (fnX7_isDigit (gb_I h5 a11 x13.toNatClampNeg) h5) fun x16 h17 =>
    if x16 = 0 then
      gb_gd (gb_k h17 v0 7) <|
      gb_gd (gb_k h17 v0 7) <|
      gb_lt (gb_sI h17 v0 3 ((gb_I h17 v0 3) + (1 : Int32))) fun h21 =>
      gb_gd (gb_k h21 v0 7) <|
      gb_rd (gb_R h21 v0 0) fun a23 =>
      gb_gd (gb_k h21 a23 9) <|
      gb_rd (gb_R h21 a23 0) fun a25 =>
      gb_gd (gb_k h21 v0 7) <|
      gb_lt (gb_I h21 v0 2) fun x27 =>
      gb_gd (gb_k h21 a25 20) <|
      gb_gd (gb_in h21 a25 x27) <|
      gb_bd (fnX7_isLetter (gb_I h21 a25 x27.toNatClampNeg) h21) fun x30 h31 =>
      if x30 = 0 then
        fbX7_advance_239 h31
      else
        lpX7_advance_200 gb_FU v0 v1 h31
    else
      gb_gd (gb_k h17 v0 7) <|
      gb_lt (gb_sI h17 v0 4 (0 : Int32)) fun h34 =>
      lpX7_advance_99 gb_FU v0 v1 h34
  else
    some ((), h5)
theorem fbX7_advance_54_ok {X : gb_X} (v0 : Nat) (v1 : Int32) (h : gb_H) (r : Unit × gb_H) (hF : fbX7_advance_54 v0 v1 h = some r) : gb_Ev X 2 mX7_advance 54 [some (.ref v0), some (.int v1)] [] h (gb_wV r) := by
  unfold fbX7_advance_54 at hF
  refine gb_aload_n dX7_advance_54 rfl rfl ?_
  refine gb_aload_n dX7_advance_55 rfl rfl ?_
  obtain ⟨g1, hF⟩ := gb_gdE hF
  refine gb_getI fX7_34 dX7_advance_56 (gb_kE g1) ?_
  obtain ⟨g2, hF⟩ := gb_gdE hF
  obtain ⟨h3, eh3, hF⟩ := gb_ltE hF
  refine gb_putI fX7_66 (gb_nff nf7_3) dX7_advance_59 (gb_kE g2) (fun _ => ⟨rfl, rfl⟩) (gb_hp eh3 ?_)
  refine gb_aload_n dX7_advance_62 rfl rfl ?_
  refine gb_iconst (v := (-1 : Int32)) dX7_advance_63 (by decide) ?_
  obtain ⟨g4, hF⟩ := gb_gdE hF
  obtain ⟨h5, eh5, hF⟩ := gb_ltE hF
  refine gb_putI fX7_156 (gb_nff nf7_4) dX7_advance_64 (gb_kE g4) (fun _ => ⟨rfl, rfl⟩) (gb_hp eh5 ?_)
  refine gb_aload_n dX7_advance_67 rfl rfl ?_
  obtain ⟨g6, hF⟩ := gb_gdE hF
  refine gb_getI fX7_34 dX7_advance_68 (gb_kE g6) ?_
  refine gb_iload_n dX7_advance_71 rfl rfl ?_
  refine gb_icmp_lt (tgt := 76) dX7_advance_72 (by decide) (fun c7 => ?_) (fun c7 => ?_)
  · replace hF := gb_ifT c7 hF
    refine gb_aload_n dX7_advance_76 rfl rfl ?_
    obtain ⟨g8, hF⟩ := gb_gdE hF
    obtain ⟨a9, ea9, hF⟩ := gb_rdE hF
    refine gb_getR fX7_20 dX7_advance_77 (gb_kE g8) ea9 ?_
    obtain ⟨g10, hF⟩ := gb_gdE hF
    obtain ⟨a11, ea11, hF⟩ := gb_rdE hF
    refine gb_getR fX7_165 dX7_advance_80 (gb_kE g10) ea11 ?_
    refine gb_aload_n dX7_advance_83 rfl rfl ?_
    obtain ⟨g12, hF⟩ := gb_gdE hF
    refine gb_getI fX7_34 dX7_advance_84 (gb_kE g12) ?_
    obtain ⟨x13, ex13, hF⟩ := gb_ltE hF
    refine gb_topI ex13 ?_
    obtain ⟨g14, hF⟩ := gb_gdE hF
    obtain ⟨g15, hF⟩ := gb_gdE hF
    refine gb_iald dX7_advance_87 (gb_kE g14) (gb_inE g15) ?_
    obtain ⟨x16, h17, cx16, hF⟩ := gb_bdE hF
    refine gb_cS (As := [.int (gb_I h5 a11 x13.toNatClampNeg)]) (S := []) (v := some (.int x16)) (h1 := h17) (S2 := [.int x16]) dX7_advance_88 mtX7_isDigit lX7_177 stX7_isDigit (fnX7_isDigit_ok _ _ cx16) (by decide) rfl (Nat.le_of_ble_eq_true rfl) (Nat.le_of_ble_eq_true rfl) rfl rfl ?_
    refine gb_if_eq (tgt := 172) dX7_advance_91 (by decide) (fun c18 => ?_) (fun c18 => ?_)
    · replace hF := gb_ifT c18 hF
      refine gb_aload_n dX7_advance_172 rfl rfl ?_
      refine gb_dup dX7_advance_173 rfl ?_
      obtain ⟨g19, hF⟩ := gb_gdE hF
      refine gb_getI fX7_66 dX7_advance_174 (gb_kE g19) ?_
      refine gb_iconst (v := (1 : Int32)) dX7_advance_177 (by decide) ?_
      refine gb_iadd dX7_advance_178 ?_
      obtain ⟨g20, hF⟩ := gb_gdE hF
      obtain ⟨h21, eh21, hF⟩ := gb_ltE hF
      refine gb_putI fX7_66 (gb_nff nf7_3) dX7_advance_179 (gb_kE g20) (fun _ => ⟨rfl, rfl⟩) (gb_hp eh21 ?_)
      refine gb_aload_n dX7_advance_182 rfl rfl ?_
      obtain ⟨g22, hF⟩ := gb_gdE hF
      obtain ⟨a23, ea23, hF⟩ := gb_rdE hF
      refine gb_getR fX7_20 dX7_advance_183 (gb_kE g22) ea23 ?_
      obtain ⟨g24, hF⟩ := gb_gdE hF
      obtain ⟨a25, ea25, hF⟩ := gb_rdE hF
      refine gb_getR fX7_165 dX7_advance_186 (gb_kE g24) ea25 ?_
      refine gb_aload_n dX7_advance_189 rfl rfl ?_
      obtain ⟨g26, hF⟩ := gb_gdE hF
      refine gb_getI fX7_34 dX7_advance_190 (gb_kE g26) ?_
      obtain ⟨x27, ex27, hF⟩ := gb_ltE hF
      refine gb_topI ex27 ?_
      obtain ⟨g28, hF⟩ := gb_gdE hF
      obtain ⟨g29, hF⟩ := gb_gdE hF
      refine gb_iald dX7_advance_193 (gb_kE g28) (gb_inE g29) ?_
      obtain ⟨x30, h31, cx30, hF⟩ := gb_bdE hF
      refine gb_cS (As := [.int (gb_I h21 a25 x27.toNatClampNeg)]) (S := []) (v := some (.int x30)) (h1 := h31) (S2 := [.int x30]) dX7_advance_194 mtX7_isLetter lX7_187 stX7_isLetter (fnX7_isLetter_ok _ _ cx30) (by decide) rfl (Nat.le_of_ble_eq_true rfl) (Nat.le_of_ble_eq_true rfl) rfl rfl ?_
      refine gb_if_eq (tgt := 239) dX7_advance_197 (by decide) (fun c32 => ?_) (fun c32 => ?_)
      · replace hF := gb_ifT c32 hF
        exact gb_wk (fbX7_advance_239_ok h31 r hF) trivial
      · replace hF := gb_ifF c32 hF
        exact gb_wk (lpX7_advance_200_ok gb_FU v0 v1 h31 r hF) (And.intro rfl (And.intro rfl trivial))
    · replace hF := gb_ifF c18 hF
      refine gb_aload_n dX7_advance_94 rfl rfl ?_
      refine gb_iconst (v := (0 : Int32)) dX7_advance_95 (by decide) ?_
      obtain ⟨g33, hF⟩ := gb_gdE hF
      obtain ⟨h34, eh34, hF⟩ := gb_ltE hF
      refine gb_putI fX7_156 (gb_nff nf7_4) dX7_advance_96 (gb_kE g33) (fun _ => ⟨rfl, rfl⟩) (gb_hp eh34 ?_)
      exact gb_wk (lpX7_advance_99_ok gb_FU v0 v1 h34 r hF) (And.intro rfl (And.intro rfl trivial))
  · replace hF := gb_ifF c7 hF
    cases hF
    exact gb_vret dX7_advance_75 rfl
def fbX7_advance_16 (k16 : Nat → Int32 → gb_H → Option (Unit × gb_H)) (v0 : Nat) (v1 : Int32) (h : gb_H) : Option (Unit × gb_H) :=
  gb_gd (gb_k h v0 7) <|
  if v1 ≤ (gb_I h v0 2) then
    fbX7_advance_54 v0 v1 h
  else
    gb_gd (gb_k h v0 7) <|
    gb_rd (gb_R h v0 0) fun a4 =>
    gb_gd (gb_k h a4 9) <|
    gb_rd (gb_R h a4 0) fun a6 =>
    gb_gd (gb_k h v0 7) <|
    gb_lt (gb_I h v0 2) fun x8 =>
    gb_gd (gb_k h a6 20) <|
    gb_gd (gb_in h a6 x8) <|
    if (gb_I h a6 x8.toNatClampNeg) = (32 : Int32) then
      gb_gd (gb_k h v0 7) <|
      gb_gd (gb_k h v0 7) <|
      gb_lt (gb_sI h v0 2 ((gb_I h v0 2) + (1 : Int32))) fun h14 =>
      k16 v0 v1 h14
    else
      fbX7_advance_54 v0 v1 h
theorem fbX7_advance_16_ok {X : gb_X} {k16 : Nat → Int32 → gb_H → Option (Unit × gb_H)} (hk16 : ∀ v0 v1 h r, k16 v0 v1 h = some r → gb_Ev X 2 mX7_advance 16 [some (.ref v0), some (.int v1)] [] h (gb_wV r)) (v0 : Nat) (v1 : Int32) (h : gb_H) (r : Unit × gb_H) (hF : fbX7_advance_16 k16 v0 v1 h = some r) : gb_Ev X 2 mX7_advance 16 [some (.ref v0), some (.int v1)] [] h (gb_wV r) := by
  unfold fbX7_advance_16 at hF
  refine gb_aload_n dX7_advance_16 rfl rfl ?_
  obtain ⟨g1, hF⟩ := gb_gdE hF
  refine gb_getI fX7_34 dX7_advance_17 (gb_kE g1) ?_
  refine gb_iload_n dX7_advance_20 rfl rfl ?_
  refine gb_icmp_ge (tgt := 54) dX7_advance_21 (by decide) (fun c2 => ?_) (fun c2 => ?_)
  · replace hF := gb_ifT c2 hF
    exact gb_wk (fbX7_advance_54_ok v0 v1 h r hF) (And.intro rfl (And.intro rfl trivial))
  · replace hF := gb_ifF c2 hF
    refine gb_aload_n dX7_advance_24 rfl rfl ?_
    obtain ⟨g3, hF⟩ := gb_gdE hF
    obtain ⟨a4, ea4, hF⟩ := gb_rdE hF
    refine gb_getR fX7_20 dX7_advance_25 (gb_kE g3) ea4 ?_
    obtain ⟨g5, hF⟩ := gb_gdE hF
    obtain ⟨a6, ea6, hF⟩ := gb_rdE hF
    refine gb_getR fX7_165 dX7_advance_28 (gb_kE g5) ea6 ?_
    refine gb_aload_n dX7_advance_31 rfl rfl ?_
    obtain ⟨g7, hF⟩ := gb_gdE hF
    refine gb_getI fX7_34 dX7_advance_32 (gb_kE g7) ?_
    obtain ⟨x8, ex8, hF⟩ := gb_ltE hF
    refine gb_topI ex8 ?_
    obtain ⟨g9, hF⟩ := gb_gdE hF
    obtain ⟨g10, hF⟩ := gb_gdE hF
    refine gb_iald dX7_advance_35 (gb_kE g9) (gb_inE g10) ?_
    refine gb_bipush (v := (32 : Int32)) dX7_advance_36 (by decide) ?_
    refine gb_icmp_ne (tgt := 54) dX7_advance_38 (by decide) (fun c11 => ?_) (fun c11 => ?_)
    · replace hF := gb_ifF c11 hF
      exact gb_wk (fbX7_advance_54_ok v0 v1 h r hF) (And.intro rfl (And.intro rfl trivial))
    · replace hF := gb_ifT c11 hF
      refine gb_aload_n dX7_advance_41 rfl rfl ?_
      refine gb_dup dX7_advance_42 rfl ?_
      obtain ⟨g12, hF⟩ := gb_gdE hF
      refine gb_getI fX7_34 dX7_advance_43 (gb_kE g12) ?_
      refine gb_iconst (v := (1 : Int32)) dX7_advance_46 (by decide) ?_
      refine gb_iadd dX7_advance_47 ?_
      obtain ⟨g13, hF⟩ := gb_gdE hF
      obtain ⟨h14, eh14, hF⟩ := gb_ltE hF
      refine gb_putI fX7_34 (gb_nff nf7_2) dX7_advance_48 (gb_kE g13) (fun _ => ⟨rfl, rfl⟩) (gb_hp eh14 ?_)
      refine gb_goto (tgt := 16) dX7_advance_51 (by decide) ?_
      exact gb_wk (hk16 v0 v1 h14 r hF) (And.intro rfl (And.intro rfl trivial))
def lpX7_advance_16 (n : Nat) (v0 : Nat) (v1 : Int32) (h : gb_H) : Option (Unit × gb_H) := gb_lp (σ := Nat × Int32 × gb_H) (fun k s => fbX7_advance_16 (fun v0 v1 h => k (v0, v1, h)) s.1 s.2.1 s.2.2) n (v0, v1, h)
theorem lpX7_advance_16_ok {X : gb_X}  (n : Nat) (v0 : Nat) (v1 : Int32) (h : gb_H) (r : Unit × gb_H) (hF : lpX7_advance_16 n v0 v1 h = some r) : gb_Ev X 2 mX7_advance 16 [some (.ref v0), some (.int v1)] [] h (gb_wV r) := by
  exact gb_lpE (σ := Nat × Int32 × gb_H) (P := fun s r => gb_Ev X 2 mX7_advance 16 [some (.ref s.1), some (.int s.2.1)] [] s.2.2 (gb_wV r)) (fun k hk s r hs => fbX7_advance_16_ok (fun v0 v1 h r e => hk (v0, v1, h) r e) _ _ _ r hs) n (v0, v1, h) r hF
def fnX7_advance (p0 : Nat) (h : gb_H) : Option (Unit × gb_H) :=
  gb_gd (gb_k h p0 7) <|
  gb_rd (gb_R h p0 0) fun a2 =>
  gb_gd (gb_k h a2 9) <|
  gb_lt (gb_I h a2 1) fun x4 =>
  gb_gd (gb_k h p0 7) <|
  gb_gd (gb_k h p0 7) <|
  gb_lt (gb_sI h p0 2 (gb_I h p0 3)) fun h7 =>
  lpX7_advance_16 gb_FU p0 x4 h7
theorem fnX7_advance_ok {X : gb_X}  {p0 : Nat} (h : gb_H) (r : Unit × gb_H) (hF : fnX7_advance p0 h = some r) : gb_Ev X 2 mX7_advance 0 (gb_L0 [.ref p0]) [] h (gb_wV r) := by
  unfold fnX7_advance at hF
  refine gb_weak (L' := [some (.ref p0), none]) (And.intro rfl trivial) ?_
  refine gb_aload_n dX7_advance_0 rfl rfl ?_
  obtain ⟨g1, hF⟩ := gb_gdE hF
  obtain ⟨a2, ea2, hF⟩ := gb_rdE hF
  refine gb_getR fX7_20 dX7_advance_1 (gb_kE g1) ea2 ?_
  obtain ⟨g3, hF⟩ := gb_gdE hF
  refine gb_getI fX7_175 dX7_advance_4 (gb_kE g3) ?_
  obtain ⟨x4, ex4, hF⟩ := gb_ltE hF
  refine gb_topI ex4 ?_
  refine gb_istore_n (L' := [some (.ref p0), some (.int x4)]) dX7_advance_7 rfl (by decide) rfl rfl ?_
  refine gb_aload_n dX7_advance_8 rfl rfl ?_
  refine gb_aload_n dX7_advance_9 rfl rfl ?_
  obtain ⟨g5, hF⟩ := gb_gdE hF
  refine gb_getI fX7_66 dX7_advance_10 (gb_kE g5) ?_
  obtain ⟨g6, hF⟩ := gb_gdE hF
  obtain ⟨h7, eh7, hF⟩ := gb_ltE hF
  refine gb_putI fX7_34 (gb_nff nf7_2) dX7_advance_13 (gb_kE g6) (fun _ => ⟨rfl, rfl⟩) (gb_hp eh7 ?_)
  exact gb_wk (lpX7_advance_16_ok gb_FU p0 x4 h7 r hF) (And.intro rfl (And.intro rfl trivial))
def fnX7_restart (p0 : Nat) (h : gb_H) : Option (Unit × gb_H) :=
  gb_gd (gb_k h p0 7) <|
  gb_rd (gb_R h p0 1) fun a2 =>
  gb_gd (gb_k h a2 2) <|
  gb_lt (gb_sI h a2 1 (0 : Int32)) fun h4 =>
  gb_gd (gb_k h4 p0 7) <|
  gb_lt (gb_sI h4 p0 5 (0 : Int32)) fun h6 =>
  gb_gd (gb_k h6 p0 7) <|
  gb_lt (gb_sI h6 p0 6 (0 : Int32)) fun h8 =>
  gb_gd (gb_k h8 p0 7) <|
  gb_lt (gb_sI h8 p0 3 (0 : Int32)) fun h10 =>
  gb_gd (gb_k h10 p0 7) <|
  gb_bd (fnX7_advance p0 h10) fun _ h13 =>
  some ((), h13)
theorem fnX7_restart_ok {X : gb_X}  {p0 : Nat} (h : gb_H) (r : Unit × gb_H) (hF : fnX7_restart p0 h = some r) : gb_Ev X 3 mX7_restart 0 (gb_L0 [.ref p0]) [] h (gb_wV r) := by
  unfold fnX7_restart at hF
  refine gb_weak (L' := [some (.ref p0)]) (And.intro rfl trivial) ?_
  refine gb_aload_n dX7_restart_0 rfl rfl ?_
  obtain ⟨g1, hF⟩ := gb_gdE hF
  obtain ⟨a2, ea2, hF⟩ := gb_rdE hF
  refine gb_getR fX7_14 dX7_restart_1 (gb_kE g1) ea2 ?_
  refine gb_iconst (v := (0 : Int32)) dX7_restart_4 (by decide) ?_
  obtain ⟨g3, hF⟩ := gb_gdE hF
  obtain ⟨h4, eh4, hF⟩ := gb_ltE hF
  refine gb_putI fX7_57 (gb_nff nf2_1) dX7_restart_5 (gb_kE g3) (fun _ => ⟨rfl, rfl⟩) (gb_hp eh4 ?_)
  refine gb_aload_n dX7_restart_8 rfl rfl ?_
  refine gb_iconst (v := (0 : Int32)) dX7_restart_9 (by decide) ?_
  obtain ⟨g5, hF⟩ := gb_gdE hF
  obtain ⟨h6, eh6, hF⟩ := gb_ltE hF
  refine gb_putI fX7_60 (gb_nff nf7_5) dX7_restart_10 (gb_kE g5) (fun _ => ⟨rfl, rfl⟩) (gb_hp eh6 ?_)
  refine gb_aload_n dX7_restart_13 rfl rfl ?_
  refine gb_iconst (v := (0 : Int32)) dX7_restart_14 (by decide) ?_
  obtain ⟨g7, hF⟩ := gb_gdE hF
  obtain ⟨h8, eh8, hF⟩ := gb_ltE hF
  refine gb_putI fX7_63 (gb_nff nf7_6) dX7_restart_15 (gb_kE g7) (fun _ => ⟨rfl, rfl⟩) (gb_hp eh8 ?_)
  refine gb_aload_n dX7_restart_18 rfl rfl ?_
  refine gb_iconst (v := (0 : Int32)) dX7_restart_19 (by decide) ?_
  obtain ⟨g9, hF⟩ := gb_gdE hF
  obtain ⟨h10, eh10, hF⟩ := gb_ltE hF
  refine gb_putI fX7_66 (gb_nff nf7_3) dX7_restart_20 (gb_kE g9) (fun _ => ⟨rfl, rfl⟩) (gb_hp eh10 ?_)
  refine gb_aload_n dX7_restart_23 rfl rfl ?_
  obtain ⟨g11, hF⟩ := gb_gdE hF
  obtain ⟨x12, h13, cx12, hF⟩ := gb_bdE hF
  refine gb_cV (As := []) (S := []) (v := none) (h1 := h13) (S2 := []) cf7 dX7_restart_24 mtX7_advance lX7_69 inX7_advance seX7_advance (gb_kE g11) (fnX7_advance_ok _ _ cx12) (by decide) rfl (Nat.le_of_ble_eq_true rfl) (Nat.le_of_ble_eq_true rfl) rfl rfl ?_
  cases hF
  exact gb_vret dX7_restart_27 rfl
def fbX7_atEnd_19 (s0 : Int32) (h : gb_H) : Option (Int32 × gb_H) :=
  gb_gd (gb_b s0) <|
  some (s0, h)
theorem fbX7_atEnd_19_ok {X : gb_X} (s0 : Int32) (h : gb_H) (r : Int32 × gb_H) (hF : fbX7_atEnd_19 s0 h = some r) : gb_Ev X 1 mX7_atEnd 19 [none] [.int s0] h (gb_wI r) := by
  unfold fbX7_atEnd_19 at hF
  obtain ⟨g1, hF⟩ := gb_gdE hF
  cases hF
  exact gb_zret dX7_atEnd_19 rfl (gb_bE g1)
def fnX7_atEnd (p0 : Nat) (h : gb_H) : Option (Int32 × gb_H) :=
  gb_gd (gb_k h p0 7) <|
  gb_gd (gb_k h p0 7) <|
  gb_rd (gb_R h p0 0) fun a3 =>
  gb_gd (gb_k h a3 9) <|
  if (gb_I h p0 2) < (gb_I h a3 1) then
    fbX7_atEnd_19 (0 : Int32) h
  else
    fbX7_atEnd_19 (1 : Int32) h
theorem fnX7_atEnd_ok {X : gb_X}  {p0 : Nat} (h : gb_H) (r : Int32 × gb_H) (hF : fnX7_atEnd p0 h = some r) : gb_Ev X 1 mX7_atEnd 0 (gb_L0 [.ref p0]) [] h (gb_wI r) := by
  unfold fnX7_atEnd at hF
  refine gb_weak (L' := [some (.ref p0)]) (And.intro rfl trivial) ?_
  refine gb_aload_n dX7_atEnd_0 rfl rfl ?_
  obtain ⟨g1, hF⟩ := gb_gdE hF
  refine gb_getI fX7_34 dX7_atEnd_1 (gb_kE g1) ?_
  refine gb_aload_n dX7_atEnd_4 rfl rfl ?_
  obtain ⟨g2, hF⟩ := gb_gdE hF
  obtain ⟨a3, ea3, hF⟩ := gb_rdE hF
  refine gb_getR fX7_20 dX7_atEnd_5 (gb_kE g2) ea3 ?_
  obtain ⟨g4, hF⟩ := gb_gdE hF
  refine gb_getI fX7_175 dX7_atEnd_8 (gb_kE g4) ?_
  refine gb_icmp_lt (tgt := 18) dX7_atEnd_11 (by decide) (fun c5 => ?_) (fun c5 => ?_)
  · replace hF := gb_ifT c5 hF
    refine gb_iconst (v := (0 : Int32)) dX7_atEnd_18 (by decide) ?_
    exact gb_wk (fbX7_atEnd_19_ok (0 : Int32) h r hF) trivial
  · replace hF := gb_ifF c5 hF
    refine gb_iconst (v := (1 : Int32)) dX7_atEnd_14 (by decide) ?_
    refine gb_goto (tgt := 19) dX7_atEnd_15 (by decide) ?_
    exact gb_wk (fbX7_atEnd_19_ok (1 : Int32) h r hF) trivial
def fbX7_says_23 (k23 : Nat → Nat → Int32 → gb_H → Option (Int32 × gb_H)) (v0 : Nat) (v1 : Nat) (v2 : Int32) (h : gb_H) : Option (Int32 × gb_H) :=
  gb_gd (gb_k h v0 7) <|
  if (gb_I h v0 3) ≤ v2 then
    some ((1 : Int32), h)
  else
    gb_gd (gb_k h v0 7) <|
    gb_rd (gb_R h v0 0) fun a4 =>
    gb_gd (gb_k h a4 9) <|
    gb_rd (gb_R h a4 0) fun a6 =>
    gb_gd (gb_k h a6 20) <|
    gb_gd (gb_in h a6 v2) <|
    gb_gd (gb_k h v0 7) <|
    gb_gd (gb_st0 v1) <|
    gb_bd (fnJ0_charAt_5068e v1 (v2 - (gb_I h v0 2)) h) fun x11 h12 =>
    if (gb_I h a6 v2.toNatClampNeg) = x11 then
      gb_lt (v2 + (1 : Int32)) fun x14 =>
      k23 v0 v1 x14 h12
    else
      some ((0 : Int32), h12)
theorem fbX7_says_23_ok {X : gb_X} {k23 : Nat → Nat → Int32 → gb_H → Option (Int32 × gb_H)} (hk23 : ∀ v0 v1 v2 h r, k23 v0 v1 v2 h = some r → gb_Ev X 6 mX7_says 23 [some (.ref v0), some (.retAddr v1), some (.int v2)] [] h (gb_wI r)) (v0 : Nat) (v1 : Nat) (v2 : Int32) (h : gb_H) (r : Int32 × gb_H) (hF : fbX7_says_23 k23 v0 v1 v2 h = some r) : gb_Ev X 6 mX7_says 23 [some (.ref v0), some (.retAddr v1), some (.int v2)] [] h (gb_wI r) := by
  unfold fbX7_says_23 at hF
  refine gb_iload_n dX7_says_23 rfl rfl ?_
  refine gb_aload_n dX7_says_24 rfl rfl ?_
  obtain ⟨g1, hF⟩ := gb_gdE hF
  refine gb_getI fX7_66 dX7_says_25 (gb_kE g1) ?_
  refine gb_icmp_ge (tgt := 61) dX7_says_28 (by decide) (fun c2 => ?_) (fun c2 => ?_)
  · replace hF := gb_ifT c2 hF
    refine gb_iconst (v := (1 : Int32)) dX7_says_61 (by decide) ?_
    cases hF
    exact gb_zret dX7_says_62 rfl (by decide)
  · replace hF := gb_ifF c2 hF
    refine gb_aload_n dX7_says_31 rfl rfl ?_
    obtain ⟨g3, hF⟩ := gb_gdE hF
    obtain ⟨a4, ea4, hF⟩ := gb_rdE hF
    refine gb_getR fX7_20 dX7_says_32 (gb_kE g3) ea4 ?_
    obtain ⟨g5, hF⟩ := gb_gdE hF
    obtain ⟨a6, ea6, hF⟩ := gb_rdE hF
    refine gb_getR fX7_165 dX7_says_35 (gb_kE g5) ea6 ?_
    refine gb_iload_n dX7_says_38 rfl rfl ?_
    obtain ⟨g7, hF⟩ := gb_gdE hF
    obtain ⟨g8, hF⟩ := gb_gdE hF
    refine gb_iald dX7_says_39 (gb_kE g7) (gb_inE g8) ?_
    refine gb_aload_nS dX7_says_40 rfl rfl ?_
    refine gb_iload_n dX7_says_41 rfl rfl ?_
    refine gb_aload_n dX7_says_42 rfl rfl ?_
    obtain ⟨g9, hF⟩ := gb_gdE hF
    refine gb_getI fX7_34 dX7_says_43 (gb_kE g9) ?_
    refine gb_isub dX7_says_46 ?_
    obtain ⟨g10, hF⟩ := gb_gdE hF
    obtain ⟨x11, h12, cx11, hF⟩ := gb_bdE hF
    refine gb_cT (As := [.int (v2 - (gb_I h v0 2))]) (S := [.int (gb_I h a6 v2.toNatClampNeg)]) (v := some (.int x11)) (h1 := h12) (S2 := [.int x11, .int (gb_I h a6 v2.toNatClampNeg)]) (gb_st0E g10) dX7_says_47 mtJ0_charAt_5068e lX7_171 inJ0_charAt_5068e seJ0_charAt_5068e (fnJ0_charAt_5068e_ok (gb_st0E g10) _ _ cx11) (by decide) rfl (Nat.le_of_ble_eq_true rfl) (Nat.le_of_ble_eq_true rfl) rfl rfl ?_
    refine gb_icmp_eq (tgt := 55) dX7_says_50 (by decide) (fun c13 => ?_) (fun c13 => ?_)
    · replace hF := gb_ifT c13 hF
      obtain ⟨x14, ex14, hF⟩ := gb_ltE hF
      refine gb_iinc (v := x14) (L' := [some (.ref v0), some (.retAddr v1), some (.int x14)]) dX7_says_55 rfl (by rw [ex14]; rfl) (by decide) rfl rfl ?_
      refine gb_goto (tgt := 23) dX7_says_58 (by decide) ?_
      exact gb_wk (hk23 v0 v1 x14 h12 r hF) (And.intro rfl (And.intro rfl (And.intro rfl trivial)))
    · replace hF := gb_ifF c13 hF
      refine gb_iconst (v := (0 : Int32)) dX7_says_53 (by decide) ?_
      cases hF
      exact gb_zret dX7_says_54 rfl (by decide)
def lpX7_says_23 (n : Nat) (v0 : Nat) (v1 : Nat) (v2 : Int32) (h : gb_H) : Option (Int32 × gb_H) := gb_lp (σ := Nat × Nat × Int32 × gb_H) (fun k s => fbX7_says_23 (fun v0 v1 v2 h => k (v0, v1, v2, h)) s.1 s.2.1 s.2.2.1 s.2.2.2) n (v0, v1, v2, h)
theorem lpX7_says_23_ok {X : gb_X}  (n : Nat) (v0 : Nat) (v1 : Nat) (v2 : Int32) (h : gb_H) (r : Int32 × gb_H) (hF : lpX7_says_23 n v0 v1 v2 h = some r) : gb_Ev X 6 mX7_says 23 [some (.ref v0), some (.retAddr v1), some (.int v2)] [] h (gb_wI r) := by
  exact gb_lpE (σ := Nat × Nat × Int32 × gb_H) (P := fun s r => gb_Ev X 6 mX7_says 23 [some (.ref s.1), some (.retAddr s.2.1), some (.int s.2.2.1)] [] s.2.2.2 (gb_wI r)) (fun k hk s r hs => fbX7_says_23_ok (fun v0 v1 v2 h r e => hk (v0, v1, v2, h) r e) _ _ _ _ r hs) n (v0, v1, v2, h) r hF
def fnX7_says (p0 : Nat) (p1 : Nat) (h : gb_H) : Option (Int32 × gb_H) :=
  gb_gd (gb_st0 p1) <|
  gb_bd (fnJ0_length_8abf5 p1 h) fun x2 h3 =>
  gb_gd (gb_k h3 p0 7) <|
  gb_gd (gb_k h3 p0 7) <|
  if x2 = ((gb_I h3 p0 3) - (gb_I h3 p0 2)) then
    gb_gd (gb_k h3 p0 7) <|
    gb_lt (gb_I h3 p0 2) fun x8 =>
    lpX7_says_23 gb_FU p0 p1 x8 h3
  else
    some ((0 : Int32), h3)
theorem fnX7_says_ok {X : gb_X}  {p0 : Nat} {p1 : Nat} (h : gb_H) (r : Int32 × gb_H) (hF : fnX7_says p0 p1 h = some r) : gb_Ev X 6 mX7_says 0 (gb_L0 [.ref p0, .retAddr p1]) [] h (gb_wI r) := by
  unfold fnX7_says at hF
  refine gb_weak (L' := [some (.ref p0), some (.retAddr p1), none]) (And.intro rfl (And.intro rfl trivial)) ?_
  refine gb_aload_nS dX7_says_0 rfl rfl ?_
  obtain ⟨g1, hF⟩ := gb_gdE hF
  obtain ⟨x2, h3, cx2, hF⟩ := gb_bdE hF
  refine gb_cT (As := []) (S := []) (v := some (.int x2)) (h1 := h3) (S2 := [.int x2]) (gb_st0E g1) dX7_says_1 mtJ0_length_8abf5 lX7_159 inJ0_length_8abf5 seJ0_length_8abf5 (fnJ0_length_8abf5_ok (gb_st0E g1) _ _ cx2) (by decide) rfl (Nat.le_of_ble_eq_true rfl) (Nat.le_of_ble_eq_true rfl) rfl rfl ?_
  refine gb_aload_n dX7_says_4 rfl rfl ?_
  obtain ⟨g4, hF⟩ := gb_gdE hF
  refine gb_getI fX7_66 dX7_says_5 (gb_kE g4) ?_
  refine gb_aload_n dX7_says_8 rfl rfl ?_
  obtain ⟨g5, hF⟩ := gb_gdE hF
  refine gb_getI fX7_34 dX7_says_9 (gb_kE g5) ?_
  refine gb_isub dX7_says_12 ?_
  refine gb_icmp_eq (tgt := 18) dX7_says_13 (by decide) (fun c6 => ?_) (fun c6 => ?_)
  · replace hF := gb_ifT c6 hF
    refine gb_aload_n dX7_says_18 rfl rfl ?_
    obtain ⟨g7, hF⟩ := gb_gdE hF
    refine gb_getI fX7_34 dX7_says_19 (gb_kE g7) ?_
    obtain ⟨x8, ex8, hF⟩ := gb_ltE hF
    refine gb_topI ex8 ?_
    refine gb_istore_n (L' := [some (.ref p0), some (.retAddr p1), some (.int x8)]) dX7_says_22 rfl (by decide) rfl rfl ?_
    exact gb_wk (lpX7_says_23_ok gb_FU p0 p1 x8 h3 r hF) (And.intro rfl (And.intro rfl (And.intro rfl trivial)))
  · replace hF := gb_ifF c6 hF
    refine gb_iconst (v := (0 : Int32)) dX7_says_16 (by decide) ?_
    cases hF
    exact gb_zret dX7_says_17 rfl (by decide)
def fbX7_take_14 (v2 : Int32) (h : gb_H) : Option (Int32 × gb_H) :=
  gb_gd (gb_b v2) <|
  some (v2, h)
theorem fbX7_take_14_ok {X : gb_X} (v2 : Int32) (h : gb_H) (r : Int32 × gb_H) (hF : fbX7_take_14 v2 h = some r) : gb_Ev X 7 mX7_take 14 [none, none, some (.int v2)] [] h (gb_wI r) := by
  unfold fbX7_take_14 at hF
  refine gb_iload_n dX7_take_14 rfl rfl ?_
  obtain ⟨g1, hF⟩ := gb_gdE hF
  cases hF
  exact gb_zret dX7_take_15 rfl (gb_bE g1)
def fnX7_take (p0 : Nat) (p1 : Nat) (h : gb_H) : Option (Int32 × gb_H) :=
  gb_gd (gb_k h p0 7) <|
  gb_bd (fnX7_says p0 p1 h) fun x2 h3 =>
  if x2 = 0 then
    fbX7_take_14 x2 h3
  else
    gb_gd (gb_k h3 p0 7) <|
    gb_bd (fnX7_advance p0 h3) fun _ h7 =>
    fbX7_take_14 x2 h7
theorem fnX7_take_ok {X : gb_X}  {p0 : Nat} {p1 : Nat} (h : gb_H) (r : Int32 × gb_H) (hF : fnX7_take p0 p1 h = some r) : gb_Ev X 7 mX7_take 0 (gb_L0 [.ref p0, .retAddr p1]) [] h (gb_wI r) := by
  unfold fnX7_take at hF
  refine gb_weak (L' := [some (.ref p0), some (.retAddr p1), none]) (And.intro rfl (And.intro rfl trivial)) ?_
  refine gb_aload_n dX7_take_0 rfl rfl ?_
  refine gb_aload_nS dX7_take_1 rfl rfl ?_
  obtain ⟨g1, hF⟩ := gb_gdE hF
  obtain ⟨x2, h3, cx2, hF⟩ := gb_bdE hF
  refine gb_cV (As := [.retAddr p1]) (S := []) (v := some (.int x2)) (h1 := h3) (S2 := [.int x2]) cf7 dX7_take_2 mtX7_says lX7_79 inX7_says seX7_says (gb_kE g1) (fnX7_says_ok _ _ cx2) (by decide) rfl (Nat.le_of_ble_eq_true rfl) (Nat.le_of_ble_eq_true rfl) rfl rfl ?_
  refine gb_istore_n (L' := [some (.ref p0), some (.retAddr p1), some (.int x2)]) dX7_take_5 rfl (by decide) rfl rfl ?_
  refine gb_iload_n dX7_take_6 rfl rfl ?_
  refine gb_if_eq (tgt := 14) dX7_take_7 (by decide) (fun c4 => ?_) (fun c4 => ?_)
  · replace hF := gb_ifT c4 hF
    exact gb_wk (fbX7_take_14_ok x2 h3 r hF) (And.intro rfl trivial)
  · replace hF := gb_ifF c4 hF
    refine gb_aload_n dX7_take_10 rfl rfl ?_
    obtain ⟨g5, hF⟩ := gb_gdE hF
    obtain ⟨x6, h7, cx6, hF⟩ := gb_bdE hF
    refine gb_cV (As := []) (S := []) (v := none) (h1 := h7) (S2 := []) cf7 dX7_take_11 mtX7_advance lX7_69 inX7_advance seX7_advance (gb_kE g5) (fnX7_advance_ok _ _ cx6) (by decide) rfl (Nat.le_of_ble_eq_true rfl) (Nat.le_of_ble_eq_true rfl) rfl rfl ?_
    exact gb_wk (fbX7_take_14_ok x2 h7 r hF) (And.intro rfl trivial)
def fbX7_readPath_19 (h : gb_H) : Option (Int32 × gb_H) :=
  some ((-1 : Int32), h)
theorem fbX7_readPath_19_ok {X : gb_X} (h : gb_H) (r : Int32 × gb_H) (hF : fbX7_readPath_19 h = some r) : gb_Ev X 3 mX7_readPath 19 [none, none, none, none, none] [] h (gb_wI r) := by
  unfold fbX7_readPath_19 at hF
  refine gb_iconst (v := (-1 : Int32)) dX7_readPath_19 (by decide) ?_
  cases hF
  exact gb_iret dX7_readPath_20 rfl
def fbX7_readPath_38 (v0 : Nat) (v1 : Int32) (v3 : Int32) (s0 : Int32) (h : gb_H) : Option (Int32 × gb_H) :=
  if s0 = v1 then
    gb_gd (gb_k h v0 7) <|
    gb_bd (fnX7_advance v0 h) fun _ h4 =>
    some (v3, h4)
  else
    some ((-1 : Int32), h)
theorem fbX7_readPath_38_ok {X : gb_X} (v0 : Nat) (v1 : Int32) (v3 : Int32) (s0 : Int32) (h : gb_H) (r : Int32 × gb_H) (hF : fbX7_readPath_38 v0 v1 v3 s0 h = some r) : gb_Ev X 3 mX7_readPath 38 [some (.ref v0), some (.int v1), none, some (.int v3), none] [.int s0] h (gb_wI r) := by
  unfold fbX7_readPath_38 at hF
  refine gb_istore (L' := [some (.ref v0), some (.int v1), none, some (.int v3), some (.int s0)]) dX7_readPath_38 (by decide) rfl rfl ?_
  refine gb_iload dX7_readPath_40 rfl ?_
  refine gb_iload_n dX7_readPath_42 rfl rfl ?_
  refine gb_icmp_eq (tgt := 48) dX7_readPath_43 (by decide) (fun c1 => ?_) (fun c1 => ?_)
  · replace hF := gb_ifT c1 hF
    refine gb_aload_n dX7_readPath_48 rfl rfl ?_
    obtain ⟨g2, hF⟩ := gb_gdE hF
    obtain ⟨x3, h4, cx3, hF⟩ := gb_bdE hF
    refine gb_cV (As := []) (S := []) (v := none) (h1 := h4) (S2 := []) cf7 dX7_readPath_49 mtX7_advance lX7_69 inX7_advance seX7_advance (gb_kE g2) (fnX7_advance_ok _ _ cx3) (by decide) rfl (Nat.le_of_ble_eq_true rfl) (Nat.le_of_ble_eq_true rfl) rfl rfl ?_
    refine gb_iload_n dX7_readPath_52 rfl rfl ?_
    cases hF
    exact gb_iret dX7_readPath_53 rfl
  · replace hF := gb_ifF c1 hF
    refine gb_iconst (v := (-1 : Int32)) dX7_readPath_46 (by decide) ?_
    cases hF
    exact gb_iret dX7_readPath_47 rfl
def fnX7_readPath (p0 : Nat) (p1 : Int32) (p2 : Int32) (h : gb_H) : Option (Int32 × gb_H) :=
  gb_gd (gb_k h p0 7) <|
  gb_lt (gb_I h p0 4) fun x2 =>
  if x2 < 0 then
    fbX7_readPath_19 h
  else
    if (5 : Int32) ≤ x2 then
      fbX7_readPath_19 h
    else
      if x2 = p2 then
        fbX7_readPath_19 h
      else
        gb_gd (gb_k h p0 7) <|
        if (((gb_I h p0 5) >>> (x2 &&& 31)) &&& (1 : Int32)) = (1 : Int32) then
          fbX7_readPath_38 p0 p1 x2 (1 : Int32) h
        else
          fbX7_readPath_38 p0 p1 x2 (0 : Int32) h
theorem fnX7_readPath_ok {X : gb_X}  {p0 : Nat} {p1 : Int32} {p2 : Int32} (h : gb_H) (r : Int32 × gb_H) (hF : fnX7_readPath p0 p1 p2 h = some r) : gb_Ev X 3 mX7_readPath 0 (gb_L0 [.ref p0, .int p1, .int p2]) [] h (gb_wI r) := by
  unfold fnX7_readPath at hF
  refine gb_weak (L' := [some (.ref p0), some (.int p1), some (.int p2), none, none]) (And.intro rfl (And.intro rfl (And.intro rfl trivial))) ?_
  refine gb_aload_n dX7_readPath_0 rfl rfl ?_
  obtain ⟨g1, hF⟩ := gb_gdE hF
  refine gb_getI fX7_156 dX7_readPath_1 (gb_kE g1) ?_
  obtain ⟨x2, ex2, hF⟩ := gb_ltE hF
  refine gb_topI ex2 ?_
  refine gb_istore_n (L' := [some (.ref p0), some (.int p1), some (.int p2), some (.int x2), none]) dX7_readPath_4 rfl (by decide) rfl rfl ?_
  refine gb_iload_n dX7_readPath_5 rfl rfl ?_
  refine gb_if_lt (tgt := 19) dX7_readPath_6 (by decide) (fun c3 => ?_) (fun c3 => ?_)
  · replace hF := gb_ifT c3 hF
    exact gb_wk (fbX7_readPath_19_ok h r hF) trivial
  · replace hF := gb_ifF c3 hF
    refine gb_iload_n dX7_readPath_9 rfl rfl ?_
    refine gb_iconst (v := (5 : Int32)) dX7_readPath_10 (by decide) ?_
    refine gb_icmp_ge (tgt := 19) dX7_readPath_11 (by decide) (fun c4 => ?_) (fun c4 => ?_)
    · replace hF := gb_ifT c4 hF
      exact gb_wk (fbX7_readPath_19_ok h r hF) trivial
    · replace hF := gb_ifF c4 hF
      refine gb_iload_n dX7_readPath_14 rfl rfl ?_
      refine gb_iload_n dX7_readPath_15 rfl rfl ?_
      refine gb_icmp_ne (tgt := 21) dX7_readPath_16 (by decide) (fun c5 => ?_) (fun c5 => ?_)
      · replace hF := gb_ifF c5 hF
        refine gb_aload_n dX7_readPath_21 rfl rfl ?_
        obtain ⟨g6, hF⟩ := gb_gdE hF
        refine gb_getI fX7_60 dX7_readPath_22 (gb_kE g6) ?_
        refine gb_iload_n dX7_readPath_25 rfl rfl ?_
        refine gb_ishr dX7_readPath_26 ?_
        refine gb_iconst (v := (1 : Int32)) dX7_readPath_27 (by decide) ?_
        refine gb_iand dX7_readPath_28 ?_
        refine gb_iconst (v := (1 : Int32)) dX7_readPath_29 (by decide) ?_
        refine gb_icmp_ne (tgt := 37) dX7_readPath_30 (by decide) (fun c7 => ?_) (fun c7 => ?_)
        · replace hF := gb_ifF c7 hF
          refine gb_iconst (v := (0 : Int32)) dX7_readPath_37 (by decide) ?_
          exact gb_wk (fbX7_readPath_38_ok p0 p1 x2 (0 : Int32) h r hF) (And.intro rfl (And.intro rfl (And.intro rfl trivial)))
        · replace hF := gb_ifT c7 hF
          refine gb_iconst (v := (1 : Int32)) dX7_readPath_33 (by decide) ?_
          refine gb_goto (tgt := 38) dX7_readPath_34 (by decide) ?_
          exact gb_wk (fbX7_readPath_38_ok p0 p1 x2 (1 : Int32) h r hF) (And.intro rfl (And.intro rfl (And.intro rfl trivial)))
      · replace hF := gb_ifT c5 hF
        exact gb_wk (fbX7_readPath_19_ok h r hF) trivial
def fbX7_readNumber_14 (h : gb_H) : Option (Int32 × gb_H) :=
  some ((-1 : Int32), h)
theorem fbX7_readNumber_14_ok {X : gb_X} (h : gb_H) (r : Int32 × gb_H) (hF : fbX7_readNumber_14 h = some r) : gb_Ev X 3 mX7_readNumber 14 [none, none, none] [] h (gb_wI r) := by
  unfold fbX7_readNumber_14 at hF
  refine gb_iconst (v := (-1 : Int32)) dX7_readNumber_14 (by decide) ?_
  cases hF
  exact gb_iret dX7_readNumber_15 rfl
def fnX7_readNumber (p0 : Nat) (p1 : Int32) (h : gb_H) : Option (Int32 × gb_H) :=
  gb_gd (gb_k h p0 7) <|
  gb_lt (gb_I h p0 4) fun x2 =>
  if x2 < 0 then
    fbX7_readNumber_14 h
  else
    if x2 ≤ p1 then
      gb_gd (gb_k h p0 7) <|
      gb_bd (fnX7_advance p0 h) fun _ h7 =>
      some (x2, h7)
    else
      fbX7_readNumber_14 h
theorem fnX7_readNumber_ok {X : gb_X}  {p0 : Nat} {p1 : Int32} (h : gb_H) (r : Int32 × gb_H) (hF : fnX7_readNumber p0 p1 h = some r) : gb_Ev X 3 mX7_readNumber 0 (gb_L0 [.ref p0, .int p1]) [] h (gb_wI r) := by
  unfold fnX7_readNumber at hF
  refine gb_weak (L' := [some (.ref p0), some (.int p1), none]) (And.intro rfl (And.intro rfl trivial)) ?_
  refine gb_aload_n dX7_readNumber_0 rfl rfl ?_
  obtain ⟨g1, hF⟩ := gb_gdE hF
  refine gb_getI fX7_156 dX7_readNumber_1 (gb_kE g1) ?_
  obtain ⟨x2, ex2, hF⟩ := gb_ltE hF
  refine gb_topI ex2 ?_
  refine gb_istore_n (L' := [some (.ref p0), some (.int p1), some (.int x2)]) dX7_readNumber_4 rfl (by decide) rfl rfl ?_
  refine gb_iload_n dX7_readNumber_5 rfl rfl ?_
  refine gb_if_lt (tgt := 14) dX7_readNumber_6 (by decide) (fun c3 => ?_) (fun c3 => ?_)
  · replace hF := gb_ifT c3 hF
    exact gb_wk (fbX7_readNumber_14_ok h r hF) trivial
  · replace hF := gb_ifF c3 hF
    refine gb_iload_n dX7_readNumber_9 rfl rfl ?_
    refine gb_iload_n dX7_readNumber_10 rfl rfl ?_
    refine gb_icmp_le (tgt := 16) dX7_readNumber_11 (by decide) (fun c4 => ?_) (fun c4 => ?_)
    · replace hF := gb_ifT c4 hF
      refine gb_aload_n dX7_readNumber_16 rfl rfl ?_
      obtain ⟨g5, hF⟩ := gb_gdE hF
      obtain ⟨x6, h7, cx6, hF⟩ := gb_bdE hF
      refine gb_cV (As := []) (S := []) (v := none) (h1 := h7) (S2 := []) cf7 dX7_readNumber_17 mtX7_advance lX7_69 inX7_advance seX7_advance (gb_kE g5) (fnX7_advance_ok _ _ cx6) (by decide) rfl (Nat.le_of_ble_eq_true rfl) (Nat.le_of_ble_eq_true rfl) rfl rfl ?_
      refine gb_iload_n dX7_readNumber_20 rfl rfl ?_
      cases hF
      exact gb_iret dX7_readNumber_21 rfl
    · replace hF := gb_ifF c4 hF
      exact gb_wk (fbX7_readNumber_14_ok h r hF) trivial
def fbX7_readWait_27 (h : gb_H) : Option (Int32 × gb_H) :=
  some ((0 : Int32), h)
theorem fbX7_readWait_27_ok {X : gb_X} (h : gb_H) (r : Int32 × gb_H) (hF : fbX7_readWait_27 h = some r) : gb_Ev X 8 mX7_readWait 27 [none, none] [] h (gb_wI r) := by
  unfold fbX7_readWait_27 at hF
  refine gb_iconst (v := (0 : Int32)) dX7_readWait_27 (by decide) ?_
  cases hF
  exact gb_zret dX7_readWait_28 rfl (by decide)
def fbX7_readWait_60 (s0 : Int32) (h : gb_H) : Option (Int32 × gb_H) :=
  gb_gd (gb_b s0) <|
  some (s0, h)
theorem fbX7_readWait_60_ok {X : gb_X} (s0 : Int32) (h : gb_H) (r : Int32 × gb_H) (hF : fbX7_readWait_60 s0 h = some r) : gb_Ev X 8 mX7_readWait 60 [none, none] [.int s0] h (gb_wI r) := by
  unfold fbX7_readWait_60 at hF
  obtain ⟨g1, hF⟩ := gb_gdE hF
  cases hF
  exact gb_zret dX7_readWait_60 rfl (gb_bE g1)
def fbX7_readWait_59 (h : gb_H) : Option (Int32 × gb_H) :=
  fbX7_readWait_60 (0 : Int32) h
theorem fbX7_readWait_59_ok {X : gb_X} (h : gb_H) (r : Int32 × gb_H) (hF : fbX7_readWait_59 h = some r) : gb_Ev X 8 mX7_readWait 59 [none, none] [] h (gb_wI r) := by
  unfold fbX7_readWait_59 at hF
  refine gb_iconst (v := (0 : Int32)) dX7_readWait_59 (by decide) ?_
  exact gb_wk (fbX7_readWait_60_ok (0 : Int32) h r hF) trivial
def fnX7_readWait (p0 : Nat) (p1 : Nat) (h : gb_H) : Option (Int32 × gb_H) :=
  gb_gd (gb_k h p0 7) <|
  gb_bd (fnX7_readPath p0 (1 : Int32) (-1 : Int32) h) fun x2 h3 =>
  gb_gd (gb_k h3 p1 5) <|
  gb_lt (gb_sI h3 p1 6 x2) fun h5 =>
  gb_gd (gb_k h5 p1 5) <|
  if (gb_I h5 p1 6) = (-1 : Int32) then
    fbX7_readWait_27 h5
  else
    gb_gd (gb_k h5 p0 7) <|
    gb_bd (fnX7_take p0 1 h5) fun x9 h10 =>
    if x9 = 0 then
      fbX7_readWait_27 h10
    else
      gb_gd (gb_k h10 p0 7) <|
      gb_bd (fnX7_readNumber p0 (3 : Int32) h10) fun x13 h14 =>
      gb_gd (gb_k h14 p1 5) <|
      gb_lt (gb_sI h14 p1 7 x13) fun h16 =>
      gb_gd (gb_k h16 p1 5) <|
      if (gb_I h16 p1 7) = (-1 : Int32) then
        fbX7_readWait_59 h16
      else
        gb_gd (gb_k h16 p0 7) <|
        gb_bd (fnX7_take p0 2 h16) fun x20 h21 =>
        if x20 = 0 then
          fbX7_readWait_59 h21
        else
          fbX7_readWait_60 (1 : Int32) h21
theorem fnX7_readWait_ok {X : gb_X}  {p0 : Nat} {p1 : Nat} (h : gb_H) (r : Int32 × gb_H) (hF : fnX7_readWait p0 p1 h = some r) : gb_Ev X 8 mX7_readWait 0 (gb_L0 [.ref p0, .ref p1]) [] h (gb_wI r) := by
  unfold fnX7_readWait at hF
  refine gb_weak (L' := [some (.ref p0), some (.ref p1)]) (And.intro rfl (And.intro rfl trivial)) ?_
  refine gb_aload_n dX7_readWait_0 rfl rfl ?_
  refine gb_aload_n dX7_readWait_1 rfl rfl ?_
  refine gb_iconst (v := (1 : Int32)) dX7_readWait_2 (by decide) ?_
  refine gb_iconst (v := (-1 : Int32)) dX7_readWait_3 (by decide) ?_
  obtain ⟨g1, hF⟩ := gb_gdE hF
  obtain ⟨x2, h3, cx2, hF⟩ := gb_bdE hF
  refine gb_cV (As := [.int (1 : Int32), .int (-1 : Int32)]) (S := [.ref p1]) (v := some (.int x2)) (h1 := h3) (S2 := [.int x2, .ref p1]) cf7 dX7_readWait_4 mtX7_readPath lX7_90 inX7_readPath seX7_readPath (gb_kE g1) (fnX7_readPath_ok _ _ cx2) (by decide) rfl (Nat.le_of_ble_eq_true rfl) (Nat.le_of_ble_eq_true rfl) rfl rfl ?_
  obtain ⟨g4, hF⟩ := gb_gdE hF
  obtain ⟨h5, eh5, hF⟩ := gb_ltE hF
  refine gb_putI fX7_94 (gb_nff nf5_6) dX7_readWait_7 (gb_kE g4) (fun _ => ⟨rfl, rfl⟩) (gb_hp eh5 ?_)
  refine gb_aload_n dX7_readWait_10 rfl rfl ?_
  obtain ⟨g6, hF⟩ := gb_gdE hF
  refine gb_getI fX7_94 dX7_readWait_11 (gb_kE g6) ?_
  refine gb_iconst (v := (-1 : Int32)) dX7_readWait_14 (by decide) ?_
  refine gb_icmp_eq (tgt := 27) dX7_readWait_15 (by decide) (fun c7 => ?_) (fun c7 => ?_)
  · replace hF := gb_ifT c7 hF
    exact gb_wk (fbX7_readWait_27_ok h5 r hF) trivial
  · replace hF := gb_ifF c7 hF
    refine gb_aload_n dX7_readWait_18 rfl rfl ?_
    refine gb_ldcS 1 dX7_readWait_19 rfl (by decide) ?_
    obtain ⟨g8, hF⟩ := gb_gdE hF
    obtain ⟨x9, h10, cx9, hF⟩ := gb_bdE hF
    refine gb_cV (As := [.retAddr 1]) (S := []) (v := some (.int x9)) (h1 := h10) (S2 := [.int x9]) cf7 dX7_readWait_21 mtX7_take lX7_40 inX7_take seX7_take (gb_kE g8) (fnX7_take_ok _ _ cx9) (by decide) rfl (Nat.le_of_ble_eq_true rfl) (Nat.le_of_ble_eq_true rfl) rfl rfl ?_
    refine gb_if_ne (tgt := 29) dX7_readWait_24 (by decide) (fun c11 => ?_) (fun c11 => ?_)
    · replace hF := gb_ifF c11 hF
      refine gb_aload_n dX7_readWait_29 rfl rfl ?_
      refine gb_aload_n dX7_readWait_30 rfl rfl ?_
      refine gb_iconst (v := (3 : Int32)) dX7_readWait_31 (by decide) ?_
      obtain ⟨g12, hF⟩ := gb_gdE hF
      obtain ⟨x13, h14, cx13, hF⟩ := gb_bdE hF
      refine gb_cV (As := [.int (3 : Int32)]) (S := [.ref p1]) (v := some (.int x13)) (h1 := h14) (S2 := [.int x13, .ref p1]) cf7 dX7_readWait_32 mtX7_readNumber lX7_99 inX7_readNumber seX7_readNumber (gb_kE g12) (fnX7_readNumber_ok _ _ cx13) (by decide) rfl (Nat.le_of_ble_eq_true rfl) (Nat.le_of_ble_eq_true rfl) rfl rfl ?_
      obtain ⟨g15, hF⟩ := gb_gdE hF
      obtain ⟨h16, eh16, hF⟩ := gb_ltE hF
      refine gb_putI fX7_103 (gb_nff nf5_7) dX7_readWait_35 (gb_kE g15) (fun _ => ⟨rfl, rfl⟩) (gb_hp eh16 ?_)
      refine gb_aload_n dX7_readWait_38 rfl rfl ?_
      obtain ⟨g17, hF⟩ := gb_gdE hF
      refine gb_getI fX7_103 dX7_readWait_39 (gb_kE g17) ?_
      refine gb_iconst (v := (-1 : Int32)) dX7_readWait_42 (by decide) ?_
      refine gb_icmp_eq (tgt := 59) dX7_readWait_43 (by decide) (fun c18 => ?_) (fun c18 => ?_)
      · replace hF := gb_ifT c18 hF
        exact gb_wk (fbX7_readWait_59_ok h16 r hF) trivial
      · replace hF := gb_ifF c18 hF
        refine gb_aload_n dX7_readWait_46 rfl rfl ?_
        refine gb_ldcS 2 dX7_readWait_47 rfl (by decide) ?_
        obtain ⟨g19, hF⟩ := gb_gdE hF
        obtain ⟨x20, h21, cx20, hF⟩ := gb_bdE hF
        refine gb_cV (As := [.retAddr 2]) (S := []) (v := some (.int x20)) (h1 := h21) (S2 := [.int x20]) cf7 dX7_readWait_49 mtX7_take lX7_40 inX7_take seX7_take (gb_kE g19) (fnX7_take_ok _ _ cx20) (by decide) rfl (Nat.le_of_ble_eq_true rfl) (Nat.le_of_ble_eq_true rfl) rfl rfl ?_
        refine gb_if_eq (tgt := 59) dX7_readWait_52 (by decide) (fun c22 => ?_) (fun c22 => ?_)
        · replace hF := gb_ifT c22 hF
          exact gb_wk (fbX7_readWait_59_ok h21 r hF) trivial
        · replace hF := gb_ifF c22 hF
          refine gb_iconst (v := (1 : Int32)) dX7_readWait_55 (by decide) ?_
          refine gb_goto (tgt := 60) dX7_readWait_56 (by decide) ?_
          exact gb_wk (fbX7_readWait_60_ok (1 : Int32) h21 r hF) trivial
    · replace hF := gb_ifT c11 hF
      exact gb_wk (fbX7_readWait_27_ok h10 r hF) trivial
def fbX7_readFirst_23 (s0 : Int32) (h : gb_H) : Option (Int32 × gb_H) :=
  gb_gd (gb_b s0) <|
  some (s0, h)
theorem fbX7_readFirst_23_ok {X : gb_X} (s0 : Int32) (h : gb_H) (r : Int32 × gb_H) (hF : fbX7_readFirst_23 s0 h = some r) : gb_Ev X 4 mX7_readFirst 23 [none, none] [.int s0] h (gb_wI r) := by
  unfold fbX7_readFirst_23 at hF
  obtain ⟨g1, hF⟩ := gb_gdE hF
  cases hF
  exact gb_zret dX7_readFirst_23 rfl (gb_bE g1)
def fnX7_readFirst (p0 : Nat) (p1 : Nat) (h : gb_H) : Option (Int32 × gb_H) :=
  gb_gd (gb_k h p0 7) <|
  gb_bd (fnX7_readPath p0 (0 : Int32) (-1 : Int32) h) fun x2 h3 =>
  gb_gd (gb_k h3 p1 5) <|
  gb_lt (gb_sI h3 p1 1 x2) fun h5 =>
  gb_gd (gb_k h5 p1 5) <|
  if (gb_I h5 p1 1) = (-1 : Int32) then
    fbX7_readFirst_23 (0 : Int32) h5
  else
    fbX7_readFirst_23 (1 : Int32) h5
theorem fnX7_readFirst_ok {X : gb_X}  {p0 : Nat} {p1 : Nat} (h : gb_H) (r : Int32 × gb_H) (hF : fnX7_readFirst p0 p1 h = some r) : gb_Ev X 4 mX7_readFirst 0 (gb_L0 [.ref p0, .ref p1]) [] h (gb_wI r) := by
  unfold fnX7_readFirst at hF
  refine gb_weak (L' := [some (.ref p0), some (.ref p1)]) (And.intro rfl (And.intro rfl trivial)) ?_
  refine gb_aload_n dX7_readFirst_0 rfl rfl ?_
  refine gb_aload_n dX7_readFirst_1 rfl rfl ?_
  refine gb_iconst (v := (0 : Int32)) dX7_readFirst_2 (by decide) ?_
  refine gb_iconst (v := (-1 : Int32)) dX7_readFirst_3 (by decide) ?_
  obtain ⟨g1, hF⟩ := gb_gdE hF
  obtain ⟨x2, h3, cx2, hF⟩ := gb_bdE hF
  refine gb_cV (As := [.int (0 : Int32), .int (-1 : Int32)]) (S := [.ref p1]) (v := some (.int x2)) (h1 := h3) (S2 := [.int x2, .ref p1]) cf7 dX7_readFirst_4 mtX7_readPath lX7_90 inX7_readPath seX7_readPath (gb_kE g1) (fnX7_readPath_ok _ _ cx2) (by decide) rfl (Nat.le_of_ble_eq_true rfl) (Nat.le_of_ble_eq_true rfl) rfl rfl ?_
  obtain ⟨g4, hF⟩ := gb_gdE hF
  obtain ⟨h5, eh5, hF⟩ := gb_ltE hF
  refine gb_putI fX7_120 (gb_nff nf5_1) dX7_readFirst_7 (gb_kE g4) (fun _ => ⟨rfl, rfl⟩) (gb_hp eh5 ?_)
  refine gb_aload_n dX7_readFirst_10 rfl rfl ?_
  obtain ⟨g6, hF⟩ := gb_gdE hF
  refine gb_getI fX7_120 dX7_readFirst_11 (gb_kE g6) ?_
  refine gb_iconst (v := (-1 : Int32)) dX7_readFirst_14 (by decide) ?_
  refine gb_icmp_eq (tgt := 22) dX7_readFirst_15 (by decide) (fun c7 => ?_) (fun c7 => ?_)
  · replace hF := gb_ifT c7 hF
    refine gb_iconst (v := (0 : Int32)) dX7_readFirst_22 (by decide) ?_
    exact gb_wk (fbX7_readFirst_23_ok (0 : Int32) h5 r hF) trivial
  · replace hF := gb_ifF c7 hF
    refine gb_iconst (v := (1 : Int32)) dX7_readFirst_18 (by decide) ?_
    refine gb_goto (tgt := 23) dX7_readFirst_19 (by decide) ?_
    exact gb_wk (fbX7_readFirst_23_ok (1 : Int32) h5 r hF) trivial
def fbX7_readSecond_26 (s0 : Int32) (h : gb_H) : Option (Int32 × gb_H) :=
  gb_gd (gb_b s0) <|
  some (s0, h)
theorem fbX7_readSecond_26_ok {X : gb_X} (s0 : Int32) (h : gb_H) (r : Int32 × gb_H) (hF : fbX7_readSecond_26 s0 h = some r) : gb_Ev X 4 mX7_readSecond 26 [none, none] [.int s0] h (gb_wI r) := by
  unfold fbX7_readSecond_26 at hF
  obtain ⟨g1, hF⟩ := gb_gdE hF
  cases hF
  exact gb_zret dX7_readSecond_26 rfl (gb_bE g1)
def fnX7_readSecond (p0 : Nat) (p1 : Nat) (h : gb_H) : Option (Int32 × gb_H) :=
  gb_gd (gb_k h p1 5) <|
  gb_gd (gb_k h p0 7) <|
  gb_bd (fnX7_readPath p0 (0 : Int32) (gb_I h p1 1) h) fun x3 h4 =>
  gb_gd (gb_k h4 p1 5) <|
  gb_lt (gb_sI h4 p1 2 x3) fun h6 =>
  gb_gd (gb_k h6 p1 5) <|
  if (gb_I h6 p1 2) = (-1 : Int32) then
    fbX7_readSecond_26 (0 : Int32) h6
  else
    fbX7_readSecond_26 (1 : Int32) h6
theorem fnX7_readSecond_ok {X : gb_X}  {p0 : Nat} {p1 : Nat} (h : gb_H) (r : Int32 × gb_H) (hF : fnX7_readSecond p0 p1 h = some r) : gb_Ev X 4 mX7_readSecond 0 (gb_L0 [.ref p0, .ref p1]) [] h (gb_wI r) := by
  unfold fnX7_readSecond at hF
  refine gb_weak (L' := [some (.ref p0), some (.ref p1)]) (And.intro rfl (And.intro rfl trivial)) ?_
  refine gb_aload_n dX7_readSecond_0 rfl rfl ?_
  refine gb_aload_n dX7_readSecond_1 rfl rfl ?_
  refine gb_iconst (v := (0 : Int32)) dX7_readSecond_2 (by decide) ?_
  refine gb_aload_n dX7_readSecond_3 rfl rfl ?_
  obtain ⟨g1, hF⟩ := gb_gdE hF
  refine gb_getI fX7_120 dX7_readSecond_4 (gb_kE g1) ?_
  obtain ⟨g2, hF⟩ := gb_gdE hF
  obtain ⟨x3, h4, cx3, hF⟩ := gb_bdE hF
  refine gb_cV (As := [.int (0 : Int32), .int (gb_I h p1 1)]) (S := [.ref p1]) (v := some (.int x3)) (h1 := h4) (S2 := [.int x3, .ref p1]) cf7 dX7_readSecond_7 mtX7_readPath lX7_90 inX7_readPath seX7_readPath (gb_kE g2) (fnX7_readPath_ok _ _ cx3) (by decide) rfl (Nat.le_of_ble_eq_true rfl) (Nat.le_of_ble_eq_true rfl) rfl rfl ?_
  obtain ⟨g5, hF⟩ := gb_gdE hF
  obtain ⟨h6, eh6, hF⟩ := gb_ltE hF
  refine gb_putI fX7_144 (gb_nff nf5_2) dX7_readSecond_10 (gb_kE g5) (fun _ => ⟨rfl, rfl⟩) (gb_hp eh6 ?_)
  refine gb_aload_n dX7_readSecond_13 rfl rfl ?_
  obtain ⟨g7, hF⟩ := gb_gdE hF
  refine gb_getI fX7_144 dX7_readSecond_14 (gb_kE g7) ?_
  refine gb_iconst (v := (-1 : Int32)) dX7_readSecond_17 (by decide) ?_
  refine gb_icmp_eq (tgt := 25) dX7_readSecond_18 (by decide) (fun c8 => ?_) (fun c8 => ?_)
  · replace hF := gb_ifT c8 hF
    refine gb_iconst (v := (0 : Int32)) dX7_readSecond_25 (by decide) ?_
    exact gb_wk (fbX7_readSecond_26_ok (0 : Int32) h6 r hF) trivial
  · replace hF := gb_ifF c8 hF
    refine gb_iconst (v := (1 : Int32)) dX7_readSecond_21 (by decide) ?_
    refine gb_goto (tgt := 26) dX7_readSecond_22 (by decide) ?_
    exact gb_wk (fbX7_readSecond_26_ok (1 : Int32) h6 r hF) trivial
def fbX7_readKind_60 (s0 : Int32) (h : gb_H) : Option (Int32 × gb_H) :=
  gb_gd (gb_b s0) <|
  some (s0, h)
theorem fbX7_readKind_60_ok {X : gb_X} (s0 : Int32) (h : gb_H) (r : Int32 × gb_H) (hF : fbX7_readKind_60 s0 h = some r) : gb_Ev X 8 mX7_readKind 60 [none, none] [.int s0] h (gb_wI r) := by
  unfold fbX7_readKind_60 at hF
  obtain ⟨g1, hF⟩ := gb_gdE hF
  cases hF
  exact gb_zret dX7_readKind_60 rfl (gb_bE g1)
def fbX7_readKind_48 (v1 : Nat) (h : gb_H) : Option (Int32 × gb_H) :=
  gb_gd (gb_k h v1 5) <|
  if (gb_I h v1 3) = 0 then
    fbX7_readKind_60 (0 : Int32) h
  else
    fbX7_readKind_60 (1 : Int32) h
theorem fbX7_readKind_48_ok {X : gb_X} (v1 : Nat) (h : gb_H) (r : Int32 × gb_H) (hF : fbX7_readKind_48 v1 h = some r) : gb_Ev X 8 mX7_readKind 48 [none, some (.ref v1)] [] h (gb_wI r) := by
  unfold fbX7_readKind_48 at hF
  refine gb_aload_n dX7_readKind_48 rfl rfl ?_
  obtain ⟨g1, hF⟩ := gb_gdE hF
  refine gb_getI fX7_149 dX7_readKind_49 (gb_kE g1) ?_
  refine gb_if_eq (tgt := 59) dX7_readKind_52 (by decide) (fun c2 => ?_) (fun c2 => ?_)
  · replace hF := gb_ifT c2 hF
    refine gb_iconst (v := (0 : Int32)) dX7_readKind_59 (by decide) ?_
    exact gb_wk (fbX7_readKind_60_ok (0 : Int32) h r hF) trivial
  · replace hF := gb_ifF c2 hF
    refine gb_iconst (v := (1 : Int32)) dX7_readKind_55 (by decide) ?_
    refine gb_goto (tgt := 60) dX7_readKind_56 (by decide) ?_
    exact gb_wk (fbX7_readKind_60_ok (1 : Int32) h r hF) trivial
def fnX7_readKind (p0 : Nat) (p1 : Nat) (h : gb_H) : Option (Int32 × gb_H) :=
  gb_gd (gb_k h p0 7) <|
  gb_bd (fnX7_take p0 4 h) fun x2 h3 =>
  if x2 = 0 then
    gb_gd (gb_k h3 p0 7) <|
    gb_bd (fnX7_take p0 5 h3) fun x6 h7 =>
    if x6 = 0 then
      gb_gd (gb_k h7 p0 7) <|
      gb_bd (fnX7_take p0 6 h7) fun x10 h11 =>
      if x10 = 0 then
        fbX7_readKind_48 p1 h11
      else
        gb_gd (gb_k h11 p1 5) <|
        gb_lt (gb_sI h11 p1 3 (3 : Int32)) fun h14 =>
        fbX7_readKind_48 p1 h14
    else
      gb_gd (gb_k h7 p1 5) <|
      gb_lt (gb_sI h7 p1 3 (2 : Int32)) fun h16 =>
      fbX7_readKind_48 p1 h16
  else
    gb_gd (gb_k h3 p1 5) <|
    gb_lt (gb_sI h3 p1 3 (1 : Int32)) fun h18 =>
    fbX7_readKind_48 p1 h18
theorem fnX7_readKind_ok {X : gb_X}  {p0 : Nat} {p1 : Nat} (h : gb_H) (r : Int32 × gb_H) (hF : fnX7_readKind p0 p1 h = some r) : gb_Ev X 8 mX7_readKind 0 (gb_L0 [.ref p0, .ref p1]) [] h (gb_wI r) := by
  unfold fnX7_readKind at hF
  refine gb_weak (L' := [some (.ref p0), some (.ref p1)]) (And.intro rfl (And.intro rfl trivial)) ?_
  refine gb_aload_n dX7_readKind_0 rfl rfl ?_
  refine gb_ldcS 4 dX7_readKind_1 rfl (by decide) ?_
  obtain ⟨g1, hF⟩ := gb_gdE hF
  obtain ⟨x2, h3, cx2, hF⟩ := gb_bdE hF
  refine gb_cV (As := [.retAddr 4]) (S := []) (v := some (.int x2)) (h1 := h3) (S2 := [.int x2]) cf7 dX7_readKind_3 mtX7_take lX7_40 inX7_take seX7_take (gb_kE g1) (fnX7_take_ok _ _ cx2) (by decide) rfl (Nat.le_of_ble_eq_true rfl) (Nat.le_of_ble_eq_true rfl) rfl rfl ?_
  refine gb_if_eq (tgt := 17) dX7_readKind_6 (by decide) (fun c4 => ?_) (fun c4 => ?_)
  · replace hF := gb_ifT c4 hF
    refine gb_aload_n dX7_readKind_17 rfl rfl ?_
    refine gb_ldcS 5 dX7_readKind_18 rfl (by decide) ?_
    obtain ⟨g5, hF⟩ := gb_gdE hF
    obtain ⟨x6, h7, cx6, hF⟩ := gb_bdE hF
    refine gb_cV (As := [.retAddr 5]) (S := []) (v := some (.int x6)) (h1 := h7) (S2 := [.int x6]) cf7 dX7_readKind_20 mtX7_take lX7_40 inX7_take seX7_take (gb_kE g5) (fnX7_take_ok _ _ cx6) (by decide) rfl (Nat.le_of_ble_eq_true rfl) (Nat.le_of_ble_eq_true rfl) rfl rfl ?_
    refine gb_if_eq (tgt := 34) dX7_readKind_23 (by decide) (fun c8 => ?_) (fun c8 => ?_)
    · replace hF := gb_ifT c8 hF
      refine gb_aload_n dX7_readKind_34 rfl rfl ?_
      refine gb_ldcS 6 dX7_readKind_35 rfl (by decide) ?_
      obtain ⟨g9, hF⟩ := gb_gdE hF
      obtain ⟨x10, h11, cx10, hF⟩ := gb_bdE hF
      refine gb_cV (As := [.retAddr 6]) (S := []) (v := some (.int x10)) (h1 := h11) (S2 := [.int x10]) cf7 dX7_readKind_37 mtX7_take lX7_40 inX7_take seX7_take (gb_kE g9) (fnX7_take_ok _ _ cx10) (by decide) rfl (Nat.le_of_ble_eq_true rfl) (Nat.le_of_ble_eq_true rfl) rfl rfl ?_
      refine gb_if_eq (tgt := 48) dX7_readKind_40 (by decide) (fun c12 => ?_) (fun c12 => ?_)
      · replace hF := gb_ifT c12 hF
        exact gb_wk (fbX7_readKind_48_ok p1 h11 r hF) (And.intro rfl trivial)
      · replace hF := gb_ifF c12 hF
        refine gb_aload_n dX7_readKind_43 rfl rfl ?_
        refine gb_iconst (v := (3 : Int32)) dX7_readKind_44 (by decide) ?_
        obtain ⟨g13, hF⟩ := gb_gdE hF
        obtain ⟨h14, eh14, hF⟩ := gb_ltE hF
        refine gb_putI fX7_149 (gb_nff nf5_3) dX7_readKind_45 (gb_kE g13) (fun _ => ⟨rfl, rfl⟩) (gb_hp eh14 ?_)
        exact gb_wk (fbX7_readKind_48_ok p1 h14 r hF) (And.intro rfl trivial)
    · replace hF := gb_ifF c8 hF
      refine gb_aload_n dX7_readKind_26 rfl rfl ?_
      refine gb_iconst (v := (2 : Int32)) dX7_readKind_27 (by decide) ?_
      obtain ⟨g15, hF⟩ := gb_gdE hF
      obtain ⟨h16, eh16, hF⟩ := gb_ltE hF
      refine gb_putI fX7_149 (gb_nff nf5_3) dX7_readKind_28 (gb_kE g15) (fun _ => ⟨rfl, rfl⟩) (gb_hp eh16 ?_)
      refine gb_goto (tgt := 48) dX7_readKind_31 (by decide) ?_
      exact gb_wk (fbX7_readKind_48_ok p1 h16 r hF) (And.intro rfl trivial)
  · replace hF := gb_ifF c4 hF
    refine gb_aload_n dX7_readKind_9 rfl rfl ?_
    refine gb_iconst (v := (1 : Int32)) dX7_readKind_10 (by decide) ?_
    obtain ⟨g17, hF⟩ := gb_gdE hF
    obtain ⟨h18, eh18, hF⟩ := gb_ltE hF
    refine gb_putI fX7_149 (gb_nff nf5_3) dX7_readKind_11 (gb_kE g17) (fun _ => ⟨rfl, rfl⟩) (gb_hp eh18 ?_)
    refine gb_goto (tgt := 48) dX7_readKind_14 (by decide) ?_
    exact gb_wk (fbX7_readKind_48_ok p1 h18 r hF) (And.intro rfl trivial)
def fbX7_readShift_50 (s0 : Int32) (h : gb_H) : Option (Int32 × gb_H) :=
  gb_gd (gb_b s0) <|
  some (s0, h)
theorem fbX7_readShift_50_ok {X : gb_X} (s0 : Int32) (h : gb_H) (r : Int32 × gb_H) (hF : fbX7_readShift_50 s0 h = some r) : gb_Ev X 8 mX7_readShift 50 [none, none] [.int s0] h (gb_wI r) := by
  unfold fbX7_readShift_50 at hF
  obtain ⟨g1, hF⟩ := gb_gdE hF
  cases hF
  exact gb_zret dX7_readShift_50 rfl (gb_bE g1)
def fbX7_readShift_28 (v0 : Nat) (v1 : Nat) (h : gb_H) : Option (Int32 × gb_H) :=
  gb_gd (gb_k h v0 7) <|
  gb_bd (fnX7_readNumber v0 (3 : Int32) h) fun x2 h3 =>
  gb_gd (gb_k h3 v1 5) <|
  gb_lt (gb_sI h3 v1 5 x2) fun h5 =>
  gb_gd (gb_k h5 v1 5) <|
  if (gb_I h5 v1 5) = (-1 : Int32) then
    fbX7_readShift_50 (0 : Int32) h5
  else
    fbX7_readShift_50 (1 : Int32) h5
theorem fbX7_readShift_28_ok {X : gb_X} (v0 : Nat) (v1 : Nat) (h : gb_H) (r : Int32 × gb_H) (hF : fbX7_readShift_28 v0 v1 h = some r) : gb_Ev X 8 mX7_readShift 28 [some (.ref v0), some (.ref v1)] [] h (gb_wI r) := by
  unfold fbX7_readShift_28 at hF
  refine gb_aload_n dX7_readShift_28 rfl rfl ?_
  refine gb_aload_n dX7_readShift_29 rfl rfl ?_
  refine gb_iconst (v := (3 : Int32)) dX7_readShift_30 (by decide) ?_
  obtain ⟨g1, hF⟩ := gb_gdE hF
  obtain ⟨x2, h3, cx2, hF⟩ := gb_bdE hF
  refine gb_cV (As := [.int (3 : Int32)]) (S := [.ref v1]) (v := some (.int x2)) (h1 := h3) (S2 := [.int x2, .ref v1]) cf7 dX7_readShift_31 mtX7_readNumber lX7_99 inX7_readNumber seX7_readNumber (gb_kE g1) (fnX7_readNumber_ok _ _ cx2) (by decide) rfl (Nat.le_of_ble_eq_true rfl) (Nat.le_of_ble_eq_true rfl) rfl rfl ?_
  obtain ⟨g4, hF⟩ := gb_gdE hF
  obtain ⟨h5, eh5, hF⟩ := gb_ltE hF
  refine gb_putI fX7_141 (gb_nff nf5_5) dX7_readShift_34 (gb_kE g4) (fun _ => ⟨rfl, rfl⟩) (gb_hp eh5 ?_)
  refine gb_aload_n dX7_readShift_37 rfl rfl ?_
  obtain ⟨g6, hF⟩ := gb_gdE hF
  refine gb_getI fX7_141 dX7_readShift_38 (gb_kE g6) ?_
  refine gb_iconst (v := (-1 : Int32)) dX7_readShift_41 (by decide) ?_
  refine gb_icmp_eq (tgt := 49) dX7_readShift_42 (by decide) (fun c7 => ?_) (fun c7 => ?_)
  · replace hF := gb_ifT c7 hF
    refine gb_iconst (v := (0 : Int32)) dX7_readShift_49 (by decide) ?_
    exact gb_wk (fbX7_readShift_50_ok (0 : Int32) h5 r hF) trivial
  · replace hF := gb_ifF c7 hF
    refine gb_iconst (v := (1 : Int32)) dX7_readShift_45 (by decide) ?_
    refine gb_goto (tgt := 50) dX7_readShift_46 (by decide) ?_
    exact gb_wk (fbX7_readShift_50_ok (1 : Int32) h5 r hF) trivial
def fnX7_readShift (p0 : Nat) (p1 : Nat) (h : gb_H) : Option (Int32 × gb_H) :=
  gb_gd (gb_k h p0 7) <|
  gb_bd (fnX7_take p0 9 h) fun x2 h3 =>
  if x2 = 0 then
    fbX7_readShift_28 p0 p1 h3
  else
    gb_gd (gb_k h3 p0 7) <|
    gb_bd (fnX7_readNumber p0 (1 : Int32) h3) fun x6 h7 =>
    gb_gd (gb_k h7 p1 5) <|
    gb_lt (gb_sI h7 p1 4 x6) fun h9 =>
    gb_gd (gb_k h9 p1 5) <|
    if (gb_I h9 p1 4) = (-1 : Int32) then
      some ((0 : Int32), h9)
    else
      fbX7_readShift_28 p0 p1 h9
theorem fnX7_readShift_ok {X : gb_X}  {p0 : Nat} {p1 : Nat} (h : gb_H) (r : Int32 × gb_H) (hF : fnX7_readShift p0 p1 h = some r) : gb_Ev X 8 mX7_readShift 0 (gb_L0 [.ref p0, .ref p1]) [] h (gb_wI r) := by
  unfold fnX7_readShift at hF
  refine gb_weak (L' := [some (.ref p0), some (.ref p1)]) (And.intro rfl (And.intro rfl trivial)) ?_
  refine gb_aload_n dX7_readShift_0 rfl rfl ?_
  refine gb_ldcS 9 dX7_readShift_1 rfl (by decide) ?_
  obtain ⟨g1, hF⟩ := gb_gdE hF
  obtain ⟨x2, h3, cx2, hF⟩ := gb_bdE hF
  refine gb_cV (As := [.retAddr 9]) (S := []) (v := some (.int x2)) (h1 := h3) (S2 := [.int x2]) cf7 dX7_readShift_3 mtX7_take lX7_40 inX7_take seX7_take (gb_kE g1) (fnX7_take_ok _ _ cx2) (by decide) rfl (Nat.le_of_ble_eq_true rfl) (Nat.le_of_ble_eq_true rfl) rfl rfl ?_
  refine gb_if_eq (tgt := 28) dX7_readShift_6 (by decide) (fun c4 => ?_) (fun c4 => ?_)
  · replace hF := gb_ifT c4 hF
    exact gb_wk (fbX7_readShift_28_ok p0 p1 h3 r hF) (And.intro rfl (And.intro rfl trivial))
  · replace hF := gb_ifF c4 hF
    refine gb_aload_n dX7_readShift_9 rfl rfl ?_
    refine gb_aload_n dX7_readShift_10 rfl rfl ?_
    refine gb_iconst (v := (1 : Int32)) dX7_readShift_11 (by decide) ?_
    obtain ⟨g5, hF⟩ := gb_gdE hF
    obtain ⟨x6, h7, cx6, hF⟩ := gb_bdE hF
    refine gb_cV (As := [.int (1 : Int32)]) (S := [.ref p1]) (v := some (.int x6)) (h1 := h7) (S2 := [.int x6, .ref p1]) cf7 dX7_readShift_12 mtX7_readNumber lX7_99 inX7_readNumber seX7_readNumber (gb_kE g5) (fnX7_readNumber_ok _ _ cx6) (by decide) rfl (Nat.le_of_ble_eq_true rfl) (Nat.le_of_ble_eq_true rfl) rfl rfl ?_
    obtain ⟨g8, hF⟩ := gb_gdE hF
    obtain ⟨h9, eh9, hF⟩ := gb_ltE hF
    refine gb_putI fX7_139 (gb_nff nf5_4) dX7_readShift_15 (gb_kE g8) (fun _ => ⟨rfl, rfl⟩) (gb_hp eh9 ?_)
    refine gb_aload_n dX7_readShift_18 rfl rfl ?_
    obtain ⟨g10, hF⟩ := gb_gdE hF
    refine gb_getI fX7_139 dX7_readShift_19 (gb_kE g10) ?_
    refine gb_iconst (v := (-1 : Int32)) dX7_readShift_22 (by decide) ?_
    refine gb_icmp_ne (tgt := 28) dX7_readShift_23 (by decide) (fun c11 => ?_) (fun c11 => ?_)
    · replace hF := gb_ifF c11 hF
      exact gb_wk (fbX7_readShift_28_ok p0 p1 h9 r hF) (And.intro rfl (And.intro rfl trivial))
    · replace hF := gb_ifT c11 hF
      refine gb_iconst (v := (0 : Int32)) dX7_readShift_26 (by decide) ?_
      cases hF
      exact gb_zret dX7_readShift_27 rfl (by decide)
def fbX7_readDeed_43 (s0 : Int32) (h : gb_H) : Option (Int32 × gb_H) :=
  gb_gd (gb_b s0) <|
  some (s0, h)
theorem fbX7_readDeed_43_ok {X : gb_X} (s0 : Int32) (h : gb_H) (r : Int32 × gb_H) (hF : fbX7_readDeed_43 s0 h = some r) : gb_Ev X 9 mX7_readDeed 43 [none, none] [.int s0] h (gb_wI r) := by
  unfold fbX7_readDeed_43 at hF
  obtain ⟨g1, hF⟩ := gb_gdE hF
  cases hF
  exact gb_zret dX7_readDeed_43 rfl (gb_bE g1)
def fbX7_readDeed_42 (h : gb_H) : Option (Int32 × gb_H) :=
  fbX7_readDeed_43 (0 : Int32) h
theorem fbX7_readDeed_42_ok {X : gb_X} (h : gb_H) (r : Int32 × gb_H) (hF : fbX7_readDeed_42 h = some r) : gb_Ev X 9 mX7_readDeed 42 [none, none] [] h (gb_wI r) := by
  unfold fbX7_readDeed_42 at hF
  refine gb_iconst (v := (0 : Int32)) dX7_readDeed_42 (by decide) ?_
  exact gb_wk (fbX7_readDeed_43_ok (0 : Int32) h r hF) trivial
def fbX7_readDeed_79 (s0 : Int32) (h : gb_H) : Option (Int32 × gb_H) :=
  gb_gd (gb_b s0) <|
  some (s0, h)
theorem fbX7_readDeed_79_ok {X : gb_X} (s0 : Int32) (h : gb_H) (r : Int32 × gb_H) (hF : fbX7_readDeed_79 s0 h = some r) : gb_Ev X 9 mX7_readDeed 79 [none, none] [.int s0] h (gb_wI r) := by
  unfold fbX7_readDeed_79 at hF
  obtain ⟨g1, hF⟩ := gb_gdE hF
  cases hF
  exact gb_zret dX7_readDeed_79 rfl (gb_bE g1)
def fbX7_readDeed_78 (h : gb_H) : Option (Int32 × gb_H) :=
  fbX7_readDeed_79 (0 : Int32) h
theorem fbX7_readDeed_78_ok {X : gb_X} (h : gb_H) (r : Int32 × gb_H) (hF : fbX7_readDeed_78 h = some r) : gb_Ev X 9 mX7_readDeed 78 [none, none] [] h (gb_wI r) := by
  unfold fbX7_readDeed_78 at hF
  refine gb_iconst (v := (0 : Int32)) dX7_readDeed_78 (by decide) ?_
  exact gb_wk (fbX7_readDeed_79_ok (0 : Int32) h r hF) trivial
def fbX7_readDeed_115 (s0 : Int32) (h : gb_H) : Option (Int32 × gb_H) :=
  gb_gd (gb_b s0) <|
  some (s0, h)
theorem fbX7_readDeed_115_ok {X : gb_X} (s0 : Int32) (h : gb_H) (r : Int32 × gb_H) (hF : fbX7_readDeed_115 s0 h = some r) : gb_Ev X 9 mX7_readDeed 115 [none, none] [.int s0] h (gb_wI r) := by
  unfold fbX7_readDeed_115 at hF
  obtain ⟨g1, hF⟩ := gb_gdE hF
  cases hF
  exact gb_zret dX7_readDeed_115 rfl (gb_bE g1)
def fbX7_readDeed_114 (h : gb_H) : Option (Int32 × gb_H) :=
  fbX7_readDeed_115 (0 : Int32) h
theorem fbX7_readDeed_114_ok {X : gb_X} (h : gb_H) (r : Int32 × gb_H) (hF : fbX7_readDeed_114 h = some r) : gb_Ev X 9 mX7_readDeed 114 [none, none] [] h (gb_wI r) := by
  unfold fbX7_readDeed_114 at hF
  refine gb_iconst (v := (0 : Int32)) dX7_readDeed_114 (by decide) ?_
  exact gb_wk (fbX7_readDeed_115_ok (0 : Int32) h r hF) trivial
def fbX7_readDeed_151 (s0 : Int32) (h : gb_H) : Option (Int32 × gb_H) :=
  gb_gd (gb_b s0) <|
  some (s0, h)
theorem fbX7_readDeed_151_ok {X : gb_X} (s0 : Int32) (h : gb_H) (r : Int32 × gb_H) (hF : fbX7_readDeed_151 s0 h = some r) : gb_Ev X 9 mX7_readDeed 151 [none, none] [.int s0] h (gb_wI r) := by
  unfold fbX7_readDeed_151 at hF
  obtain ⟨g1, hF⟩ := gb_gdE hF
  cases hF
  exact gb_zret dX7_readDeed_151 rfl (gb_bE g1)
def fbX7_readDeed_150 (h : gb_H) : Option (Int32 × gb_H) :=
  fbX7_readDeed_151 (0 : Int32) h
theorem fbX7_readDeed_150_ok {X : gb_X} (h : gb_H) (r : Int32 × gb_H) (hF : fbX7_readDeed_150 h = some r) : gb_Ev X 9 mX7_readDeed 150 [none, none] [] h (gb_wI r) := by
  unfold fbX7_readDeed_150 at hF
  refine gb_iconst (v := (0 : Int32)) dX7_readDeed_150 (by decide) ?_
  exact gb_wk (fbX7_readDeed_151_ok (0 : Int32) h r hF) trivial
def fnX7_readDeed (p0 : Nat) (p1 : Nat) (h : gb_H) : Option (Int32 × gb_H) :=
  gb_gd (gb_k h p0 7) <|
  gb_bd (fnX7_take p0 3 h) fun x2 h3 =>
  if x2 = 0 then
    gb_gd (gb_k h3 p0 7) <|
    gb_bd (fnX7_take p0 7 h3) fun x6 h7 =>
    if x6 = 0 then
      gb_gd (gb_k h7 p0 7) <|
      gb_bd (fnX7_take p0 8 h7) fun x10 h11 =>
      if x10 = 0 then
        gb_gd (gb_k h11 p0 7) <|
        gb_bd (fnX7_take p0 10 h11) fun x14 h15 =>
        if x14 = 0 then
          some ((0 : Int32), h15)
        else
          gb_gd (gb_k h15 p1 5) <|
          gb_lt (gb_sI h15 p1 0 (3 : Int32)) fun h18 =>
          gb_gd (gb_k h18 p0 7) <|
          gb_bd (fnX7_readFirst p0 p1 h18) fun x20 h21 =>
          if x20 = 0 then
            fbX7_readDeed_150 h21
          else
            gb_gd (gb_k h21 p0 7) <|
            gb_bd (fnX7_readSecond p0 p1 h21) fun x24 h25 =>
            if x24 = 0 then
              fbX7_readDeed_150 h25
            else
              fbX7_readDeed_151 (1 : Int32) h25
      else
        gb_gd (gb_k h11 p1 5) <|
        gb_lt (gb_sI h11 p1 0 (2 : Int32)) fun h28 =>
        gb_gd (gb_k h28 p0 7) <|
        gb_bd (fnX7_readFirst p0 p1 h28) fun x30 h31 =>
        if x30 = 0 then
          fbX7_readDeed_114 h31
        else
          gb_gd (gb_k h31 p0 7) <|
          gb_bd (fnX7_readShift p0 p1 h31) fun x34 h35 =>
          if x34 = 0 then
            fbX7_readDeed_114 h35
          else
            fbX7_readDeed_115 (1 : Int32) h35
    else
      gb_gd (gb_k h7 p1 5) <|
      gb_lt (gb_sI h7 p1 0 (1 : Int32)) fun h38 =>
      gb_gd (gb_k h38 p0 7) <|
      gb_bd (fnX7_readFirst p0 p1 h38) fun x40 h41 =>
      if x40 = 0 then
        fbX7_readDeed_78 h41
      else
        gb_gd (gb_k h41 p0 7) <|
        gb_bd (fnX7_readKind p0 p1 h41) fun x44 h45 =>
        if x44 = 0 then
          fbX7_readDeed_78 h45
        else
          fbX7_readDeed_79 (1 : Int32) h45
  else
    gb_gd (gb_k h3 p1 5) <|
    gb_lt (gb_sI h3 p1 0 (0 : Int32)) fun h48 =>
    gb_gd (gb_k h48 p0 7) <|
    gb_bd (fnX7_readFirst p0 p1 h48) fun x50 h51 =>
    if x50 = 0 then
      fbX7_readDeed_42 h51
    else
      gb_gd (gb_k h51 p0 7) <|
      gb_bd (fnX7_readSecond p0 p1 h51) fun x54 h55 =>
      if x54 = 0 then
        fbX7_readDeed_42 h55
      else
        gb_gd (gb_k h55 p0 7) <|
        gb_bd (fnX7_readKind p0 p1 h55) fun x58 h59 =>
        if x58 = 0 then
          fbX7_readDeed_42 h59
        else
          fbX7_readDeed_43 (1 : Int32) h59
theorem fnX7_readDeed_ok {X : gb_X}  {p0 : Nat} {p1 : Nat} (h : gb_H) (r : Int32 × gb_H) (hF : fnX7_readDeed p0 p1 h = some r) : gb_Ev X 9 mX7_readDeed 0 (gb_L0 [.ref p0, .ref p1]) [] h (gb_wI r) := by
  unfold fnX7_readDeed at hF
  refine gb_weak (L' := [some (.ref p0), some (.ref p1)]) (And.intro rfl (And.intro rfl trivial)) ?_
  refine gb_aload_n dX7_readDeed_0 rfl rfl ?_
  refine gb_ldcS 3 dX7_readDeed_1 rfl (by decide) ?_
  obtain ⟨g1, hF⟩ := gb_gdE hF
  obtain ⟨x2, h3, cx2, hF⟩ := gb_bdE hF
  refine gb_cV (As := [.retAddr 3]) (S := []) (v := some (.int x2)) (h1 := h3) (S2 := [.int x2]) cf7 dX7_readDeed_3 mtX7_take lX7_40 inX7_take seX7_take (gb_kE g1) (fnX7_take_ok _ _ cx2) (by decide) rfl (Nat.le_of_ble_eq_true rfl) (Nat.le_of_ble_eq_true rfl) rfl rfl ?_
  refine gb_if_eq (tgt := 44) dX7_readDeed_6 (by decide) (fun c4 => ?_) (fun c4 => ?_)
  · replace hF := gb_ifT c4 hF
    refine gb_aload_n dX7_readDeed_44 rfl rfl ?_
    refine gb_ldcS 7 dX7_readDeed_45 rfl (by decide) ?_
    obtain ⟨g5, hF⟩ := gb_gdE hF
    obtain ⟨x6, h7, cx6, hF⟩ := gb_bdE hF
    refine gb_cV (As := [.retAddr 7]) (S := []) (v := some (.int x6)) (h1 := h7) (S2 := [.int x6]) cf7 dX7_readDeed_47 mtX7_take lX7_40 inX7_take seX7_take (gb_kE g5) (fnX7_take_ok _ _ cx6) (by decide) rfl (Nat.le_of_ble_eq_true rfl) (Nat.le_of_ble_eq_true rfl) rfl rfl ?_
    refine gb_if_eq (tgt := 80) dX7_readDeed_50 (by decide) (fun c8 => ?_) (fun c8 => ?_)
    · replace hF := gb_ifT c8 hF
      refine gb_aload_n dX7_readDeed_80 rfl rfl ?_
      refine gb_ldcS 8 dX7_readDeed_81 rfl (by decide) ?_
      obtain ⟨g9, hF⟩ := gb_gdE hF
      obtain ⟨x10, h11, cx10, hF⟩ := gb_bdE hF
      refine gb_cV (As := [.retAddr 8]) (S := []) (v := some (.int x10)) (h1 := h11) (S2 := [.int x10]) cf7 dX7_readDeed_83 mtX7_take lX7_40 inX7_take seX7_take (gb_kE g9) (fnX7_take_ok _ _ cx10) (by decide) rfl (Nat.le_of_ble_eq_true rfl) (Nat.le_of_ble_eq_true rfl) rfl rfl ?_
      refine gb_if_eq (tgt := 116) dX7_readDeed_86 (by decide) (fun c12 => ?_) (fun c12 => ?_)
      · replace hF := gb_ifT c12 hF
        refine gb_aload_n dX7_readDeed_116 rfl rfl ?_
        refine gb_ldcS 10 dX7_readDeed_117 rfl (by decide) ?_
        obtain ⟨g13, hF⟩ := gb_gdE hF
        obtain ⟨x14, h15, cx14, hF⟩ := gb_bdE hF
        refine gb_cV (As := [.retAddr 10]) (S := []) (v := some (.int x14)) (h1 := h15) (S2 := [.int x14]) cf7 dX7_readDeed_119 mtX7_take lX7_40 inX7_take seX7_take (gb_kE g13) (fnX7_take_ok _ _ cx14) (by decide) rfl (Nat.le_of_ble_eq_true rfl) (Nat.le_of_ble_eq_true rfl) rfl rfl ?_
        refine gb_if_eq (tgt := 152) dX7_readDeed_122 (by decide) (fun c16 => ?_) (fun c16 => ?_)
        · replace hF := gb_ifT c16 hF
          refine gb_iconst (v := (0 : Int32)) dX7_readDeed_152 (by decide) ?_
          cases hF
          exact gb_zret dX7_readDeed_153 rfl (by decide)
        · replace hF := gb_ifF c16 hF
          refine gb_aload_n dX7_readDeed_125 rfl rfl ?_
          refine gb_iconst (v := (3 : Int32)) dX7_readDeed_126 (by decide) ?_
          obtain ⟨g17, hF⟩ := gb_gdE hF
          obtain ⟨h18, eh18, hF⟩ := gb_ltE hF
          refine gb_putI fX7_108 (gb_nff nf5_0) dX7_readDeed_127 (gb_kE g17) (fun _ => ⟨rfl, rfl⟩) (gb_hp eh18 ?_)
          refine gb_aload_n dX7_readDeed_130 rfl rfl ?_
          refine gb_aload_n dX7_readDeed_131 rfl rfl ?_
          obtain ⟨g19, hF⟩ := gb_gdE hF
          obtain ⟨x20, h21, cx20, hF⟩ := gb_bdE hF
          refine gb_cV (As := [.ref p1]) (S := []) (v := some (.int x20)) (h1 := h21) (S2 := [.int x20]) cf7 dX7_readDeed_132 mtX7_readFirst lX7_114 inX7_readFirst seX7_readFirst (gb_kE g19) (fnX7_readFirst_ok _ _ cx20) (by decide) rfl (Nat.le_of_ble_eq_true rfl) (Nat.le_of_ble_eq_true rfl) rfl rfl ?_
          refine gb_if_eq (tgt := 150) dX7_readDeed_135 (by decide) (fun c22 => ?_) (fun c22 => ?_)
          · replace hF := gb_ifT c22 hF
            exact gb_wk (fbX7_readDeed_150_ok h21 r hF) trivial
          · replace hF := gb_ifF c22 hF
            refine gb_aload_n dX7_readDeed_138 rfl rfl ?_
            refine gb_aload_n dX7_readDeed_139 rfl rfl ?_
            obtain ⟨g23, hF⟩ := gb_gdE hF
            obtain ⟨x24, h25, cx24, hF⟩ := gb_bdE hF
            refine gb_cV (As := [.ref p1]) (S := []) (v := some (.int x24)) (h1 := h25) (S2 := [.int x24]) cf7 dX7_readDeed_140 mtX7_readSecond lX7_125 inX7_readSecond seX7_readSecond (gb_kE g23) (fnX7_readSecond_ok _ _ cx24) (by decide) rfl (Nat.le_of_ble_eq_true rfl) (Nat.le_of_ble_eq_true rfl) rfl rfl ?_
            refine gb_if_eq (tgt := 150) dX7_readDeed_143 (by decide) (fun c26 => ?_) (fun c26 => ?_)
            · replace hF := gb_ifT c26 hF
              exact gb_wk (fbX7_readDeed_150_ok h25 r hF) trivial
            · replace hF := gb_ifF c26 hF
              refine gb_iconst (v := (1 : Int32)) dX7_readDeed_146 (by decide) ?_
              refine gb_goto (tgt := 151) dX7_readDeed_147 (by decide) ?_
              exact gb_wk (fbX7_readDeed_151_ok (1 : Int32) h25 r hF) trivial
      · replace hF := gb_ifF c12 hF
        refine gb_aload_n dX7_readDeed_89 rfl rfl ?_
        refine gb_iconst (v := (2 : Int32)) dX7_readDeed_90 (by decide) ?_
        obtain ⟨g27, hF⟩ := gb_gdE hF
        obtain ⟨h28, eh28, hF⟩ := gb_ltE hF
        refine gb_putI fX7_108 (gb_nff nf5_0) dX7_readDeed_91 (gb_kE g27) (fun _ => ⟨rfl, rfl⟩) (gb_hp eh28 ?_)
        refine gb_aload_n dX7_readDeed_94 rfl rfl ?_
        refine gb_aload_n dX7_readDeed_95 rfl rfl ?_
        obtain ⟨g29, hF⟩ := gb_gdE hF
        obtain ⟨x30, h31, cx30, hF⟩ := gb_bdE hF
        refine gb_cV (As := [.ref p1]) (S := []) (v := some (.int x30)) (h1 := h31) (S2 := [.int x30]) cf7 dX7_readDeed_96 mtX7_readFirst lX7_114 inX7_readFirst seX7_readFirst (gb_kE g29) (fnX7_readFirst_ok _ _ cx30) (by decide) rfl (Nat.le_of_ble_eq_true rfl) (Nat.le_of_ble_eq_true rfl) rfl rfl ?_
        refine gb_if_eq (tgt := 114) dX7_readDeed_99 (by decide) (fun c32 => ?_) (fun c32 => ?_)
        · replace hF := gb_ifT c32 hF
          exact gb_wk (fbX7_readDeed_114_ok h31 r hF) trivial
        · replace hF := gb_ifF c32 hF
          refine gb_aload_n dX7_readDeed_102 rfl rfl ?_
          refine gb_aload_n dX7_readDeed_103 rfl rfl ?_
          obtain ⟨g33, hF⟩ := gb_gdE hF
          obtain ⟨x34, h35, cx34, hF⟩ := gb_bdE hF
          refine gb_cV (As := [.ref p1]) (S := []) (v := some (.int x34)) (h1 := h35) (S2 := [.int x34]) cf7 dX7_readDeed_104 mtX7_readShift lX7_132 inX7_readShift seX7_readShift (gb_kE g33) (fnX7_readShift_ok _ _ cx34) (by decide) rfl (Nat.le_of_ble_eq_true rfl) (Nat.le_of_ble_eq_true rfl) rfl rfl ?_
          refine gb_if_eq (tgt := 114) dX7_readDeed_107 (by decide) (fun c36 => ?_) (fun c36 => ?_)
          · replace hF := gb_ifT c36 hF
            exact gb_wk (fbX7_readDeed_114_ok h35 r hF) trivial
          · replace hF := gb_ifF c36 hF
            refine gb_iconst (v := (1 : Int32)) dX7_readDeed_110 (by decide) ?_
            refine gb_goto (tgt := 115) dX7_readDeed_111 (by decide) ?_
            exact gb_wk (fbX7_readDeed_115_ok (1 : Int32) h35 r hF) trivial
    · replace hF := gb_ifF c8 hF
      refine gb_aload_n dX7_readDeed_53 rfl rfl ?_
      refine gb_iconst (v := (1 : Int32)) dX7_readDeed_54 (by decide) ?_
      obtain ⟨g37, hF⟩ := gb_gdE hF
      obtain ⟨h38, eh38, hF⟩ := gb_ltE hF
      refine gb_putI fX7_108 (gb_nff nf5_0) dX7_readDeed_55 (gb_kE g37) (fun _ => ⟨rfl, rfl⟩) (gb_hp eh38 ?_)
      refine gb_aload_n dX7_readDeed_58 rfl rfl ?_
      refine gb_aload_n dX7_readDeed_59 rfl rfl ?_
      obtain ⟨g39, hF⟩ := gb_gdE hF
      obtain ⟨x40, h41, cx40, hF⟩ := gb_bdE hF
      refine gb_cV (As := [.ref p1]) (S := []) (v := some (.int x40)) (h1 := h41) (S2 := [.int x40]) cf7 dX7_readDeed_60 mtX7_readFirst lX7_114 inX7_readFirst seX7_readFirst (gb_kE g39) (fnX7_readFirst_ok _ _ cx40) (by decide) rfl (Nat.le_of_ble_eq_true rfl) (Nat.le_of_ble_eq_true rfl) rfl rfl ?_
      refine gb_if_eq (tgt := 78) dX7_readDeed_63 (by decide) (fun c42 => ?_) (fun c42 => ?_)
      · replace hF := gb_ifT c42 hF
        exact gb_wk (fbX7_readDeed_78_ok h41 r hF) trivial
      · replace hF := gb_ifF c42 hF
        refine gb_aload_n dX7_readDeed_66 rfl rfl ?_
        refine gb_aload_n dX7_readDeed_67 rfl rfl ?_
        obtain ⟨g43, hF⟩ := gb_gdE hF
        obtain ⟨x44, h45, cx44, hF⟩ := gb_bdE hF
        refine gb_cV (As := [.ref p1]) (S := []) (v := some (.int x44)) (h1 := h45) (S2 := [.int x44]) cf7 dX7_readDeed_68 mtX7_readKind lX7_117 inX7_readKind seX7_readKind (gb_kE g43) (fnX7_readKind_ok _ _ cx44) (by decide) rfl (Nat.le_of_ble_eq_true rfl) (Nat.le_of_ble_eq_true rfl) rfl rfl ?_
        refine gb_if_eq (tgt := 78) dX7_readDeed_71 (by decide) (fun c46 => ?_) (fun c46 => ?_)
        · replace hF := gb_ifT c46 hF
          exact gb_wk (fbX7_readDeed_78_ok h45 r hF) trivial
        · replace hF := gb_ifF c46 hF
          refine gb_iconst (v := (1 : Int32)) dX7_readDeed_74 (by decide) ?_
          refine gb_goto (tgt := 79) dX7_readDeed_75 (by decide) ?_
          exact gb_wk (fbX7_readDeed_79_ok (1 : Int32) h45 r hF) trivial
  · replace hF := gb_ifF c4 hF
    refine gb_aload_n dX7_readDeed_9 rfl rfl ?_
    refine gb_iconst (v := (0 : Int32)) dX7_readDeed_10 (by decide) ?_
    obtain ⟨g47, hF⟩ := gb_gdE hF
    obtain ⟨h48, eh48, hF⟩ := gb_ltE hF
    refine gb_putI fX7_108 (gb_nff nf5_0) dX7_readDeed_11 (gb_kE g47) (fun _ => ⟨rfl, rfl⟩) (gb_hp eh48 ?_)
    refine gb_aload_n dX7_readDeed_14 rfl rfl ?_
    refine gb_aload_n dX7_readDeed_15 rfl rfl ?_
    obtain ⟨g49, hF⟩ := gb_gdE hF
    obtain ⟨x50, h51, cx50, hF⟩ := gb_bdE hF
    refine gb_cV (As := [.ref p1]) (S := []) (v := some (.int x50)) (h1 := h51) (S2 := [.int x50]) cf7 dX7_readDeed_16 mtX7_readFirst lX7_114 inX7_readFirst seX7_readFirst (gb_kE g49) (fnX7_readFirst_ok _ _ cx50) (by decide) rfl (Nat.le_of_ble_eq_true rfl) (Nat.le_of_ble_eq_true rfl) rfl rfl ?_
    refine gb_if_eq (tgt := 42) dX7_readDeed_19 (by decide) (fun c52 => ?_) (fun c52 => ?_)
    · replace hF := gb_ifT c52 hF
      exact gb_wk (fbX7_readDeed_42_ok h51 r hF) trivial
    · replace hF := gb_ifF c52 hF
      refine gb_aload_n dX7_readDeed_22 rfl rfl ?_
      refine gb_aload_n dX7_readDeed_23 rfl rfl ?_
      obtain ⟨g53, hF⟩ := gb_gdE hF
      obtain ⟨x54, h55, cx54, hF⟩ := gb_bdE hF
      refine gb_cV (As := [.ref p1]) (S := []) (v := some (.int x54)) (h1 := h55) (S2 := [.int x54]) cf7 dX7_readDeed_24 mtX7_readSecond lX7_125 inX7_readSecond seX7_readSecond (gb_kE g53) (fnX7_readSecond_ok _ _ cx54) (by decide) rfl (Nat.le_of_ble_eq_true rfl) (Nat.le_of_ble_eq_true rfl) rfl rfl ?_
      refine gb_if_eq (tgt := 42) dX7_readDeed_27 (by decide) (fun c56 => ?_) (fun c56 => ?_)
      · replace hF := gb_ifT c56 hF
        exact gb_wk (fbX7_readDeed_42_ok h55 r hF) trivial
      · replace hF := gb_ifF c56 hF
        refine gb_aload_n dX7_readDeed_30 rfl rfl ?_
        refine gb_aload_n dX7_readDeed_31 rfl rfl ?_
        obtain ⟨g57, hF⟩ := gb_gdE hF
        obtain ⟨x58, h59, cx58, hF⟩ := gb_bdE hF
        refine gb_cV (As := [.ref p1]) (S := []) (v := some (.int x58)) (h1 := h59) (S2 := [.int x58]) cf7 dX7_readDeed_32 mtX7_readKind lX7_117 inX7_readKind seX7_readKind (gb_kE g57) (fnX7_readKind_ok _ _ cx58) (by decide) rfl (Nat.le_of_ble_eq_true rfl) (Nat.le_of_ble_eq_true rfl) rfl rfl ?_
        refine gb_if_eq (tgt := 42) dX7_readDeed_35 (by decide) (fun c60 => ?_) (fun c60 => ?_)
        · replace hF := gb_ifT c60 hF
          exact gb_wk (fbX7_readDeed_42_ok h59 r hF) trivial
        · replace hF := gb_ifF c60 hF
          refine gb_iconst (v := (1 : Int32)) dX7_readDeed_38 (by decide) ?_
          refine gb_goto (tgt := 43) dX7_readDeed_39 (by decide) ?_
          exact gb_wk (fbX7_readDeed_43_ok (1 : Int32) h59 r hF) trivial
def fbX7_readLoss_58 (s0 : Int32) (h : gb_H) : Option (Int32 × gb_H) :=
  gb_gd (gb_b s0) <|
  some (s0, h)
theorem fbX7_readLoss_58_ok {X : gb_X} (s0 : Int32) (h : gb_H) (r : Int32 × gb_H) (hF : fbX7_readLoss_58 s0 h = some r) : gb_Ev X 9 mX7_readLoss 58 [none, none] [.int s0] h (gb_wI r) := by
  unfold fbX7_readLoss_58 at hF
  obtain ⟨g1, hF⟩ := gb_gdE hF
  cases hF
  exact gb_zret dX7_readLoss_58 rfl (gb_bE g1)
def fbX7_readLoss_57 (h : gb_H) : Option (Int32 × gb_H) :=
  fbX7_readLoss_58 (0 : Int32) h
theorem fbX7_readLoss_57_ok {X : gb_X} (h : gb_H) (r : Int32 × gb_H) (hF : fbX7_readLoss_57 h = some r) : gb_Ev X 9 mX7_readLoss 57 [none, none] [] h (gb_wI r) := by
  unfold fbX7_readLoss_57 at hF
  refine gb_iconst (v := (0 : Int32)) dX7_readLoss_57 (by decide) ?_
  exact gb_wk (fbX7_readLoss_58_ok (0 : Int32) h r hF) trivial
def fnX7_readLoss (p0 : Nat) (p1 : Nat) (h : gb_H) : Option (Int32 × gb_H) :=
  gb_gd (gb_k h p0 7) <|
  if (gb_I h p0 6) < (3 : Int32) then
    gb_gd (gb_k h p0 7) <|
    gb_bd (fnX7_advance p0 h) fun _ h5 =>
    gb_gd (gb_k h5 p1 5) <|
    gb_lt (gb_sI h5 p1 0 (4 : Int32)) fun h7 =>
    gb_gd (gb_k h7 p0 7) <|
    gb_gd (gb_k h7 p1 5) <|
    gb_lt (gb_sI h7 p1 8 (gb_I h7 p0 6)) fun h10 =>
    gb_gd (gb_k h10 p0 7) <|
    gb_gd (gb_k h10 p0 7) <|
    gb_lt (gb_sI h10 p0 6 ((gb_I h10 p0 6) + (1 : Int32))) fun h13 =>
    gb_gd (gb_k h13 p0 7) <|
    gb_bd (fnX7_readFirst p0 p1 h13) fun x15 h16 =>
    if x15 = 0 then
      fbX7_readLoss_57 h16
    else
      gb_gd (gb_k h16 p0 7) <|
      gb_bd (fnX7_readKind p0 p1 h16) fun x19 h20 =>
      if x19 = 0 then
        fbX7_readLoss_57 h20
      else
        fbX7_readLoss_58 (1 : Int32) h20
  else
    some ((0 : Int32), h)
theorem fnX7_readLoss_ok {X : gb_X}  {p0 : Nat} {p1 : Nat} (h : gb_H) (r : Int32 × gb_H) (hF : fnX7_readLoss p0 p1 h = some r) : gb_Ev X 9 mX7_readLoss 0 (gb_L0 [.ref p0, .ref p1]) [] h (gb_wI r) := by
  unfold fnX7_readLoss at hF
  refine gb_weak (L' := [some (.ref p0), some (.ref p1)]) (And.intro rfl (And.intro rfl trivial)) ?_
  refine gb_aload_n dX7_readLoss_0 rfl rfl ?_
  obtain ⟨g1, hF⟩ := gb_gdE hF
  refine gb_getI fX7_63 dX7_readLoss_1 (gb_kE g1) ?_
  refine gb_iconst (v := (3 : Int32)) dX7_readLoss_4 (by decide) ?_
  refine gb_icmp_lt (tgt := 10) dX7_readLoss_5 (by decide) (fun c2 => ?_) (fun c2 => ?_)
  · replace hF := gb_ifT c2 hF
    refine gb_aload_n dX7_readLoss_10 rfl rfl ?_
    obtain ⟨g3, hF⟩ := gb_gdE hF
    obtain ⟨x4, h5, cx4, hF⟩ := gb_bdE hF
    refine gb_cV (As := []) (S := []) (v := none) (h1 := h5) (S2 := []) cf7 dX7_readLoss_11 mtX7_advance lX7_69 inX7_advance seX7_advance (gb_kE g3) (fnX7_advance_ok _ _ cx4) (by decide) rfl (Nat.le_of_ble_eq_true rfl) (Nat.le_of_ble_eq_true rfl) rfl rfl ?_
    refine gb_aload_n dX7_readLoss_14 rfl rfl ?_
    refine gb_iconst (v := (4 : Int32)) dX7_readLoss_15 (by decide) ?_
    obtain ⟨g6, hF⟩ := gb_gdE hF
    obtain ⟨h7, eh7, hF⟩ := gb_ltE hF
    refine gb_putI fX7_108 (gb_nff nf5_0) dX7_readLoss_16 (gb_kE g6) (fun _ => ⟨rfl, rfl⟩) (gb_hp eh7 ?_)
    refine gb_aload_n dX7_readLoss_19 rfl rfl ?_
    refine gb_aload_n dX7_readLoss_20 rfl rfl ?_
    obtain ⟨g8, hF⟩ := gb_gdE hF
    refine gb_getI fX7_63 dX7_readLoss_21 (gb_kE g8) ?_
    obtain ⟨g9, hF⟩ := gb_gdE hF
    obtain ⟨h10, eh10, hF⟩ := gb_ltE hF
    refine gb_putI fX7_111 (gb_nff nf5_8) dX7_readLoss_24 (gb_kE g9) (fun _ => ⟨rfl, rfl⟩) (gb_hp eh10 ?_)
    refine gb_aload_n dX7_readLoss_27 rfl rfl ?_
    refine gb_dup dX7_readLoss_28 rfl ?_
    obtain ⟨g11, hF⟩ := gb_gdE hF
    refine gb_getI fX7_63 dX7_readLoss_29 (gb_kE g11) ?_
    refine gb_iconst (v := (1 : Int32)) dX7_readLoss_32 (by decide) ?_
    refine gb_iadd dX7_readLoss_33 ?_
    obtain ⟨g12, hF⟩ := gb_gdE hF
    obtain ⟨h13, eh13, hF⟩ := gb_ltE hF
    refine gb_putI fX7_63 (gb_nff nf7_6) dX7_readLoss_34 (gb_kE g12) (fun _ => ⟨rfl, rfl⟩) (gb_hp eh13 ?_)
    refine gb_aload_n dX7_readLoss_37 rfl rfl ?_
    refine gb_aload_n dX7_readLoss_38 rfl rfl ?_
    obtain ⟨g14, hF⟩ := gb_gdE hF
    obtain ⟨x15, h16, cx15, hF⟩ := gb_bdE hF
    refine gb_cV (As := [.ref p1]) (S := []) (v := some (.int x15)) (h1 := h16) (S2 := [.int x15]) cf7 dX7_readLoss_39 mtX7_readFirst lX7_114 inX7_readFirst seX7_readFirst (gb_kE g14) (fnX7_readFirst_ok _ _ cx15) (by decide) rfl (Nat.le_of_ble_eq_true rfl) (Nat.le_of_ble_eq_true rfl) rfl rfl ?_
    refine gb_if_eq (tgt := 57) dX7_readLoss_42 (by decide) (fun c17 => ?_) (fun c17 => ?_)
    · replace hF := gb_ifT c17 hF
      exact gb_wk (fbX7_readLoss_57_ok h16 r hF) trivial
    · replace hF := gb_ifF c17 hF
      refine gb_aload_n dX7_readLoss_45 rfl rfl ?_
      refine gb_aload_n dX7_readLoss_46 rfl rfl ?_
      obtain ⟨g18, hF⟩ := gb_gdE hF
      obtain ⟨x19, h20, cx19, hF⟩ := gb_bdE hF
      refine gb_cV (As := [.ref p1]) (S := []) (v := some (.int x19)) (h1 := h20) (S2 := [.int x19]) cf7 dX7_readLoss_47 mtX7_readKind lX7_117 inX7_readKind seX7_readKind (gb_kE g18) (fnX7_readKind_ok _ _ cx19) (by decide) rfl (Nat.le_of_ble_eq_true rfl) (Nat.le_of_ble_eq_true rfl) rfl rfl ?_
      refine gb_if_eq (tgt := 57) dX7_readLoss_50 (by decide) (fun c21 => ?_) (fun c21 => ?_)
      · replace hF := gb_ifT c21 hF
        exact gb_wk (fbX7_readLoss_57_ok h20 r hF) trivial
      · replace hF := gb_ifF c21 hF
        refine gb_iconst (v := (1 : Int32)) dX7_readLoss_53 (by decide) ?_
        refine gb_goto (tgt := 58) dX7_readLoss_54 (by decide) ?_
        exact gb_wk (fbX7_readLoss_58_ok (1 : Int32) h20 r hF) trivial
  · replace hF := gb_ifF c2 hF
    refine gb_iconst (v := (0 : Int32)) dX7_readLoss_8 (by decide) ?_
    cases hF
    exact gb_zret dX7_readLoss_9 rfl (by decide)
def fnX7_readCounter (p0 : Nat) (p1 : Nat) (h : gb_H) : Option (Int32 × gb_H) :=
  gb_gd (gb_k h p1 5) <|
  gb_lt (gb_sI h p1 0 (5 : Int32)) fun h2 =>
  gb_gd (gb_k h2 p0 7) <|
  gb_bd (fnX7_readFirst p0 p1 h2) fun x4 h5 =>
  if x4 = 0 then
    some ((0 : Int32), h5)
  else
    gb_gd (gb_k h5 p0 7) <|
    gb_gd (gb_k h5 p1 5) <|
    gb_gd (gb_k h5 p0 7) <|
    gb_lt (gb_sI h5 p0 5 ((gb_I h5 p0 5) ||| ((1 : Int32) <<< ((gb_I h5 p1 1) &&& 31)))) fun h10 =>
    some ((1 : Int32), h10)
theorem fnX7_readCounter_ok {X : gb_X}  {p0 : Nat} {p1 : Nat} (h : gb_H) (r : Int32 × gb_H) (hF : fnX7_readCounter p0 p1 h = some r) : gb_Ev X 5 mX7_readCounter 0 (gb_L0 [.ref p0, .ref p1]) [] h (gb_wI r) := by
  unfold fnX7_readCounter at hF
  refine gb_weak (L' := [some (.ref p0), some (.ref p1)]) (And.intro rfl (And.intro rfl trivial)) ?_
  refine gb_aload_n dX7_readCounter_0 rfl rfl ?_
  refine gb_iconst (v := (5 : Int32)) dX7_readCounter_1 (by decide) ?_
  obtain ⟨g1, hF⟩ := gb_gdE hF
  obtain ⟨h2, eh2, hF⟩ := gb_ltE hF
  refine gb_putI fX7_108 (gb_nff nf5_0) dX7_readCounter_2 (gb_kE g1) (fun _ => ⟨rfl, rfl⟩) (gb_hp eh2 ?_)
  refine gb_aload_n dX7_readCounter_5 rfl rfl ?_
  refine gb_aload_n dX7_readCounter_6 rfl rfl ?_
  obtain ⟨g3, hF⟩ := gb_gdE hF
  obtain ⟨x4, h5, cx4, hF⟩ := gb_bdE hF
  refine gb_cV (As := [.ref p1]) (S := []) (v := some (.int x4)) (h1 := h5) (S2 := [.int x4]) cf7 dX7_readCounter_7 mtX7_readFirst lX7_114 inX7_readFirst seX7_readFirst (gb_kE g3) (fnX7_readFirst_ok _ _ cx4) (by decide) rfl (Nat.le_of_ble_eq_true rfl) (Nat.le_of_ble_eq_true rfl) rfl rfl ?_
  refine gb_if_ne (tgt := 15) dX7_readCounter_10 (by decide) (fun c6 => ?_) (fun c6 => ?_)
  · replace hF := gb_ifF c6 hF
    refine gb_aload_n dX7_readCounter_15 rfl rfl ?_
    refine gb_dup dX7_readCounter_16 rfl ?_
    obtain ⟨g7, hF⟩ := gb_gdE hF
    refine gb_getI fX7_60 dX7_readCounter_17 (gb_kE g7) ?_
    refine gb_iconst (v := (1 : Int32)) dX7_readCounter_20 (by decide) ?_
    refine gb_aload_n dX7_readCounter_21 rfl rfl ?_
    obtain ⟨g8, hF⟩ := gb_gdE hF
    refine gb_getI fX7_120 dX7_readCounter_22 (gb_kE g8) ?_
    refine gb_ishl dX7_readCounter_25 ?_
    refine gb_ior dX7_readCounter_26 ?_
    obtain ⟨g9, hF⟩ := gb_gdE hF
    obtain ⟨h10, eh10, hF⟩ := gb_ltE hF
    refine gb_putI fX7_60 (gb_nff nf7_5) dX7_readCounter_27 (gb_kE g9) (fun _ => ⟨rfl, rfl⟩) (gb_hp eh10 ?_)
    refine gb_iconst (v := (1 : Int32)) dX7_readCounter_30 (by decide) ?_
    cases hF
    exact gb_zret dX7_readCounter_31 rfl (by decide)
  · replace hF := gb_ifT c6 hF
    refine gb_iconst (v := (0 : Int32)) dX7_readCounter_13 (by decide) ?_
    cases hF
    exact gb_zret dX7_readCounter_14 rfl (by decide)
def fbX7_readPart_127 (v2 : Int32) (s0 : Nat) (s1 : Int32) (s2 : Int32) (h : gb_H) : Option (Int32 × gb_H) :=
  gb_gd (gb_k h s0 2) <|
  gb_lt (gb_sI h s0 1 (s1 + s2)) fun h2 =>
  gb_gd (gb_b v2) <|
  some (v2, h2)
theorem fbX7_readPart_127_ok {X : gb_X} (v2 : Int32) (s0 : Nat) (s1 : Int32) (s2 : Int32) (h : gb_H) (r : Int32 × gb_H) (hF : fbX7_readPart_127 v2 s0 s1 s2 h = some r) : gb_Ev X 10 mX7_readPart 127 [none, none, some (.int v2)] [.int s2, .int s1, .ref s0] h (gb_wI r) := by
  unfold fbX7_readPart_127 at hF
  refine gb_iadd dX7_readPart_127 ?_
  obtain ⟨g1, hF⟩ := gb_gdE hF
  obtain ⟨h2, eh2, hF⟩ := gb_ltE hF
  refine gb_putI fX7_57 (gb_nff nf2_1) dX7_readPart_128 (gb_kE g1) (fun _ => ⟨rfl, rfl⟩) (gb_hp eh2 ?_)
  refine gb_iload_n dX7_readPart_131 rfl rfl ?_
  obtain ⟨g3, hF⟩ := gb_gdE hF
  cases hF
  exact gb_zret dX7_readPart_132 rfl (gb_bE g3)
def fbX7_readPart_110 (v0 : Nat) (v2 : Int32) (h : gb_H) : Option (Int32 × gb_H) :=
  gb_gd (gb_k h v0 7) <|
  gb_rd (gb_R h v0 1) fun a2 =>
  gb_gd (gb_k h a2 2) <|
  if v2 = 0 then
    fbX7_readPart_127 v2 a2 (gb_I h a2 1) (0 : Int32) h
  else
    fbX7_readPart_127 v2 a2 (gb_I h a2 1) (1 : Int32) h
theorem fbX7_readPart_110_ok {X : gb_X} (v0 : Nat) (v2 : Int32) (h : gb_H) (r : Int32 × gb_H) (hF : fbX7_readPart_110 v0 v2 h = some r) : gb_Ev X 10 mX7_readPart 110 [some (.ref v0), none, some (.int v2)] [] h (gb_wI r) := by
  unfold fbX7_readPart_110 at hF
  refine gb_aload_n dX7_readPart_110 rfl rfl ?_
  obtain ⟨g1, hF⟩ := gb_gdE hF
  obtain ⟨a2, ea2, hF⟩ := gb_rdE hF
  refine gb_getR fX7_14 dX7_readPart_111 (gb_kE g1) ea2 ?_
  refine gb_dup dX7_readPart_114 rfl ?_
  obtain ⟨g3, hF⟩ := gb_gdE hF
  refine gb_getI fX7_57 dX7_readPart_115 (gb_kE g3) ?_
  refine gb_iload_n dX7_readPart_118 rfl rfl ?_
  refine gb_if_eq (tgt := 126) dX7_readPart_119 (by decide) (fun c4 => ?_) (fun c4 => ?_)
  · replace hF := gb_ifT c4 hF
    refine gb_iconst (v := (0 : Int32)) dX7_readPart_126 (by decide) ?_
    exact gb_wk (fbX7_readPart_127_ok v2 a2 (gb_I h a2 1) (0 : Int32) h r hF) (And.intro rfl trivial)
  · replace hF := gb_ifF c4 hF
    refine gb_iconst (v := (1 : Int32)) dX7_readPart_122 (by decide) ?_
    refine gb_goto (tgt := 127) dX7_readPart_123 (by decide) ?_
    exact gb_wk (fbX7_readPart_127_ok v2 a2 (gb_I h a2 1) (1 : Int32) h r hF) (And.intro rfl trivial)
def fbX7_readPart_64 (v0 : Nat) (s0 : Int32) (h : gb_H) : Option (Int32 × gb_H) :=
  fbX7_readPart_110 v0 s0 h
theorem fbX7_readPart_64_ok {X : gb_X} (v0 : Nat) (s0 : Int32) (h : gb_H) (r : Int32 × gb_H) (hF : fbX7_readPart_64 v0 s0 h = some r) : gb_Ev X 10 mX7_readPart 64 [some (.ref v0), none, none] [.int s0] h (gb_wI r) := by
  unfold fbX7_readPart_64 at hF
  refine gb_istore_n (L' := [some (.ref v0), none, some (.int s0)]) dX7_readPart_64 rfl (by decide) rfl rfl ?_
  refine gb_goto (tgt := 110) dX7_readPart_65 (by decide) ?_
  exact gb_wk (fbX7_readPart_110_ok v0 s0 h r hF) (And.intro rfl (And.intro rfl trivial))
def fbX7_readPart_63 (v0 : Nat) (h : gb_H) : Option (Int32 × gb_H) :=
  fbX7_readPart_64 v0 (0 : Int32) h
theorem fbX7_readPart_63_ok {X : gb_X} (v0 : Nat) (h : gb_H) (r : Int32 × gb_H) (hF : fbX7_readPart_63 v0 h = some r) : gb_Ev X 10 mX7_readPart 63 [some (.ref v0), none, none] [] h (gb_wI r) := by
  unfold fbX7_readPart_63 at hF
  refine gb_iconst (v := (0 : Int32)) dX7_readPart_63 (by decide) ?_
  exact gb_wk (fbX7_readPart_64_ok v0 (0 : Int32) h r hF) (And.intro rfl trivial)
def fnX7_readPart (p0 : Nat) (h : gb_H) : Option (Int32 × gb_H) :=
  gb_gd (gb_k h p0 7) <|
  gb_rd (gb_R h p0 1) fun a2 =>
  gb_gd (gb_k h a2 2) <|
  if (gb_I h a2 1) < (16 : Int32) then
    gb_gd (gb_k h p0 7) <|
    gb_rd (gb_R h p0 1) fun a6 =>
    gb_gd (gb_k h a6 2) <|
    gb_rd (gb_R h a6 0) fun a8 =>
    gb_gd (gb_k h p0 7) <|
    gb_rd (gb_R h p0 1) fun a10 =>
    gb_gd (gb_k h a10 2) <|
    gb_lt (gb_I h a10 1) fun x12 =>
    gb_gd (gb_k h a8 35) <|
    gb_gd (gb_in h a8 x12) <|
    gb_rd (gb_R h a8 x12.toNatClampNeg) fun a15 =>
    gb_gd (gb_k h a15 5) <|
    gb_bd (fnX5_reset a15 h) fun _ h18 =>
    gb_gd (gb_k h18 p0 7) <|
    gb_bd (fnX7_take p0 0 h18) fun x20 h21 =>
    if x20 = 0 then
      gb_gd (gb_k h21 p0 7) <|
      gb_bd (fnX7_says p0 11 h21) fun x24 h25 =>
      if x24 = 0 then
        gb_gd (gb_k h25 p0 7) <|
        gb_bd (fnX7_take p0 12 h25) fun x28 h29 =>
        if x28 = 0 then
          gb_gd (gb_k h29 p0 7) <|
          gb_bd (fnX7_readDeed p0 a15 h29) fun x32 h33 =>
          fbX7_readPart_110 p0 x32 h33
        else
          gb_gd (gb_k h29 p0 7) <|
          gb_bd (fnX7_readCounter p0 a15 h29) fun x35 h36 =>
          fbX7_readPart_110 p0 x35 h36
      else
        gb_gd (gb_k h25 p0 7) <|
        gb_bd (fnX7_readLoss p0 a15 h25) fun x38 h39 =>
        fbX7_readPart_110 p0 x38 h39
    else
      gb_gd (gb_k h21 p0 7) <|
      gb_bd (fnX7_readWait p0 a15 h21) fun x41 h42 =>
      if x41 = 0 then
        fbX7_readPart_63 p0 h42
      else
        gb_gd (gb_k h42 p0 7) <|
        gb_bd (fnX7_readDeed p0 a15 h42) fun x45 h46 =>
        if x45 = 0 then
          fbX7_readPart_63 p0 h46
        else
          fbX7_readPart_64 p0 (1 : Int32) h46
  else
    some ((0 : Int32), h)
theorem fnX7_readPart_ok {X : gb_X}  {p0 : Nat} (h : gb_H) (r : Int32 × gb_H) (hF : fnX7_readPart p0 h = some r) : gb_Ev X 10 mX7_readPart 0 (gb_L0 [.ref p0]) [] h (gb_wI r) := by
  unfold fnX7_readPart at hF
  refine gb_weak (L' := [some (.ref p0), none, none]) (And.intro rfl trivial) ?_
  refine gb_aload_n dX7_readPart_0 rfl rfl ?_
  obtain ⟨g1, hF⟩ := gb_gdE hF
  obtain ⟨a2, ea2, hF⟩ := gb_rdE hF
  refine gb_getR fX7_14 dX7_readPart_1 (gb_kE g1) ea2 ?_
  obtain ⟨g3, hF⟩ := gb_gdE hF
  refine gb_getI fX7_57 dX7_readPart_4 (gb_kE g3) ?_
  refine gb_bipush (v := (16 : Int32)) dX7_readPart_7 (by decide) ?_
  refine gb_icmp_lt (tgt := 14) dX7_readPart_9 (by decide) (fun c4 => ?_) (fun c4 => ?_)
  · replace hF := gb_ifT c4 hF
    refine gb_aload_n dX7_readPart_14 rfl rfl ?_
    obtain ⟨g5, hF⟩ := gb_gdE hF
    obtain ⟨a6, ea6, hF⟩ := gb_rdE hF
    refine gb_getR fX7_14 dX7_readPart_15 (gb_kE g5) ea6 ?_
    obtain ⟨g7, hF⟩ := gb_gdE hF
    obtain ⟨a8, ea8, hF⟩ := gb_rdE hF
    refine gb_getR fX7_44 dX7_readPart_18 (gb_kE g7) ea8 ?_
    refine gb_aload_n dX7_readPart_21 rfl rfl ?_
    obtain ⟨g9, hF⟩ := gb_gdE hF
    obtain ⟨a10, ea10, hF⟩ := gb_rdE hF
    refine gb_getR fX7_14 dX7_readPart_22 (gb_kE g9) ea10 ?_
    obtain ⟨g11, hF⟩ := gb_gdE hF
    refine gb_getI fX7_57 dX7_readPart_25 (gb_kE g11) ?_
    obtain ⟨x12, ex12, hF⟩ := gb_ltE hF
    refine gb_topI ex12 ?_
    obtain ⟨g13, hF⟩ := gb_gdE hF
    obtain ⟨g14, hF⟩ := gb_gdE hF
    obtain ⟨a15, ea15, hF⟩ := gb_rdE hF
    refine gb_aald dX7_readPart_28 (gb_kE g13) (by decide) (gb_inE g14) ea15 ?_
    refine gb_astore_n (L' := [some (.ref p0), some (.ref a15), none]) dX7_readPart_29 rfl (by decide) rfl rfl ?_
    refine gb_aload_n dX7_readPart_30 rfl rfl ?_
    obtain ⟨g16, hF⟩ := gb_gdE hF
    obtain ⟨x17, h18, cx17, hF⟩ := gb_bdE hF
    refine gb_cV (As := []) (S := []) (v := none) (h1 := h18) (S2 := []) cf5 dX7_readPart_31 mtX5_reset lX7_48 inX5_reset seX5_reset (gb_kE g16) (fnX5_reset_ok _ _ cx17) (by decide) rfl (Nat.le_of_ble_eq_true rfl) (Nat.le_of_ble_eq_true rfl) rfl rfl ?_
    refine gb_aload_n dX7_readPart_34 rfl rfl ?_
    refine gb_ldcS 0 dX7_readPart_35 rfl (by decide) ?_
    obtain ⟨g19, hF⟩ := gb_gdE hF
    obtain ⟨x20, h21, cx20, hF⟩ := gb_bdE hF
    refine gb_cV (As := [.retAddr 0]) (S := []) (v := some (.int x20)) (h1 := h21) (S2 := [.int x20]) cf7 dX7_readPart_37 mtX7_take lX7_40 inX7_take seX7_take (gb_kE g19) (fnX7_take_ok _ _ cx20) (by decide) rfl (Nat.le_of_ble_eq_true rfl) (Nat.le_of_ble_eq_true rfl) rfl rfl ?_
    refine gb_if_eq (tgt := 68) dX7_readPart_40 (by decide) (fun c22 => ?_) (fun c22 => ?_)
    · replace hF := gb_ifT c22 hF
      refine gb_aload_n dX7_readPart_68 rfl rfl ?_
      refine gb_ldcS 11 dX7_readPart_69 rfl (by decide) ?_
      obtain ⟨g23, hF⟩ := gb_gdE hF
      obtain ⟨x24, h25, cx24, hF⟩ := gb_bdE hF
      refine gb_cV (As := [.retAddr 11]) (S := []) (v := some (.int x24)) (h1 := h25) (S2 := [.int x24]) cf7 dX7_readPart_71 mtX7_says lX7_79 inX7_says seX7_says (gb_kE g23) (fnX7_says_ok _ _ cx24) (by decide) rfl (Nat.le_of_ble_eq_true rfl) (Nat.le_of_ble_eq_true rfl) rfl rfl ?_
      refine gb_if_eq (tgt := 86) dX7_readPart_74 (by decide) (fun c26 => ?_) (fun c26 => ?_)
      · replace hF := gb_ifT c26 hF
        refine gb_aload_n dX7_readPart_86 rfl rfl ?_
        refine gb_ldcS 12 dX7_readPart_87 rfl (by decide) ?_
        obtain ⟨g27, hF⟩ := gb_gdE hF
        obtain ⟨x28, h29, cx28, hF⟩ := gb_bdE hF
        refine gb_cV (As := [.retAddr 12]) (S := []) (v := some (.int x28)) (h1 := h29) (S2 := [.int x28]) cf7 dX7_readPart_89 mtX7_take lX7_40 inX7_take seX7_take (gb_kE g27) (fnX7_take_ok _ _ cx28) (by decide) rfl (Nat.le_of_ble_eq_true rfl) (Nat.le_of_ble_eq_true rfl) rfl rfl ?_
        refine gb_if_eq (tgt := 104) dX7_readPart_92 (by decide) (fun c30 => ?_) (fun c30 => ?_)
        · replace hF := gb_ifT c30 hF
          refine gb_aload_n dX7_readPart_104 rfl rfl ?_
          refine gb_aload_n dX7_readPart_105 rfl rfl ?_
          obtain ⟨g31, hF⟩ := gb_gdE hF
          obtain ⟨x32, h33, cx32, hF⟩ := gb_bdE hF
          refine gb_cV (As := [.ref a15]) (S := []) (v := some (.int x32)) (h1 := h33) (S2 := [.int x32]) cf7 dX7_readPart_106 mtX7_readDeed lX7_53 inX7_readDeed seX7_readDeed (gb_kE g31) (fnX7_readDeed_ok _ _ cx32) (by decide) rfl (Nat.le_of_ble_eq_true rfl) (Nat.le_of_ble_eq_true rfl) rfl rfl ?_
          refine gb_istore_n (L' := [some (.ref p0), some (.ref a15), some (.int x32)]) dX7_readPart_109 rfl (by decide) rfl rfl ?_
          exact gb_wk (fbX7_readPart_110_ok p0 x32 h33 r hF) (And.intro rfl (And.intro rfl trivial))
        · replace hF := gb_ifF c30 hF
          refine gb_aload_n dX7_readPart_95 rfl rfl ?_
          refine gb_aload_n dX7_readPart_96 rfl rfl ?_
          obtain ⟨g34, hF⟩ := gb_gdE hF
          obtain ⟨x35, h36, cx35, hF⟩ := gb_bdE hF
          refine gb_cV (As := [.ref a15]) (S := []) (v := some (.int x35)) (h1 := h36) (S2 := [.int x35]) cf7 dX7_readPart_97 mtX7_readCounter lX7_87 inX7_readCounter seX7_readCounter (gb_kE g34) (fnX7_readCounter_ok _ _ cx35) (by decide) rfl (Nat.le_of_ble_eq_true rfl) (Nat.le_of_ble_eq_true rfl) rfl rfl ?_
          refine gb_istore_n (L' := [some (.ref p0), some (.ref a15), some (.int x35)]) dX7_readPart_100 rfl (by decide) rfl rfl ?_
          refine gb_goto (tgt := 110) dX7_readPart_101 (by decide) ?_
          exact gb_wk (fbX7_readPart_110_ok p0 x35 h36 r hF) (And.intro rfl (And.intro rfl trivial))
      · replace hF := gb_ifF c26 hF
        refine gb_aload_n dX7_readPart_77 rfl rfl ?_
        refine gb_aload_n dX7_readPart_78 rfl rfl ?_
        obtain ⟨g37, hF⟩ := gb_gdE hF
        obtain ⟨x38, h39, cx38, hF⟩ := gb_bdE hF
        refine gb_cV (As := [.ref a15]) (S := []) (v := some (.int x38)) (h1 := h39) (S2 := [.int x38]) cf7 dX7_readPart_79 mtX7_readLoss lX7_82 inX7_readLoss seX7_readLoss (gb_kE g37) (fnX7_readLoss_ok _ _ cx38) (by decide) rfl (Nat.le_of_ble_eq_true rfl) (Nat.le_of_ble_eq_true rfl) rfl rfl ?_
        refine gb_istore_n (L' := [some (.ref p0), some (.ref a15), some (.int x38)]) dX7_readPart_82 rfl (by decide) rfl rfl ?_
        refine gb_goto (tgt := 110) dX7_readPart_83 (by decide) ?_
        exact gb_wk (fbX7_readPart_110_ok p0 x38 h39 r hF) (And.intro rfl (And.intro rfl trivial))
    · replace hF := gb_ifF c22 hF
      refine gb_aload_n dX7_readPart_43 rfl rfl ?_
      refine gb_aload_n dX7_readPart_44 rfl rfl ?_
      obtain ⟨g40, hF⟩ := gb_gdE hF
      obtain ⟨x41, h42, cx41, hF⟩ := gb_bdE hF
      refine gb_cV (As := [.ref a15]) (S := []) (v := some (.int x41)) (h1 := h42) (S2 := [.int x41]) cf7 dX7_readPart_45 mtX7_readWait lX7_74 inX7_readWait seX7_readWait (gb_kE g40) (fnX7_readWait_ok _ _ cx41) (by decide) rfl (Nat.le_of_ble_eq_true rfl) (Nat.le_of_ble_eq_true rfl) rfl rfl ?_
      refine gb_if_eq (tgt := 63) dX7_readPart_48 (by decide) (fun c43 => ?_) (fun c43 => ?_)
      · replace hF := gb_ifT c43 hF
        exact gb_wk (fbX7_readPart_63_ok p0 h42 r hF) (And.intro rfl trivial)
      · replace hF := gb_ifF c43 hF
        refine gb_aload_n dX7_readPart_51 rfl rfl ?_
        refine gb_aload_n dX7_readPart_52 rfl rfl ?_
        obtain ⟨g44, hF⟩ := gb_gdE hF
        obtain ⟨x45, h46, cx45, hF⟩ := gb_bdE hF
        refine gb_cV (As := [.ref a15]) (S := []) (v := some (.int x45)) (h1 := h46) (S2 := [.int x45]) cf7 dX7_readPart_53 mtX7_readDeed lX7_53 inX7_readDeed seX7_readDeed (gb_kE g44) (fnX7_readDeed_ok _ _ cx45) (by decide) rfl (Nat.le_of_ble_eq_true rfl) (Nat.le_of_ble_eq_true rfl) rfl rfl ?_
        refine gb_if_eq (tgt := 63) dX7_readPart_56 (by decide) (fun c47 => ?_) (fun c47 => ?_)
        · replace hF := gb_ifT c47 hF
          exact gb_wk (fbX7_readPart_63_ok p0 h46 r hF) (And.intro rfl trivial)
        · replace hF := gb_ifF c47 hF
          refine gb_iconst (v := (1 : Int32)) dX7_readPart_59 (by decide) ?_
          refine gb_goto (tgt := 64) dX7_readPart_60 (by decide) ?_
          exact gb_wk (fbX7_readPart_64_ok p0 (1 : Int32) h46 r hF) (And.intro rfl trivial)
  · replace hF := gb_ifF c4 hF
    refine gb_iconst (v := (0 : Int32)) dX7_readPart_12 (by decide) ?_
    cases hF
    exact gb_zret dX7_readPart_13 rfl (by decide)
def fbX7_readParts_15 (k15 : Nat → Int32 → gb_H → Option (Int32 × gb_H)) (v0 : Nat) (v1 : Int32) (h : gb_H) : Option (Int32 × gb_H) :=
  if (16 : Int32) ≤ v1 then
    gb_gd (gb_k h v0 7) <|
    some (gb_I h v0 2, h)
  else
    gb_gd (gb_k h v0 7) <|
    gb_bd (fnX7_readPart v0 h) fun x4 h5 =>
    if x4 = 0 then
      gb_gd (gb_k h5 v0 7) <|
      some (gb_I h5 v0 2, h5)
    else
      gb_gd (gb_k h5 v0 7) <|
      gb_bd (fnX7_atEnd v0 h5) fun x9 h10 =>
      if x9 = 0 then
        gb_gd (gb_k h10 v0 7) <|
        gb_bd (fnX7_take v0 13 h10) fun x13 h14 =>
        if x13 = 0 then
          gb_gd (gb_k h14 v0 7) <|
          some (gb_I h14 v0 2, h14)
        else
          gb_lt (v1 + (1 : Int32)) fun x17 =>
          k15 v0 x17 h14
      else
        some ((-1 : Int32), h10)
theorem fbX7_readParts_15_ok {X : gb_X} {k15 : Nat → Int32 → gb_H → Option (Int32 × gb_H)} (hk15 : ∀ v0 v1 h r, k15 v0 v1 h = some r → gb_Ev X 11 mX7_readParts 15 [some (.ref v0), some (.int v1)] [] h (gb_wI r)) (v0 : Nat) (v1 : Int32) (h : gb_H) (r : Int32 × gb_H) (hF : fbX7_readParts_15 k15 v0 v1 h = some r) : gb_Ev X 11 mX7_readParts 15 [some (.ref v0), some (.int v1)] [] h (gb_wI r) := by
  unfold fbX7_readParts_15 at hF
  refine gb_iload_n dX7_readParts_15 rfl rfl ?_
  refine gb_bipush (v := (16 : Int32)) dX7_readParts_16 (by decide) ?_
  refine gb_icmp_ge (tgt := 62) dX7_readParts_18 (by decide) (fun c1 => ?_) (fun c1 => ?_)
  · replace hF := gb_ifT c1 hF
    refine gb_aload_n dX7_readParts_62 rfl rfl ?_
    obtain ⟨g2, hF⟩ := gb_gdE hF
    refine gb_getI fX7_34 dX7_readParts_63 (gb_kE g2) ?_
    cases hF
    exact gb_iret dX7_readParts_66 rfl
  · replace hF := gb_ifF c1 hF
    refine gb_aload_n dX7_readParts_21 rfl rfl ?_
    obtain ⟨g3, hF⟩ := gb_gdE hF
    obtain ⟨x4, h5, cx4, hF⟩ := gb_bdE hF
    refine gb_cV (As := []) (S := []) (v := some (.int x4)) (h1 := h5) (S2 := [.int x4]) cf7 dX7_readParts_22 mtX7_readPart lX7_31 inX7_readPart seX7_readPart (gb_kE g3) (fnX7_readPart_ok _ _ cx4) (by decide) rfl (Nat.le_of_ble_eq_true rfl) (Nat.le_of_ble_eq_true rfl) rfl rfl ?_
    refine gb_if_ne (tgt := 33) dX7_readParts_25 (by decide) (fun c6 => ?_) (fun c6 => ?_)
    · replace hF := gb_ifF c6 hF
      refine gb_aload_n dX7_readParts_33 rfl rfl ?_
      obtain ⟨g8, hF⟩ := gb_gdE hF
      obtain ⟨x9, h10, cx9, hF⟩ := gb_bdE hF
      refine gb_cV (As := []) (S := []) (v := some (.int x9)) (h1 := h10) (S2 := [.int x9]) cf7 dX7_readParts_34 mtX7_atEnd lX7_27 inX7_atEnd seX7_atEnd (gb_kE g8) (fnX7_atEnd_ok _ _ cx9) (by decide) rfl (Nat.le_of_ble_eq_true rfl) (Nat.le_of_ble_eq_true rfl) rfl rfl ?_
      refine gb_if_eq (tgt := 42) dX7_readParts_37 (by decide) (fun c11 => ?_) (fun c11 => ?_)
      · replace hF := gb_ifT c11 hF
        refine gb_aload_n dX7_readParts_42 rfl rfl ?_
        refine gb_ldcS 13 dX7_readParts_43 rfl (by decide) ?_
        obtain ⟨g12, hF⟩ := gb_gdE hF
        obtain ⟨x13, h14, cx13, hF⟩ := gb_bdE hF
        refine gb_cV (As := [.retAddr 13]) (S := []) (v := some (.int x13)) (h1 := h14) (S2 := [.int x13]) cf7 dX7_readParts_45 mtX7_take lX7_40 inX7_take seX7_take (gb_kE g12) (fnX7_take_ok _ _ cx13) (by decide) rfl (Nat.le_of_ble_eq_true rfl) (Nat.le_of_ble_eq_true rfl) rfl rfl ?_
        refine gb_if_ne (tgt := 56) dX7_readParts_48 (by decide) (fun c15 => ?_) (fun c15 => ?_)
        · replace hF := gb_ifF c15 hF
          obtain ⟨x17, ex17, hF⟩ := gb_ltE hF
          refine gb_iinc (v := x17) (L' := [some (.ref v0), some (.int x17)]) dX7_readParts_56 rfl (by rw [ex17]; rfl) (by decide) rfl rfl ?_
          refine gb_goto (tgt := 15) dX7_readParts_59 (by decide) ?_
          exact gb_wk (hk15 v0 x17 h14 r hF) (And.intro rfl (And.intro rfl trivial))
        · replace hF := gb_ifT c15 hF
          refine gb_aload_n dX7_readParts_51 rfl rfl ?_
          obtain ⟨g16, hF⟩ := gb_gdE hF
          refine gb_getI fX7_34 dX7_readParts_52 (gb_kE g16) ?_
          cases hF
          exact gb_iret dX7_readParts_55 rfl
      · replace hF := gb_ifF c11 hF
        refine gb_iconst (v := (-1 : Int32)) dX7_readParts_40 (by decide) ?_
        cases hF
        exact gb_iret dX7_readParts_41 rfl
    · replace hF := gb_ifT c6 hF
      refine gb_aload_n dX7_readParts_28 rfl rfl ?_
      obtain ⟨g7, hF⟩ := gb_gdE hF
      refine gb_getI fX7_34 dX7_readParts_29 (gb_kE g7) ?_
      cases hF
      exact gb_iret dX7_readParts_32 rfl
def lpX7_readParts_15 (n : Nat) (v0 : Nat) (v1 : Int32) (h : gb_H) : Option (Int32 × gb_H) := gb_lp (σ := Nat × Int32 × gb_H) (fun k s => fbX7_readParts_15 (fun v0 v1 h => k (v0, v1, h)) s.1 s.2.1 s.2.2) n (v0, v1, h)
theorem lpX7_readParts_15_ok {X : gb_X}  (n : Nat) (v0 : Nat) (v1 : Int32) (h : gb_H) (r : Int32 × gb_H) (hF : lpX7_readParts_15 n v0 v1 h = some r) : gb_Ev X 11 mX7_readParts 15 [some (.ref v0), some (.int v1)] [] h (gb_wI r) := by
  exact gb_lpE (σ := Nat × Int32 × gb_H) (P := fun s r => gb_Ev X 11 mX7_readParts 15 [some (.ref s.1), some (.int s.2.1)] [] s.2.2 (gb_wI r)) (fun k hk s r hs => fbX7_readParts_15_ok (fun v0 v1 h r e => hk (v0, v1, h) r e) _ _ _ r hs) n (v0, v1, h) r hF
def fnX7_readParts (p0 : Nat) (h : gb_H) : Option (Int32 × gb_H) :=
  gb_gd (gb_k h p0 7) <|
  gb_bd (fnX7_restart p0 h) fun _ h3 =>
  gb_gd (gb_k h3 p0 7) <|
  gb_bd (fnX7_atEnd p0 h3) fun x5 h6 =>
  if x5 = 0 then
    lpX7_readParts_15 gb_FU p0 (0 : Int32) h6
  else
    some ((-1 : Int32), h6)
theorem fnX7_readParts_ok {X : gb_X}  {p0 : Nat} (h : gb_H) (r : Int32 × gb_H) (hF : fnX7_readParts p0 h = some r) : gb_Ev X 11 mX7_readParts 0 (gb_L0 [.ref p0]) [] h (gb_wI r) := by
  unfold fnX7_readParts at hF
  refine gb_weak (L' := [some (.ref p0), none]) (And.intro rfl trivial) ?_
  refine gb_aload_n dX7_readParts_0 rfl rfl ?_
  obtain ⟨g1, hF⟩ := gb_gdE hF
  obtain ⟨x2, h3, cx2, hF⟩ := gb_bdE hF
  refine gb_cV (As := []) (S := []) (v := none) (h1 := h3) (S2 := []) cf7 dX7_readParts_1 mtX7_restart lX7_24 inX7_restart seX7_restart (gb_kE g1) (fnX7_restart_ok _ _ cx2) (by decide) rfl (Nat.le_of_ble_eq_true rfl) (Nat.le_of_ble_eq_true rfl) rfl rfl ?_
  refine gb_aload_n dX7_readParts_4 rfl rfl ?_
  obtain ⟨g4, hF⟩ := gb_gdE hF
  obtain ⟨x5, h6, cx5, hF⟩ := gb_bdE hF
  refine gb_cV (As := []) (S := []) (v := some (.int x5)) (h1 := h6) (S2 := [.int x5]) cf7 dX7_readParts_5 mtX7_atEnd lX7_27 inX7_atEnd seX7_atEnd (gb_kE g4) (fnX7_atEnd_ok _ _ cx5) (by decide) rfl (Nat.le_of_ble_eq_true rfl) (Nat.le_of_ble_eq_true rfl) rfl rfl ?_
  refine gb_if_eq (tgt := 13) dX7_readParts_8 (by decide) (fun c7 => ?_) (fun c7 => ?_)
  · replace hF := gb_ifT c7 hF
    refine gb_iconst (v := (0 : Int32)) dX7_readParts_13 (by decide) ?_
    refine gb_istore_n (L' := [some (.ref p0), some (.int (0 : Int32))]) dX7_readParts_14 rfl (by decide) rfl rfl ?_
    exact gb_wk (lpX7_readParts_15_ok gb_FU p0 (0 : Int32) h6 r hF) (And.intro rfl (And.intro rfl trivial))
  · replace hF := gb_ifF c7 hF
    refine gb_iconst (v := (-1 : Int32)) dX7_readParts_11 (by decide) ?_
    cases hF
    exact gb_iret dX7_readParts_12 rfl
def fbX7_readDeedAlone_41 (s0 : Int32) (h : gb_H) : Option (Int32 × gb_H) :=
  some (s0, h)
theorem fbX7_readDeedAlone_41_ok {X : gb_X} (s0 : Int32) (h : gb_H) (r : Int32 × gb_H) (hF : fbX7_readDeedAlone_41 s0 h = some r) : gb_Ev X 10 mX7_readDeedAlone 41 [none, none] [.int s0] h (gb_wI r) := by
  unfold fbX7_readDeedAlone_41 at hF
  cases hF
  exact gb_iret dX7_readDeedAlone_41 rfl
def fbX7_readDeedAlone_37 (v0 : Nat) (h : gb_H) : Option (Int32 × gb_H) :=
  gb_gd (gb_k h v0 7) <|
  fbX7_readDeedAlone_41 (gb_I h v0 2) h
theorem fbX7_readDeedAlone_37_ok {X : gb_X} (v0 : Nat) (h : gb_H) (r : Int32 × gb_H) (hF : fbX7_readDeedAlone_37 v0 h = some r) : gb_Ev X 10 mX7_readDeedAlone 37 [some (.ref v0), none] [] h (gb_wI r) := by
  unfold fbX7_readDeedAlone_37 at hF
  refine gb_aload_n dX7_readDeedAlone_37 rfl rfl ?_
  obtain ⟨g1, hF⟩ := gb_gdE hF
  refine gb_getI fX7_34 dX7_readDeedAlone_38 (gb_kE g1) ?_
  exact gb_wk (fbX7_readDeedAlone_41_ok (gb_I h v0 2) h r hF) trivial
def fnX7_readDeedAlone (p0 : Nat) (h : gb_H) : Option (Int32 × gb_H) :=
  gb_gd (gb_k h p0 7) <|
  gb_bd (fnX7_restart p0 h) fun _ h3 =>
  gb_gd (gb_k h3 p0 7) <|
  gb_rd (gb_R h3 p0 1) fun a5 =>
  gb_gd (gb_k h3 a5 2) <|
  gb_rd (gb_R h3 a5 0) fun a7 =>
  gb_gd (gb_k h3 a7 35) <|
  gb_gd (gb_in h3 a7 (0 : Int32)) <|
  gb_rd (gb_R h3 a7 (0 : Int32).toNatClampNeg) fun a10 =>
  gb_gd (gb_k h3 a10 5) <|
  gb_bd (fnX5_reset a10 h3) fun _ h13 =>
  gb_gd (gb_k h13 p0 7) <|
  gb_bd (fnX7_readDeed p0 a10 h13) fun x15 h16 =>
  if x15 = 0 then
    fbX7_readDeedAlone_37 p0 h16
  else
    gb_gd (gb_k h16 p0 7) <|
    gb_bd (fnX7_atEnd p0 h16) fun x19 h20 =>
    if x19 = 0 then
      fbX7_readDeedAlone_37 p0 h20
    else
      fbX7_readDeedAlone_41 (-1 : Int32) h20
theorem fnX7_readDeedAlone_ok {X : gb_X}  {p0 : Nat} (h : gb_H) (r : Int32 × gb_H) (hF : fnX7_readDeedAlone p0 h = some r) : gb_Ev X 10 mX7_readDeedAlone 0 (gb_L0 [.ref p0]) [] h (gb_wI r) := by
  unfold fnX7_readDeedAlone at hF
  refine gb_weak (L' := [some (.ref p0), none]) (And.intro rfl trivial) ?_
  refine gb_aload_n dX7_readDeedAlone_0 rfl rfl ?_
  obtain ⟨g1, hF⟩ := gb_gdE hF
  obtain ⟨x2, h3, cx2, hF⟩ := gb_bdE hF
  refine gb_cV (As := []) (S := []) (v := none) (h1 := h3) (S2 := []) cf7 dX7_readDeedAlone_1 mtX7_restart lX7_24 inX7_restart seX7_restart (gb_kE g1) (fnX7_restart_ok _ _ cx2) (by decide) rfl (Nat.le_of_ble_eq_true rfl) (Nat.le_of_ble_eq_true rfl) rfl rfl ?_
  refine gb_aload_n dX7_readDeedAlone_4 rfl rfl ?_
  obtain ⟨g4, hF⟩ := gb_gdE hF
  obtain ⟨a5, ea5, hF⟩ := gb_rdE hF
  refine gb_getR fX7_14 dX7_readDeedAlone_5 (gb_kE g4) ea5 ?_
  obtain ⟨g6, hF⟩ := gb_gdE hF
  obtain ⟨a7, ea7, hF⟩ := gb_rdE hF
  refine gb_getR fX7_44 dX7_readDeedAlone_8 (gb_kE g6) ea7 ?_
  refine gb_iconst (v := (0 : Int32)) dX7_readDeedAlone_11 (by decide) ?_
  obtain ⟨g8, hF⟩ := gb_gdE hF
  obtain ⟨g9, hF⟩ := gb_gdE hF
  obtain ⟨a10, ea10, hF⟩ := gb_rdE hF
  refine gb_aald dX7_readDeedAlone_12 (gb_kE g8) (by decide) (gb_inE g9) ea10 ?_
  refine gb_astore_n (L' := [some (.ref p0), some (.ref a10)]) dX7_readDeedAlone_13 rfl (by decide) rfl rfl ?_
  refine gb_aload_n dX7_readDeedAlone_14 rfl rfl ?_
  obtain ⟨g11, hF⟩ := gb_gdE hF
  obtain ⟨x12, h13, cx12, hF⟩ := gb_bdE hF
  refine gb_cV (As := []) (S := []) (v := none) (h1 := h13) (S2 := []) cf5 dX7_readDeedAlone_15 mtX5_reset lX7_48 inX5_reset seX5_reset (gb_kE g11) (fnX5_reset_ok _ _ cx12) (by decide) rfl (Nat.le_of_ble_eq_true rfl) (Nat.le_of_ble_eq_true rfl) rfl rfl ?_
  refine gb_aload_n dX7_readDeedAlone_18 rfl rfl ?_
  refine gb_aload_n dX7_readDeedAlone_19 rfl rfl ?_
  obtain ⟨g14, hF⟩ := gb_gdE hF
  obtain ⟨x15, h16, cx15, hF⟩ := gb_bdE hF
  refine gb_cV (As := [.ref a10]) (S := []) (v := some (.int x15)) (h1 := h16) (S2 := [.int x15]) cf7 dX7_readDeedAlone_20 mtX7_readDeed lX7_53 inX7_readDeed seX7_readDeed (gb_kE g14) (fnX7_readDeed_ok _ _ cx15) (by decide) rfl (Nat.le_of_ble_eq_true rfl) (Nat.le_of_ble_eq_true rfl) rfl rfl ?_
  refine gb_if_eq (tgt := 37) dX7_readDeedAlone_23 (by decide) (fun c17 => ?_) (fun c17 => ?_)
  · replace hF := gb_ifT c17 hF
    exact gb_wk (fbX7_readDeedAlone_37_ok p0 h16 r hF) (And.intro rfl trivial)
  · replace hF := gb_ifF c17 hF
    refine gb_aload_n dX7_readDeedAlone_26 rfl rfl ?_
    obtain ⟨g18, hF⟩ := gb_gdE hF
    obtain ⟨x19, h20, cx19, hF⟩ := gb_bdE hF
    refine gb_cV (As := []) (S := []) (v := some (.int x19)) (h1 := h20) (S2 := [.int x19]) cf7 dX7_readDeedAlone_27 mtX7_atEnd lX7_27 inX7_atEnd seX7_atEnd (gb_kE g18) (fnX7_atEnd_ok _ _ cx19) (by decide) rfl (Nat.le_of_ble_eq_true rfl) (Nat.le_of_ble_eq_true rfl) rfl rfl ?_
    refine gb_if_eq (tgt := 37) dX7_readDeedAlone_30 (by decide) (fun c21 => ?_) (fun c21 => ?_)
    · replace hF := gb_ifT c21 hF
      exact gb_wk (fbX7_readDeedAlone_37_ok p0 h20 r hF) (And.intro rfl trivial)
    · replace hF := gb_ifF c21 hF
      refine gb_iconst (v := (-1 : Int32)) dX7_readDeedAlone_33 (by decide) ?_
      refine gb_goto (tgt := 41) dX7_readDeedAlone_34 (by decide) ?_
      exact gb_wk (fbX7_readDeedAlone_41_ok (-1 : Int32) h20 r hF) trivial
