/-! pure combinators of the printed functions -/
def gb_FU : Nat := 1000000
def gb_lt {α β : Type} (e : α) (f : α → Option β) : Option β := f e
theorem gb_ltE {α β : Type} {e : α} {f : α → Option β} {r : β} (h : gb_lt e f = some r) : ∃ x, x = e ∧ f x = some r := ⟨e, rfl, h⟩
def gb_gd {β : Type} (b : Bool) (A : Option β) : Option β := match b with
  | true => A
  | false => none
theorem gb_gdE {β : Type} {b : Bool} {A : Option β} {r : β} (h : gb_gd b A = some r) : b = true ∧ A = some r := by
  cases b with
  | true => exact ⟨rfl, h⟩
  | false => cases h
def gb_rd {β : Type} (e : Option Nat) (f : Nat → Option β) : Option β := match e with
  | none => none
  | some a => f a
theorem gb_rdE {β : Type} {e : Option Nat} {f : Nat → Option β} {r : β} (h : gb_rd e f = some r) : ∃ a, e = some a ∧ f a = some r := by
  cases e with
  | none => cases h
  | some a => exact ⟨a, rfl, h⟩
def gb_bd {α β : Type} (e : Option (α × gb_H)) (f : α → gb_H → Option β) : Option β := match e with
  | none => none
  | some q => f q.1 q.2
theorem gb_bdE {α β : Type} {e : Option (α × gb_H)} {f : α → gb_H → Option β} {r : β} (h : gb_bd e f = some r) : ∃ v h1, e = some (v, h1) ∧ f v h1 = some r := by
  cases e with
  | none => cases h
  | some q => exact ⟨q.1, q.2, rfl, h⟩
theorem gb_ifT {β : Type} {c : Prop} [Decidable c] {A B : Option β} {r : β} (hc : c) (h : (if c then A else B) = some r) : A = some r := by rwa [if_pos hc] at h
theorem gb_ifF {β : Type} {c : Prop} [Decidable c] {A B : Option β} {r : β} (hc : ¬ c) (h : (if c then A else B) = some r) : B = some r := by rwa [if_neg hc] at h
/-- a loop: its body gets what goes on with the next turn -/
def gb_lp {σ β : Type} (body : (σ → Option β) → σ → Option β) : Nat → σ → Option β
  | 0, _ => none
  | n + 1, s => body (gb_lp body n) s
theorem gb_lpE {σ β : Type} {body : (σ → Option β) → σ → Option β} {P : σ → β → Prop} (hb : ∀ k : σ → Option β, (∀ s r, k s = some r → P s r) → ∀ s r, body k s = some r → P s r) : ∀ (n : Nat) (s : σ) (r : β), gb_lp body n s = some r → P s r
  | 0, _, _, h => by cases h
  | n + 1, s, r, h => hb _ (gb_lpE hb n) s r h
def gb_k (h : gb_H) (o c : Nat) : Bool := (gb_kd h o).1 == c
theorem gb_kE {h : gb_H} {o c : Nat} (e : gb_k h o c = true) : (gb_kd h o).1 = c := by simpa [gb_k] using e
def gb_in (h : gb_H) (a : Nat) (i : Int32) : Bool := decide (¬ i < 0) && decide (i.toNatClampNeg < (gb_kd h a).2)
theorem gb_inE {h : gb_H} {a : Nat} {i : Int32} (e : gb_in h a i = true) : vp_in i (gb_kd h a).2 := by
  simp only [gb_in, Bool.and_eq_true, decide_eq_true_eq] at e
  exact fun q => q.elim e.1 (Nat.not_le.mpr e.2)
def gb_nz (y : Int32) : Bool := decide (¬ y = 0)
theorem gb_nzE {y : Int32} (e : gb_nz y = true) : ¬ y = 0 := by simpa [gb_nz] using e
def gb_nzL (y : Int64) : Bool := decide (¬ y = 0)
theorem gb_nzLE {y : Int64} (e : gb_nzL y = true) : ¬ y = 0 := by simpa [gb_nzL] using e
def gb_b (x : Int32) : Bool := decide (x &&& 1 = x)
theorem gb_bE {x : Int32} (e : gb_b x = true) : x &&& 1 = x := by simpa [gb_b] using e
def gb_nn (n : Int32) (w : Nat) : Bool := decide (¬ n < 0) && decide (n.toNatClampNeg * w ≤ 536870912)
theorem gb_nnE {n : Int32} {w : Nat} (e : gb_nn n w = true) : ¬ n < 0 ∧ n.toNatClampNeg * w ≤ 536870912 := by simpa [gb_nn] using e
def gb_st0 (i : Nat) : Bool := decide (i < gb_ns)
theorem gb_st0E {i : Nat} (e : gb_st0 i = true) : i < gb_ns := by simpa [gb_st0] using e
def gb_wI (q : Int32 × gb_H) : Option Value × gb_H := (some (.int q.1), q.2)
def gb_wJ (q : Int64 × gb_H) : Option Value × gb_H := (some (.long q.1), q.2)
def gb_wA (q : Nat × gb_H) : Option Value × gb_H := (some (.ref q.1), q.2)
def gb_wV (q : Unit × gb_H) : Option Value × gb_H := (none, q.2)
section GM
variable {X : gb_X} {d : Nat} {M : gb_M} {pc : Nat} {L : List (Option Value)} {S : List Value} {h : gb_H} {r : Option Value × gb_H}
theorem gb_topI {x y : Int32} (e : x = y) (k : gb_Ev X d M pc L (.int x :: S) h r) : gb_Ev X d M pc L (.int y :: S) h r := e ▸ k
theorem gb_topJ {x y : Int64} (e : x = y) (k : gb_Ev X d M pc L (.long x :: S) h r) : gb_Ev X d M pc L (.long y :: S) h r := e ▸ k
theorem gb_topA {x y : Nat} (e : x = y) (k : gb_Ev X d M pc L (.ref x :: S) h r) : gb_Ev X d M pc L (.ref y :: S) h r := e ▸ k
theorem gb_topI2 {v : Value} {x y : Int32} (e : x = y) (k : gb_Ev X d M pc L (v :: .int x :: S) h r) : gb_Ev X d M pc L (v :: .int y :: S) h r := e ▸ k
theorem gb_hp {h2 : gb_H} (e : h2 = h) (k : gb_Ev X d M pc L S h2 r) : gb_Ev X d M pc L S h r := e ▸ k
theorem gb_res {r2 : Option Value × gb_H} (e : r2 = r) (k : gb_Ev X d M pc L S h r2) : gb_Ev X d M pc L S h r := e ▸ k
theorem gb_pop {v : Value} (hd : decode M.2.1 pc = .ok (.pop, 1)) (hc : v.category = 1) (k : gb_Ev X d M (pc + 1) L S h r) : gb_Ev X d M pc L (v :: S) h r := by
  refine ⟨k.1, ?_⟩
  intro G p l e R s m args below meth c n0 s0 C h1 h2 h3 h4 H locs ls hR hq hL
  exact lv_pop C.1 C.2.1 hd ((gb_tv_cat G v).trans hc) (k.2 G p l e R s m args below meth c n0 s0 C h1 h2 h3 h4 H locs ls hR hq hL)
theorem gb_i2c {x : Int32} (hd : decode M.2.1 pc = .ok (.i2c, 1)) (k : gb_Ev X d M (pc + 1) L (.int (x.toUInt32 % 65536).toInt32 :: S) h r) : gb_Ev X d M pc L (.int x :: S) h r := by
  refine ⟨k.1, ?_⟩
  intro G p l e R s m args below meth c n0 s0 C h1 h2 h3 h4 H locs ls hR hq hL
  exact lv_i2c C.1 C.2.1 hd rfl (k.2 G p l e R s m args below meth c n0 s0 C h1 h2 h3 h4 H locs ls hR hq hL)
theorem gb_nret {x : Int32} {ty : FieldType} (hd : decode M.2.1 pc = .ok (.ireturn, 1)) (hr : M.2.2.2 = some ty) (hn : narrow ty (.int x) = .int x) : gb_Ev X d M pc L [.int x] h (some (.int x), h) := by
  refine ⟨⟨Nat.le_refl _, Nat.le_refl _⟩, ?_⟩
  intro G p l e R s m args below meth c n0 s0 C h1 h2 h3 h4 H locs ls hR hq hL
  exact W.zret C.1 C.2.1 (C.2.2.2.1.trans hr) hn (fun t ht _ => ⟨rfl, by rw [ht]; exact hR⟩) hq hd (hlocks := C.2.2.2.2.1)
/-! two longs compared, then a branch -/
theorem gb_cmp_lt (x y : Int64) : lg_cmp x y < 0 ↔ x < y := by
  unfold lg_cmp
  simp only [gt_iff_lt, Int64.lt_iff_toInt_lt, ← Int64.toInt_inj]
  split
  · constructor
    · intro q; exact absurd q (by decide)
    · intro q; omega
  · split
    · constructor
      · intro q; exact absurd q (by decide)
      · intro q; omega
    · constructor
      · intro _; omega
      · intro _; decide
theorem gb_cmp_gt (x y : Int64) : 0 < lg_cmp x y ↔ y < x := by
  unfold lg_cmp
  simp only [gt_iff_lt, Int64.lt_iff_toInt_lt, ← Int64.toInt_inj]
  split
  · constructor
    · intro _; assumption
    · intro _; decide
  · split
    · constructor
      · intro q; exact absurd q (by decide)
      · intro q; omega
    · constructor
      · intro q; exact absurd q (by decide)
      · intro q; omega
theorem gb_cmp_eq (x y : Int64) : lg_cmp x y = 0 ↔ x = y := by
  unfold lg_cmp
  simp only [gt_iff_lt, Int64.lt_iff_toInt_lt, ← Int64.toInt_inj]
  split
  · constructor
    · intro q; exact absurd q (by decide)
    · intro q; omega
  · split
    · constructor
      · intro _; assumption
      · intro _; rfl
    · constructor
      · intro q; exact absurd q (by decide)
      · intro q; contradiction
theorem gb_cmp_ge (x y : Int64) : 0 ≤ lg_cmp x y ↔ y ≤ x := lg_cmp_ge x y
theorem gb_cmp_le (x y : Int64) : lg_cmp x y ≤ 0 ↔ x ≤ y := by
  have h1 := gb_cmp_gt x y
  rw [Int32.lt_iff_toInt_lt, Int64.lt_iff_toInt_lt] at h1
  rw [Int32.le_iff_toInt_le, Int64.le_iff_toInt_le]
  omega
theorem gb_lc_eq {x y : Int64} {off : Int} {tgt : Nat} (hd : decode M.2.1 pc = .ok (.lcmp, 1)) (hd2 : decode M.2.1 (pc + 1) = .ok (.ifCond .eq off, 3)) (ht : ((pc + 1 : Nat) : Int) + off = (tgt : Int)) (kt : x = y → gb_Ev X d M tgt L S h r) (kf : ¬ x = y → gb_Ev X d M (pc + 1 + 3) L S h r) : gb_Ev X d M pc L (.long y :: .long x :: S) h r :=
  gb_lcmp hd (gb_if_eq hd2 ht (fun q => kt ((gb_cmp_eq x y).mp q)) (fun q => kf (fun e => q ((gb_cmp_eq x y).mpr e))))
theorem gb_lc_ne {x y : Int64} {off : Int} {tgt : Nat} (hd : decode M.2.1 pc = .ok (.lcmp, 1)) (hd2 : decode M.2.1 (pc + 1) = .ok (.ifCond .ne off, 3)) (ht : ((pc + 1 : Nat) : Int) + off = (tgt : Int)) (kt : ¬ x = y → gb_Ev X d M tgt L S h r) (kf : x = y → gb_Ev X d M (pc + 1 + 3) L S h r) : gb_Ev X d M pc L (.long y :: .long x :: S) h r :=
  gb_lcmp hd (gb_if_ne hd2 ht (fun q => kt (fun e => q ((gb_cmp_eq x y).mpr e))) (fun q => kf ((gb_cmp_eq x y).mp q)))
theorem gb_lc_lt {x y : Int64} {off : Int} {tgt : Nat} (hd : decode M.2.1 pc = .ok (.lcmp, 1)) (hd2 : decode M.2.1 (pc + 1) = .ok (.ifCond .lt off, 3)) (ht : ((pc + 1 : Nat) : Int) + off = (tgt : Int)) (kt : x < y → gb_Ev X d M tgt L S h r) (kf : ¬ x < y → gb_Ev X d M (pc + 1 + 3) L S h r) : gb_Ev X d M pc L (.long y :: .long x :: S) h r :=
  gb_lcmp hd (gb_if_lt hd2 ht (fun q => kt ((gb_cmp_lt x y).mp q)) (fun q => kf (fun e => q ((gb_cmp_lt x y).mpr e))))
theorem gb_lc_ge {x y : Int64} {off : Int} {tgt : Nat} (hd : decode M.2.1 pc = .ok (.lcmp, 1)) (hd2 : decode M.2.1 (pc + 1) = .ok (.ifCond .ge off, 3)) (ht : ((pc + 1 : Nat) : Int) + off = (tgt : Int)) (kt : y ≤ x → gb_Ev X d M tgt L S h r) (kf : ¬ y ≤ x → gb_Ev X d M (pc + 1 + 3) L S h r) : gb_Ev X d M pc L (.long y :: .long x :: S) h r :=
  gb_lcmp hd (gb_if_ge hd2 ht (fun q => kt ((gb_cmp_ge x y).mp q)) (fun q => kf (fun e => q ((gb_cmp_ge x y).mpr e))))
theorem gb_lc_gt {x y : Int64} {off : Int} {tgt : Nat} (hd : decode M.2.1 pc = .ok (.lcmp, 1)) (hd2 : decode M.2.1 (pc + 1) = .ok (.ifCond .gt off, 3)) (ht : ((pc + 1 : Nat) : Int) + off = (tgt : Int)) (kt : y < x → gb_Ev X d M tgt L S h r) (kf : ¬ y < x → gb_Ev X d M (pc + 1 + 3) L S h r) : gb_Ev X d M pc L (.long y :: .long x :: S) h r :=
  gb_lcmp hd (gb_if_gt hd2 ht (fun q => kt ((gb_cmp_gt x y).mp q)) (fun q => kf (fun e => q ((gb_cmp_gt x y).mpr e))))
theorem gb_lc_le {x y : Int64} {off : Int} {tgt : Nat} (hd : decode M.2.1 pc = .ok (.lcmp, 1)) (hd2 : decode M.2.1 (pc + 1) = .ok (.ifCond .le off, 3)) (ht : ((pc + 1 : Nat) : Int) + off = (tgt : Int)) (kt : x ≤ y → gb_Ev X d M tgt L S h r) (kf : ¬ x ≤ y → gb_Ev X d M (pc + 1 + 3) L S h r) : gb_Ev X d M pc L (.long y :: .long x :: S) h r :=
  gb_lcmp hd (gb_if_le hd2 ht (fun q => kt ((gb_cmp_le x y).mp q)) (fun q => kf (fun e => q ((gb_cmp_le x y).mpr e))))
/-! the script -/
theorem gb_sld {i : Int32} (hd : decode M.2.1 pc = .ok (.iaload, 1)) (hi : vp_in i X.1) (k : gb_Ev X d M (pc + 1) L (.int (X.2 i.toNatClampNeg) :: S) h r) : gb_Ev X d M pc L (.int i :: .retAddr 1000 :: S) h r := by
  refine ⟨k.1, ?_⟩
  intro G p l e R s m args below meth c n0 s0 C h1 h2 h3 h4 H locs ls hR hq hL
  have hX : G.2.2.2.2.2.2 = X := C.2.2.2.2.2.2.2.2.2.2.2
  obtain ⟨b1, scr, b2, b0, b3, b4, b5⟩ := C.2.2.2.2.2.2.2.2.1.2.2.2.2.2.2.1
  rw [hX] at b4 b5
  have hlt : i.toNatClampNeg < X.1 := Nat.not_le.mp fun q => hi (Or.inr q)
  exact W.iald (v := .int (X.2 i.toNatClampNeg)) C.1 C.2.1 ((hR.2.1 _ b1).trans b2) b0 b3 (by rw [b4]; exact hi) (b5 _ hlt) rfl rfl hd (k.2 G p l e R s m args below meth c n0 s0 C h1 h2 h3 h4 H locs ls hR hq hL)
theorem gb_slen (hd : decode M.2.1 pc = .ok (.arraylength, 1)) (k : gb_Ev X d M (pc + 1) L (.int (Int32.ofNat X.1) :: S) h r) : gb_Ev X d M pc L (.retAddr 1000 :: S) h r := by
  refine ⟨k.1, ?_⟩
  intro G p l e R s m args below meth c n0 s0 C h1 h2 h3 h4 H locs ls hR hq hL
  have hX : G.2.2.2.2.2.2 = X := C.2.2.2.2.2.2.2.2.2.2.2
  obtain ⟨b1, scr, b2, b0, b3, b4, b5⟩ := C.2.2.2.2.2.2.2.2.1.2.2.2.2.2.2.1
  rw [hX] at b4
  exact W.alen (n := Int32.ofNat X.1) C.1 C.2.1 ((hR.2.1 _ b1).trans b2) b0 (by rw [b4] <;> rfl) rfl rfl hd (k.2 G p l e R s m args below meth c n0 s0 C h1 h2 h3 h4 H locs ls hR hq hL)
def gb_inX (X : gb_X) (i : Int32) : Bool := decide (¬ i < 0) && decide (i.toNatClampNeg < X.1)
theorem gb_inXE {i : Int32} (e : gb_inX X i = true) : vp_in i X.1 := by
  simp only [gb_inX, Bool.and_eq_true, decide_eq_true_eq] at e
  exact fun q => q.elim e.1 (Nat.not_le.mpr e.2)
/-! Math -/
theorem gb_hml {G : gb_W} {p : Program} {R : Room} {s : State} {m : MethodId} {args : Array Value} {meth : Method} {c : Code} {ls : Array Slot} (C : gb_Cx X G d M p R s m args meth c) (hL : gb_LR G L M.2.2.1 ls) : c.maxLocals = ls.size := C.2.2.1.trans hL.1.symm
theorem gb_mmax {idx : Nat} {x y : Int32} (hd : decode M.2.1 pc = .ok (.invokestatic idx, 3)) (hl : Cond.methodLink M.1.cls idx Lib.Math.max.name ∈ gb_ws) (hst : Cond.static Lib.Math.max.name ∈ gb_ws) (hini : Cond.initialized "java/lang/Math" ∈ gb_ws) (hcd : Cond.code Lib.Math.max.name Lib.Math.max.code 2 (some .int) ∈ gb_ws) (h1d : 1 ≤ d) (hS : (S.map fun v => v.category).sum ≤ 8) (k : gb_Ev X d M (pc + 3) L (.int (if x < y then y else x) :: S) h r) : gb_Ev X d M pc L (.int y :: .int x :: S) h r := by
  refine ⟨k.1, ?_⟩
  intro G p l e R s m args below meth c n0 s0 C h1 h2 h3 h4 H locs ls hR hq hL
  have hts := C.2.2.2.2.2.2.2.1
  have hrf := C.2.2.2.2.2.2.2.2.2
  have g1 := k.1.1
  have g2 := k.1.2
  have hS2 : ((S.map (gb_tv G)).map fun v => v.category).sum ≤ 8 := by rw [gb_tv_cats]; exact hS
  exact va_mmax C.1 C.2.1 (gb_hml C hL) C.2.2.2.2.2.2.1 (hts _ hl) (hts _ hst) (hts _ hini) (hts _ hcd) (by omega) (by omega) (by omega) (by omega) hd (k.2 G p l e R s m args below meth c n0 s0 C h1 h2 h3 h4 H locs ls hR hq hL)
theorem gb_mmin {idx : Nat} {x y : Int32} (hd : decode M.2.1 pc = .ok (.invokestatic idx, 3)) (hl : Cond.methodLink M.1.cls idx Lib.Math.min.name ∈ gb_ws) (hst : Cond.static Lib.Math.min.name ∈ gb_ws) (hini : Cond.initialized "java/lang/Math" ∈ gb_ws) (hcd : Cond.code Lib.Math.min.name Lib.Math.min.code 2 (some .int) ∈ gb_ws) (h1d : 1 ≤ d) (hS : (S.map fun v => v.category).sum ≤ 8) (k : gb_Ev X d M (pc + 3) L (.int (if y < x then y else x) :: S) h r) : gb_Ev X d M pc L (.int y :: .int x :: S) h r := by
  refine ⟨k.1, ?_⟩
  intro G p l e R s m args below meth c n0 s0 C h1 h2 h3 h4 H locs ls hR hq hL
  have hts := C.2.2.2.2.2.2.2.1
  have hrf := C.2.2.2.2.2.2.2.2.2
  have g1 := k.1.1
  have g2 := k.1.2
  have hS2 : ((S.map (gb_tv G)).map fun v => v.category).sum ≤ 8 := by rw [gb_tv_cats]; exact hS
  exact va_mmin C.1 C.2.1 (gb_hml C hL) C.2.2.2.2.2.2.1 (hts _ hl) (hts _ hst) (hts _ hini) (hts _ hcd) (by omega) (by omega) (by omega) (by omega) hd (k.2 G p l e R s m args below meth c n0 s0 C h1 h2 h3 h4 H locs ls hR hq hL)
theorem gb_mabs {idx : Nat} {x : Int32} (hd : decode M.2.1 pc = .ok (.invokestatic idx, 3)) (hl : Cond.methodLink M.1.cls idx Lib.Math.abs.name ∈ gb_ws) (hst : Cond.static Lib.Math.abs.name ∈ gb_ws) (hini : Cond.initialized "java/lang/Math" ∈ gb_ws) (hcd : Cond.code Lib.Math.abs.name Lib.Math.abs.code 1 (some .int) ∈ gb_ws) (h1d : 1 ≤ d) (hS : (S.map fun v => v.category).sum ≤ 8) (k : gb_Ev X d M (pc + 3) L (.int (if 0 ≤ x then x else 0 - x) :: S) h r) : gb_Ev X d M pc L (.int x :: S) h r := by
  refine ⟨k.1, ?_⟩
  intro G p l e R s m args below meth c n0 s0 C h1 h2 h3 h4 H locs ls hR hq hL
  have hts := C.2.2.2.2.2.2.2.1
  have hrf := C.2.2.2.2.2.2.2.2.2
  have g1 := k.1.1
  have g2 := k.1.2
  have hS2 : ((S.map (gb_tv G)).map fun v => v.category).sum ≤ 8 := by rw [gb_tv_cats]; exact hS
  exact va_mabs C.1 C.2.1 (gb_hml C hL) C.2.2.2.2.2.2.1 (hts _ hl) (hts _ hst) (hts _ hini) (hts _ hcd) (by omega) (by omega) (by omega) (by omega) hd (k.2 G p l e R s m args below meth c n0 s0 C h1 h2 h3 h4 H locs ls hR hq hL)
theorem gb_mmaxL {idx : Nat} {x y : Int64} (hd : decode M.2.1 pc = .ok (.invokestatic idx, 3)) (hl : Cond.methodLink M.1.cls idx Lib.MathLoose.max_long.x ∈ gb_ws) (hst : Cond.static Lib.MathLoose.max_long.x ∈ gb_ws) (hini : Cond.initialized "java/lang/Math" ∈ gb_ws) (hcd : Cond.code Lib.MathLoose.max_long.x Lib.MathLoose.max_long.code 4 (some .long) ∈ gb_ws) (h1d : 1 ≤ d) (hS : (S.map fun v => v.category).sum ≤ 8) (k : gb_Ev X d M (pc + 3) L (.long (if y < x then x else y) :: S) h r) : gb_Ev X d M pc L (.long y :: .long x :: S) h r := by
  refine ⟨k.1, ?_⟩
  intro G p l e R s m args below meth c n0 s0 C h1 h2 h3 h4 H locs ls hR hq hL
  have hts := C.2.2.2.2.2.2.2.1
  have hrf := C.2.2.2.2.2.2.2.2.2
  have g1 := k.1.1
  have g2 := k.1.2
  have hS2 : ((S.map (gb_tv G)).map fun v => v.category).sum ≤ 8 := by rw [gb_tv_cats]; exact hS
  exact va_mmax_long C.1 C.2.1 (gb_hml C hL) C.2.2.2.2.2.2.1 (hts _ hl) (hts _ hst) (hts _ hini) (hts _ hcd) (by omega) (by omega) (by omega) (by omega) hd (k.2 G p l e R s m args below meth c n0 s0 C h1 h2 h3 h4 H locs ls hR hq hL)
theorem gb_mabsL {idx : Nat} {x : Int64} (hd : decode M.2.1 pc = .ok (.invokestatic idx, 3)) (hl : Cond.methodLink M.1.cls idx Lib.MathLoose.abs_long.x ∈ gb_ws) (hst : Cond.static Lib.MathLoose.abs_long.x ∈ gb_ws) (hini : Cond.initialized "java/lang/Math" ∈ gb_ws) (hcd : Cond.code Lib.MathLoose.abs_long.x Lib.MathLoose.abs_long.code 2 (some .long) ∈ gb_ws) (h1d : 1 ≤ d) (hS : (S.map fun v => v.category).sum ≤ 8) (k : gb_Ev X d M (pc + 3) L (.long (if 0 < x then x else -x) :: S) h r) : gb_Ev X d M pc L (.long x :: S) h r := by
  refine ⟨k.1, ?_⟩
  intro G p l e R s m args below meth c n0 s0 C h1 h2 h3 h4 H locs ls hR hq hL
  have hts := C.2.2.2.2.2.2.2.1
  have hrf := C.2.2.2.2.2.2.2.2.2
  have g1 := k.1.1
  have g2 := k.1.2
  have hS2 : ((S.map (gb_tv G)).map fun v => v.category).sum ≤ 8 := by rw [gb_tv_cats]; exact hS
  exact va_mabs_long C.1 C.2.1 (gb_hml C hL) C.2.2.2.2.2.2.1 (hts _ hl) (hts _ hst) (hts _ hini) (hts _ hcd) (by omega) (by omega) (by omega) (by omega) hd (k.2 G p l e R s m args below meth c n0 s0 C h1 h2 h3 h4 H locs ls hR hq hL)
end GM
/-- the empty store -/
def gb_h0 : gb_H := (0, 0, fun _ => (99, 0), fun _ _ => 0, fun _ _ => 0, fun _ _ => none)
theorem gb_bit {x : Int32} (h : x &&& 1 = x) : x = 0 ∨ x = 1 := by
  have e := pk_and x (m := 1) 1 (by decide)
  rw [h] at e
  have h2 : x.toBitVec.toNat % 2 ^ 1 < 2 := Nat.mod_lt _ (by decide)
  generalize x.toBitVec.toNat % 2 ^ 1 = t at e h2
  match t, h2 with
  | 0, _ => exact Or.inl e
  | 1, _ => exact Or.inr e
theorem gb_zfit {x : Int32} (h : x &&& 1 = x) : narrow .boolean (.int x) = .int x ∧ fits .boolean (.int x) = true := by
  rcases gb_bit h with rfl | rfl <;> exact ⟨rfl, rfl⟩
def gb_RD : Nat := 8
section GM2
variable {X : gb_X} {d : Nat} {M : gb_M} {pc : Nat} {L : List (Option Value)} {S : List Value} {h : gb_H} {r : Option Value × gb_H}
theorem gb_wk {L' : List (Option Value)} (k : gb_Ev X d M pc L' S h r) (hl : gb_le L' L) : gb_Ev X d M pc L S h r := gb_weak hl k
theorem gb_topJ2 {v : Value} {x y : Int64} (e : x = y) (k : gb_Ev X d M pc L (v :: .long x :: S) h r) : gb_Ev X d M pc L (v :: .long y :: S) h r := e ▸ k
end GM2
theorem gb_swo3 {x : Int32} (c0 : ¬ x = 0) (c1 : ¬ x = 1) (c2 : ¬ x = 2) : x.toInt < 0 ∨ 2 < x.toInt := by
  have h0 : x.toInt ≠ 0 := fun e => c0 (Int32.toInt_inj.mp (e.trans (by decide)))
  have h1 : x.toInt ≠ 1 := fun e => c1 (Int32.toInt_inj.mp (e.trans (by decide)))
  have h2 : x.toInt ≠ 2 := fun e => c2 (Int32.toInt_inj.mp (e.trans (by decide)))
  omega
theorem gb_swo5 {x : Int32} (c0 : ¬ x = 0) (c1 : ¬ x = 1) (c2 : ¬ x = 2) (c3 : ¬ x = 3) (c4 : ¬ x = 4) : x.toInt < 0 ∨ 4 < x.toInt := by
  have h0 : x.toInt ≠ 0 := fun e => c0 (Int32.toInt_inj.mp (e.trans (by decide)))
  have h1 : x.toInt ≠ 1 := fun e => c1 (Int32.toInt_inj.mp (e.trans (by decide)))
  have h2 : x.toInt ≠ 2 := fun e => c2 (Int32.toInt_inj.mp (e.trans (by decide)))
  have h3 : x.toInt ≠ 3 := fun e => c3 (Int32.toInt_inj.mp (e.trans (by decide)))
  have h4 : x.toInt ≠ 4 := fun e => c4 (Int32.toInt_inj.mp (e.trans (by decide)))
  omega
theorem gb_swo8 {x : Int32} (c0 : ¬ x = 0) (c1 : ¬ x = 1) (c2 : ¬ x = 2) (c3 : ¬ x = 3) (c4 : ¬ x = 4) (c5 : ¬ x = 5) (c6 : ¬ x = 6) (c7 : ¬ x = 7) : x.toInt < 0 ∨ 7 < x.toInt := by
  have h0 : x.toInt ≠ 0 := fun e => c0 (Int32.toInt_inj.mp (e.trans (by decide)))
  have h1 : x.toInt ≠ 1 := fun e => c1 (Int32.toInt_inj.mp (e.trans (by decide)))
  have h2 : x.toInt ≠ 2 := fun e => c2 (Int32.toInt_inj.mp (e.trans (by decide)))
  have h3 : x.toInt ≠ 3 := fun e => c3 (Int32.toInt_inj.mp (e.trans (by decide)))
  have h4 : x.toInt ≠ 4 := fun e => c4 (Int32.toInt_inj.mp (e.trans (by decide)))
  have h5 : x.toInt ≠ 5 := fun e => c5 (Int32.toInt_inj.mp (e.trans (by decide)))
  have h6 : x.toInt ≠ 6 := fun e => c6 (Int32.toInt_inj.mp (e.trans (by decide)))
  have h7 : x.toInt ≠ 7 := fun e => c7 (Int32.toInt_inj.mp (e.trans (by decide)))
  omega
theorem gb_swo24 {x : Int32} (c0 : ¬ x = 0) (c1 : ¬ x = 1) (c2 : ¬ x = 2) (c3 : ¬ x = 3) (c4 : ¬ x = 4) (c5 : ¬ x = 5) (c6 : ¬ x = 6) (c7 : ¬ x = 7) (c8 : ¬ x = 8) (c9 : ¬ x = 9) (c10 : ¬ x = 10) (c11 : ¬ x = 11) (c12 : ¬ x = 12) (c13 : ¬ x = 13) (c14 : ¬ x = 14) (c15 : ¬ x = 15) (c16 : ¬ x = 16) (c17 : ¬ x = 17) (c18 : ¬ x = 18) (c19 : ¬ x = 19) (c20 : ¬ x = 20) (c21 : ¬ x = 21) (c22 : ¬ x = 22) (c23 : ¬ x = 23) : x.toInt < 0 ∨ 23 < x.toInt := by
  have h0 : x.toInt ≠ 0 := fun e => c0 (Int32.toInt_inj.mp (e.trans (by decide)))
  have h1 : x.toInt ≠ 1 := fun e => c1 (Int32.toInt_inj.mp (e.trans (by decide)))
  have h2 : x.toInt ≠ 2 := fun e => c2 (Int32.toInt_inj.mp (e.trans (by decide)))
  have h3 : x.toInt ≠ 3 := fun e => c3 (Int32.toInt_inj.mp (e.trans (by decide)))
  have h4 : x.toInt ≠ 4 := fun e => c4 (Int32.toInt_inj.mp (e.trans (by decide)))
  have h5 : x.toInt ≠ 5 := fun e => c5 (Int32.toInt_inj.mp (e.trans (by decide)))
  have h6 : x.toInt ≠ 6 := fun e => c6 (Int32.toInt_inj.mp (e.trans (by decide)))
  have h7 : x.toInt ≠ 7 := fun e => c7 (Int32.toInt_inj.mp (e.trans (by decide)))
  have h8 : x.toInt ≠ 8 := fun e => c8 (Int32.toInt_inj.mp (e.trans (by decide)))
  have h9 : x.toInt ≠ 9 := fun e => c9 (Int32.toInt_inj.mp (e.trans (by decide)))
  have h10 : x.toInt ≠ 10 := fun e => c10 (Int32.toInt_inj.mp (e.trans (by decide)))
  have h11 : x.toInt ≠ 11 := fun e => c11 (Int32.toInt_inj.mp (e.trans (by decide)))
  have h12 : x.toInt ≠ 12 := fun e => c12 (Int32.toInt_inj.mp (e.trans (by decide)))
  have h13 : x.toInt ≠ 13 := fun e => c13 (Int32.toInt_inj.mp (e.trans (by decide)))
  have h14 : x.toInt ≠ 14 := fun e => c14 (Int32.toInt_inj.mp (e.trans (by decide)))
  have h15 : x.toInt ≠ 15 := fun e => c15 (Int32.toInt_inj.mp (e.trans (by decide)))
  have h16 : x.toInt ≠ 16 := fun e => c16 (Int32.toInt_inj.mp (e.trans (by decide)))
  have h17 : x.toInt ≠ 17 := fun e => c17 (Int32.toInt_inj.mp (e.trans (by decide)))
  have h18 : x.toInt ≠ 18 := fun e => c18 (Int32.toInt_inj.mp (e.trans (by decide)))
  have h19 : x.toInt ≠ 19 := fun e => c19 (Int32.toInt_inj.mp (e.trans (by decide)))
  have h20 : x.toInt ≠ 20 := fun e => c20 (Int32.toInt_inj.mp (e.trans (by decide)))
  have h21 : x.toInt ≠ 21 := fun e => c21 (Int32.toInt_inj.mp (e.trans (by decide)))
  have h22 : x.toInt ≠ 22 := fun e => c22 (Int32.toInt_inj.mp (e.trans (by decide)))
  have h23 : x.toInt ≠ 23 := fun e => c23 (Int32.toInt_inj.mp (e.trans (by decide)))
  omega
theorem gb_mini : Cond.initialized "java/lang/Math" ∈ gb_ws := gb_wi 119 (by decide +kernel) rfl
theorem gb_sdmax : Cond.static Lib.Math.max.name ∈ gb_ws := gb_wi 732 (by decide +kernel) rfl
theorem gb_cdmax : Cond.code Lib.Math.max.name Lib.Math.max.code 2 (some .int) ∈ gb_ws := gb_wi 733 (by decide +kernel) rfl
theorem lmX10_259 : Cond.methodLink RX10 259 Lib.Math.max.name ∈ gb_ws := gb_wi 838 (by decide +kernel) rfl
theorem lmX0_38 : Cond.methodLink RX0 38 Lib.Math.max.name ∈ gb_ws := gb_wi 731 (by decide +kernel) rfl
theorem gb_sdmin : Cond.static Lib.Math.min.name ∈ gb_ws := gb_wi 550 (by decide +kernel) rfl
theorem gb_cdmin : Cond.code Lib.Math.min.name Lib.Math.min.code 2 (some .int) ∈ gb_ws := gb_wi 551 (by decide +kernel) rfl
theorem lmX10_264 : Cond.methodLink RX10 264 Lib.Math.min.name ∈ gb_ws := gb_wi 839 (by decide +kernel) rfl
theorem lmX0_32 : Cond.methodLink RX0 32 Lib.Math.min.name ∈ gb_ws := gb_wi 730 (by decide +kernel) rfl
theorem lmX2_39 : Cond.methodLink RX2 39 Lib.Math.min.name ∈ gb_ws := gb_wi 720 (by decide +kernel) rfl
theorem lmX7_181 : Cond.methodLink RX7 181 Lib.Math.min.name ∈ gb_ws := gb_wi 549 (by decide +kernel) rfl
theorem gb_sdabs : Cond.static Lib.Math.abs.name ∈ gb_ws := gb_wi 953 (by decide +kernel) rfl
theorem gb_cdabs : Cond.code Lib.Math.abs.name Lib.Math.abs.code 1 (some .int) ∈ gb_ws := gb_wi 954 (by decide +kernel) rfl
theorem lmX10_283 : Cond.methodLink RX10 283 Lib.Math.abs.name ∈ gb_ws := gb_wi 952 (by decide +kernel) rfl
theorem gb_sdmaxL : Cond.static Lib.MathLoose.max_long.x ∈ gb_ws := gb_wi 994 (by decide +kernel) rfl
theorem gb_cdmaxL : Cond.code Lib.MathLoose.max_long.x Lib.MathLoose.max_long.code 4 (some .long) ∈ gb_ws := gb_wi 995 (by decide +kernel) rfl
theorem lmX3_60 : Cond.methodLink RX3 60 Lib.MathLoose.max_long.x ∈ gb_ws := gb_wi 993 (by decide +kernel) rfl
theorem gb_sdabsL : Cond.static Lib.MathLoose.abs_long.x ∈ gb_ws := gb_wi 883 (by decide +kernel) rfl
theorem gb_cdabsL : Cond.code Lib.MathLoose.abs_long.x Lib.MathLoose.abs_long.code 2 (some .long) ∈ gb_ws := gb_wi 884 (by decide +kernel) rfl
theorem lmX8_13 : Cond.methodLink RX8 13 Lib.MathLoose.abs_long.x ∈ gb_ws := gb_wi 882 (by decide +kernel) rfl
section GC2
variable {X : gb_X} {d d' n : Nat} {M M' : gb_M} {pc : Nat} {L : List (Option Value)} {S S2 St : List Value} {h h1 : gb_H} {r : Option Value × gb_H} {v : Option Value} {idx : Nat} {As : List Value}
theorem gb_cS (hd : decode M.2.1 pc = .ok (.invokestatic idx, 3)) (hm : gb_mt M' n) (hl : Cond.methodLink M.1.cls idx M'.1 ∈ gb_ws ∨ ∃ host, Cond.methodLinkNest M.1.cls idx M'.1 host ∈ gb_nest) (hst : Cond.static M'.1 ∈ gb_ws)
    (hE : gb_Ev X d' M' 0 (gb_L0 As) [] h (v, h1)) (hdd : d' + 1 ≤ d) (hn : As.length = n) (hA : (lg_sl As).length ≤ M'.2.2.1) (hS : (S.map fun v => v.category).sum ≤ 8) (hSt : As.reverse ++ S = St) (hS2 : v.toList ++ S = S2) (k : gb_Ev X d M (pc + 3) L S2 h1 r) : gb_Ev X d M pc L St h r := gb_callS hd hm hl hst hE hdd hn hA hS hSt (hS2 ▸ k)
theorem gb_cV {o ci N : Nat} {C0 : String} {T : u_T} (hc : gb_cf ci C0 T N) (hd : decode M.2.1 pc = .ok (.invokevirtual idx, 3)) (hm : gb_mt M' n) (hl : Cond.methodLink M.1.cls idx M'.1 ∈ gb_ws ∨ ∃ host, Cond.methodLinkNest M.1.cls idx M'.1 host ∈ gb_nest) (hin : Cond.instanceMethod M'.1 ∈ gb_ws) (hse : Cond.selects C0 M'.1 M'.1 ∈ gb_ws) (hk : (gb_kd h o).1 = ci)
    (hE : gb_Ev X d' M' 0 (gb_L0 (.ref o :: As)) [] h (v, h1)) (hdd : d' + 1 ≤ d) (hn : As.length = n) (hA : (lg_sl (.ref o :: As)).length ≤ M'.2.2.1) (hS : (S.map fun v => v.category).sum ≤ 8) (hSt : As.reverse ++ .ref o :: S = St) (hS2 : v.toList ++ S = S2) (k : gb_Ev X d M (pc + 3) L S2 h1 r) : gb_Ev X d M pc L St h r := gb_callV hc hd hm hl hin hse hk hE hdd hn hA hS hSt (hS2 ▸ k)
/-- a method of a text -/
theorem gb_cT {i : Nat} (hi : i < gb_ns) (hd : decode M.2.1 pc = .ok (.invokevirtual idx, 3)) (hm : gb_mt M' n) (hl : Cond.methodLink M.1.cls idx M'.1 ∈ gb_ws ∨ ∃ host, Cond.methodLinkNest M.1.cls idx M'.1 host ∈ gb_nest) (hin : Cond.instanceMethod M'.1 ∈ gb_ws) (hse : Cond.selects "java/lang/String" M'.1 M'.1 ∈ gb_ws)
    (hE : gb_Ev X d' M' 0 (gb_L0 (.retAddr i :: As)) [] h (v, h1)) (hdd : d' + 1 ≤ d) (hn : As.length = n) (hA : (lg_sl (.retAddr i :: As)).length ≤ M'.2.2.1) (hS : (S.map fun v => v.category).sum ≤ 8) (hSt : As.reverse ++ .retAddr i :: S = St) (hS2 : v.toList ++ S = S2) (k : gb_Ev X d M (pc + 3) L S2 h1 r) : gb_Ev X d M pc L St h r := by
  subst hSt
  subst hS2
  refine ⟨⟨Nat.le_trans hE.1.1 k.1.1, Nat.le_trans hE.1.2 k.1.2⟩, ?_⟩
  intro G p l e R s m args below meth c n0 s0 C h1' h2 h3 h4 H locs ls hR hq hL
  have g1 : gb_cn h ≤ gb_cn h1 := hE.1.1
  have g2 : gb_sl h ≤ gb_sl h1 := hE.1.2
  have g3 : gb_cn h1 ≤ gb_cn r.2 := k.1.1
  have g4 : gb_sl h1 ≤ gb_sl r.2 := k.1.2
  have hts := C.2.2.2.2.2.2.2.1
  have hM := gb_met G C.2.2.2.2.2.2.2.2.2.2.2 l hm hA hE
  have hrf := C.2.2.2.2.2.2.2.2.2
  have hmx := hm.2.2.2.2.2
  have hwd := C.2.2.2.2.2.2.2.2.1
  have hsz : G.2.1.size = G.1 := hwd.2.2.2.2.2.2.2.2.2
  obtain ⟨cellV, q1, q2, q3, -⟩ := (hwd.2.2.2.2.2.1.1 i hi).1.kept (H1 := H) (fun a ha _ => hR.2.1 a (by omega))
  have hp : PreV s H "java/lang/String" (G.2.2.2.2.1 i) (gb_Pc G (.retAddr i :: As) h) (As.map (gb_tv G)) := ⟨gb_blind G _ h, ⟨cellV, q1, q2, q3⟩, fun U hU hW => ⟨rfl, by rw [hU]; exact hR, hwd.warm hW⟩⟩
  have hroom : 2 * (F0 m pc ls ((As.reverse ++ .retAddr i :: S).map (gb_tv G))).monitorRoom + ((S.map (gb_tv G)).map fun v => v.category).sum ≤ 8 := lv_room (by rw [gb_tv_cats]; exact hS)
  refine gb_after (aa := (Value.ref (G.2.2.2.2.1 i) :: As.map (gb_tv G)).toArray) h1' h2 g1 g2 hq ?_ (fun H1 locs1 hR1 hq1 => k.2 G p l e R s m args below meth c n0 s0 C (by omega) (by omega) h3 h4 H1 locs1 ls hR1 hq1 hL)
  rcases hl with hl | ⟨host, hl⟩
  · exact va_runV (Ts := gb_ws) (own := M.1.cls) (n := n) ⟨C.1, C.2.1, C.2.2.1, C.2.2.2.2.2.2.1, hts⟩ hM ⟨⟨rfl, rfl, by show d' + 1 ≤ R.frames; omega, by show 8 + (M'.2.2.1 + 11) + 64 * d' ≤ R.locals; omega, pay_in hts (gb_goodM hm.1), List.mem_cons_self, hts _ hm.1, hts _ hm.2.1, hm.2.2.2.1, gb_par hm.2.2.2.2.1, hts _ hl⟩, hts _ hin, hts _ hse⟩ hp rfl (by rw [List.length_map]; exact hn) (hL.1) (by simp [F0, List.map_append, List.map_reverse, gb_tv]) hroom hd ⟨by show gb_cn h - n0 + (gb_cn h1 - gb_cn h) ≤ R.cells; omega, by show gb_sl h - s0 + (gb_sl h1 - gb_sl h) ≤ R.slots; omega⟩
  · exact va_runVN (Ts := gb_ws) (own := M.1.cls) (n := n) ⟨C.1, C.2.1, C.2.2.1, C.2.2.2.2.2.2.1, hts⟩ hM ⟨⟨⟨rfl, rfl, by show d' + 1 ≤ R.frames; omega, by show 8 + (M'.2.2.1 + 11) + 64 * d' ≤ R.locals; omega, pay_in hts (gb_goodM hm.1), List.mem_cons_self⟩, hts _ hm.1, hts _ hm.2.1, hm.2.2.2.1, gb_par hm.2.2.2.2.1, va_Nw.use rfl (hwd.2.2.1 _ hl)⟩, hts _ hin, hts _ hse⟩ hp rfl (by rw [List.length_map]; exact hn) (hL.1) (by simp [F0, List.map_append, List.map_reverse, gb_tv]) hroom hd ⟨by show gb_cn h - n0 + (gb_cn h1 - gb_cn h) ≤ R.cells; omega, by show gb_sl h - s0 + (gb_sl h1 - gb_sl h) ≤ R.slots; omega⟩
theorem gb_getT {i : Nat} (hi : i < gb_ns) (hl : Cond.fieldLink M.1.cls idx "java/lang/String" "value" "[B" ∈ gb_ws) (hd : decode M.2.1 pc = .ok (.getfield idx, 3)) (k : gb_Ev X d M (pc + 3) L (.retAddr (100 + i) :: S) h r) : gb_Ev X d M pc L (.retAddr i :: S) h r := by
  refine ⟨k.1, ?_⟩
  intro G p l e R s m args below meth c n0 s0 C h1 h2 h3 h4 H locs ls hR hq hL
  have hwd := C.2.2.2.2.2.2.2.2.1
  have hsz : G.2.1.size = G.1 := hwd.2.2.2.2.2.2.2.2.2
  obtain ⟨cf, kk, fi, f, cell, q1, q2, q3, q4, q5, q6⟩ := (hwd.2.2.2.2.2.1.1 i hi).2.2.1.kept (H1 := H) (fun a ha _ => hR.2.1 a (by omega))
  exact W.getf C.1 C.2.1 C.2.2.2.2.2.2.1 (C.2.2.2.2.2.2.2.1 _ hl) q1 q2 q3 q4 (v := .ref (G.2.2.2.2.1 (100 + i))) q5 rfl rfl hd (k.2 G p l e R s m args below meth c n0 s0 C h1 h2 h3 h4 H locs ls hR hq hL)
theorem gb_getTc {i : Nat} (hi : i < gb_ns) (hl : Cond.fieldLink M.1.cls idx "java/lang/String" "coder" "B" ∈ gb_ws) (hd : decode M.2.1 pc = .ok (.getfield idx, 3)) (k : gb_Ev X d M (pc + 3) L (.int 0 :: S) h r) : gb_Ev X d M pc L (.retAddr i :: S) h r := by
  refine ⟨k.1, ?_⟩
  intro G p l e R s m args below meth c n0 s0 C h1 h2 h3 h4 H locs ls hR hq hL
  have hwd := C.2.2.2.2.2.2.2.2.1
  have hsz : G.2.1.size = G.1 := hwd.2.2.2.2.2.2.2.2.2
  obtain ⟨cf, kk, fi, f, cell, q1, q2, q3, q4, q5, q6⟩ := (hwd.2.2.2.2.2.1.1 i hi).2.1.kept (H1 := H) (fun a ha _ => hR.2.1 a (by omega))
  exact W.getf C.1 C.2.1 C.2.2.2.2.2.2.1 (C.2.2.2.2.2.2.2.1 _ hl) q1 q2 q3 q4 (v := .int 0) q5 rfl rfl hd (k.2 G p l e R s m args below meth c n0 s0 C h1 h2 h3 h4 H locs ls hR hq hL)
theorem gb_lenT {i : Nat} (hi : i < gb_ns) (hd : decode M.2.1 pc = .ok (.arraylength, 1)) (k : gb_Ev X d M (pc + 1) L (.int (Int32.ofNat (gb_sn.getD i 0)) :: S) h r) : gb_Ev X d M pc L (.retAddr (100 + i) :: S) h r := by
  refine ⟨k.1, ?_⟩
  intro G p l e R s m args below meth c n0 s0 C h1 h2 h3 h4 H locs ls hR hq hL
  have hwd := C.2.2.2.2.2.2.2.2.1
  have hsz : G.2.1.size = G.1 := hwd.2.2.2.2.2.2.2.2.2
  obtain ⟨cell, q1, q2, q3, q4, q5, q6, q7⟩ := (hwd.2.2.2.2.2.1.1 i hi).2.2.2.kept (H1 := H) (fun a ha _ => hR.2.1 a (by omega))
  exact W.alen (n := Int32.ofNat (gb_sn.getD i 0)) C.1 C.2.1 q1 q2 q5 rfl rfl hd (k.2 G p l e R s m args below meth c n0 s0 C h1 h2 h3 h4 H locs ls hR hq hL)
theorem gb_ldT {i : Nat} {x : Int32} (hi : i < gb_ns) (hx : vp_in x (gb_sn.getD i 0)) (hd : decode M.2.1 pc = .ok (.baload, 1)) (k : gb_Ev X d M (pc + 1) L (.int ((gb_sb.getD i []).getD x.toNatClampNeg 0) :: S) h r) : gb_Ev X d M pc L (.int x :: .retAddr (100 + i) :: S) h r := by
  refine ⟨k.1, ?_⟩
  intro G p l e R s m args below meth c n0 s0 C h1 h2 h3 h4 H locs ls hR hq hL
  have hwd := C.2.2.2.2.2.2.2.2.1
  have hsz : G.2.1.size = G.1 := hwd.2.2.2.2.2.2.2.2.2
  obtain ⟨cell, q1, q2, q3, q4, q5, q6, q7⟩ := (hwd.2.2.2.2.2.1.1 i hi).2.2.2.kept (H1 := H) (fun a ha _ => hR.2.1 a (by omega))
  have hlt : x.toNatClampNeg < gb_sn.getD i 0 := Nat.not_le.mp fun q => hx (Or.inr q)
  exact W.bald (v := .int ((gb_sb.getD i []).getD x.toNatClampNeg 0)) C.1 C.2.1 q1 q2 q3 (fun q => q.elim (fun q => hx (Or.inl q)) (fun q => by omega)) (q6 _ hlt) rfl rfl hd (k.2 G p l e R s m args below meth c n0 s0 C h1 h2 h3 h4 H locs ls hR hq hL)
theorem gb_gsC (hl : Cond.fieldLink M.1.cls idx "java/lang/String" "COMPACT_STRINGS" "Z" ∈ gb_ws) (hd : decode M.2.1 pc = .ok (.getstatic idx, 3)) (k : gb_Ev X d M (pc + 3) L (.int 1 :: S) h r) : gb_Ev X d M pc L S h r := by
  refine ⟨k.1, ?_⟩
  intro G p l e R s m args below meth c n0 s0 C h1 h2 h3 h4 H locs ls hR hq hL
  have hwd := C.2.2.2.2.2.2.2.2.1
  have hsz : G.2.1.size = G.1 := hwd.2.2.2.2.2.2.2.2.2
  obtain ⟨cf, kf, fi, f, a, cell, q1, q2, q3, q4, q5, q6, q7, q8⟩ := hwd.2.2.2.2.2.2.2.1.kept (H1 := H) (fun a ha _ => hR.2.1 a (by omega))
  exact W.gets C.1 C.2.1 C.2.2.2.2.2.2.1 (C.2.2.2.2.2.2.2.1 _ hl) q1 q2 q3 q4 q5 (fun e => by rw [e] at q6; cases q6) q7 rfl hd (k.2 G p l e R s m args below meth c n0 s0 C h1 h2 h3 h4 H locs ls hR hq hL)
theorem gb_gsF (hl : Cond.fieldLink M.1.cls idx "jdk/internal/util/Preconditions" "SIOOBE_FORMATTER" "Ljava/util/function/BiFunction;" ∈ gb_ws) (hd : decode M.2.1 pc = .ok (.getstatic idx, 3)) (k : gb_Ev X d M (pc + 3) L (.float 0 :: S) h r) : gb_Ev X d M pc L S h r := by
  refine ⟨k.1, ?_⟩
  intro G p l e R s m args below meth c n0 s0 C h1 h2 h3 h4 H locs ls hR hq hL
  have hwd := C.2.2.2.2.2.2.2.2.1
  have hsz : G.2.1.size = G.1 := hwd.2.2.2.2.2.2.2.2.2
  obtain ⟨cf, kf, fi, f, a, cell, q1, q2, q3, q4, q5, q6, q7, q8⟩ := hwd.2.2.2.2.2.2.2.2.1.kept (H1 := H) (fun a ha _ => hR.2.1 a (by omega))
  exact W.gets C.1 C.2.1 C.2.2.2.2.2.2.1 (C.2.2.2.2.2.2.2.1 _ hl) q1 q2 q3 q4 q5 (fun e => by rw [e] at q6; cases q6) q7 rfl hd (k.2 G p l e R s m args below meth c n0 s0 C h1 h2 h3 h4 H locs ls hR hq hL)
end GC2
theorem gb_flv : Cond.fieldLink RJ0 9 "java/lang/String" "value" "[B" ∈ gb_ws := gb_wi 1558 (by decide +kernel) rfl
theorem gb_flc : Cond.fieldLink RJ0 15 "java/lang/String" "coder" "B" ∈ gb_ws := gb_wi 1559 (by decide +kernel) rfl
theorem gb_fls : Cond.fieldLink RJ0 38 "java/lang/String" "COMPACT_STRINGS" "Z" ∈ gb_ws := gb_wi 584 (by decide +kernel) rfl
theorem gb_flf : Cond.fieldLink RJ0 1053 "jdk/internal/util/Preconditions" "SIOOBE_FORMATTER" "Ljava/util/function/BiFunction;" ∈ gb_ws := gb_wi 600 (by decide +kernel) rfl
def fnJ0_length_8abf5 (i : Nat) (h : gb_H) : Option (Int32 × gb_H) := some (Int32.ofNat (gb_sn.getD i 0), h)
def fnJ0_charAt_5068e (i : Nat) (x : Int32) (h : gb_H) : Option (Int32 × gb_H) := gb_gd (decide (¬ x < 0) && decide (x.toNatClampNeg < gb_sn.getD i 0)) (some ((gb_sb.getD i []).getD x.toNatClampNeg 0 &&& 255, h))
theorem gb_coder {X : gb_X} {i : Nat} (hi : i < gb_ns) (h : gb_H) : gb_Ev X 1 mJ0_coder_7d493 0 (gb_L0 [.retAddr i]) [] h (some (.int 0), h) := by
  refine gb_gsC gb_fls dJ0_coder_7d493_0 ?_
  refine gb_if_eq (tgt := 13) dJ0_coder_7d493_3 (by decide) (fun q => absurd q (by decide)) (fun _ => ?_)
  refine gb_aload_nS dJ0_coder_7d493_6 rfl rfl ?_
  refine gb_getTc hi gb_flc dJ0_coder_7d493_7 ?_
  refine gb_goto (tgt := 14) dJ0_coder_7d493_10 (by decide) ?_
  exact gb_nret dJ0_coder_7d493_14 rfl (by decide)
theorem gb_isL {X : gb_X} {i : Nat} (hi : i < gb_ns) (h : gb_H) : gb_Ev X 1 mJ0_isLatin1_aae02 0 (gb_L0 [.retAddr i]) [] h (some (.int 1), h) := by
  refine gb_gsC gb_fls dJ0_isLatin1_aae02_0 ?_
  refine gb_if_eq (tgt := 17) dJ0_isLatin1_aae02_3 (by decide) (fun q => absurd q (by decide)) (fun _ => ?_)
  refine gb_aload_nS dJ0_isLatin1_aae02_6 rfl rfl ?_
  refine gb_getTc hi gb_flc dJ0_isLatin1_aae02_7 ?_
  refine gb_if_ne (tgt := 17) dJ0_isLatin1_aae02_10 (by decide) (fun q => absurd rfl q) (fun _ => ?_)
  refine gb_iconst (v := 1) dJ0_isLatin1_aae02_13 (by decide) ?_
  refine gb_goto (tgt := 18) dJ0_isLatin1_aae02_14 (by decide) ?_
  exact gb_zret dJ0_isLatin1_aae02_18 rfl (by decide)
theorem fnJ0_length_8abf5_ok {X : gb_X} {i : Nat} (hi : i < gb_ns) (h : gb_H) (r : Int32 × gb_H) (hF : fnJ0_length_8abf5 i h = some r) : gb_Ev X 5 mJ0_length_8abf5 0 (gb_L0 [.retAddr i]) [] h (gb_wI r) := by
  unfold fnJ0_length_8abf5 at hF
  cases hF
  refine gb_aload_nS dJ0_length_8abf5_0 rfl rfl ?_
  refine gb_getT hi gb_flv dJ0_length_8abf5_1 ?_
  refine gb_lenT hi dJ0_length_8abf5_4 ?_
  refine gb_aload_nS dJ0_length_8abf5_5 rfl rfl ?_
  refine gb_cT (As := []) (S := [.int (Int32.ofNat (gb_sn.getD i 0))]) (v := some (.int 0)) (S2 := [.int 0, .int (Int32.ofNat (gb_sn.getD i 0))]) hi dJ0_length_8abf5_6 mtJ0_coder_7d493 lJ0_335 inJ0_coder_7d493 seJ0_coder_7d493 (gb_coder hi h) (by decide) rfl (Nat.le_of_ble_eq_true rfl) (Nat.le_of_ble_eq_true rfl) rfl rfl ?_
  refine gb_ishr dJ0_length_8abf5_9 ?_
  refine gb_topI (x := Int32.ofNat (gb_sn.getD i 0)) (sb_shr0 _).symm ?_
  exact gb_iret dJ0_length_8abf5_10 rfl
theorem gb_chkP {X : gb_X} {x y : Int32} (h0 : ¬ x < 0) (h1 : x < y) (h : gb_H) : gb_Ev X 1 mJ3_checkIndex_8e157 0 (gb_L0 [.int x, .int y, .float 0]) [] h (some (.int x), h) := by
  refine gb_iload_n dJ3_checkIndex_8e157_0 rfl rfl ?_
  refine gb_if_lt (tgt := 9) dJ3_checkIndex_8e157_1 (by decide) (fun q => absurd q h0) (fun _ => ?_)
  refine gb_iload_n dJ3_checkIndex_8e157_4 rfl rfl ?_
  refine gb_iload_n dJ3_checkIndex_8e157_5 rfl rfl ?_
  refine gb_icmp_lt (tgt := 16) dJ3_checkIndex_8e157_6 (by decide) (fun _ => ?_) (fun q => absurd h1 q)
  refine gb_iload_n dJ3_checkIndex_8e157_16 rfl rfl ?_
  exact gb_iret dJ3_checkIndex_8e157_17 rfl
theorem gb_chkS {X : gb_X} {x y : Int32} (h0 : ¬ x < 0) (h1 : x < y) (h : gb_H) : gb_Ev X 2 mJ0_checkIndex_df160 0 (gb_L0 [.int x, .int y]) [] h (none, h) := by
  refine gb_iload_n dJ0_checkIndex_df160_0 rfl rfl ?_
  refine gb_iload_n dJ0_checkIndex_df160_1 rfl rfl ?_
  refine gb_gsF gb_flf dJ0_checkIndex_df160_2 ?_
  refine gb_cS (As := [.int x, .int y, .float 0]) (S := []) (v := some (.int x)) (S2 := [.int x]) dJ0_checkIndex_df160_5 mtJ3_checkIndex_8e157 lJ0_1059 stJ3_checkIndex_8e157 (gb_chkP h0 h1 h) (by decide) rfl (Nat.le_of_ble_eq_true rfl) (Nat.le_of_ble_eq_true rfl) rfl rfl ?_
  refine gb_pop dJ0_checkIndex_df160_8 rfl ?_
  exact gb_vret dJ0_checkIndex_df160_9 rfl
theorem gb_slens : ∀ i, i < gb_ns → gb_sn.getD i 0 < 100 := by decide
theorem gb_chL {X : gb_X} {i : Nat} {x : Int32} (hi : i < gb_ns) (h0 : ¬ x < 0) (h1 : x.toNatClampNeg < gb_sn.getD i 0) (h : gb_H) : gb_Ev X 3 mJ1_charAt_3b067 0 (gb_L0 [.retAddr (100 + i), .int x]) [] h (some (.int ((gb_sb.getD i []).getD x.toNatClampNeg 0 &&& 255)), h) := by
  have hb := gb_slens i hi
  have hx : x < Int32.ofNat (gb_sn.getD i 0) := by
    obtain ⟨j, hj, rfl⟩ := nI_of h0
    rw [nI_clamp hj] at h1
    exact nI_lt h1 (by omega)
  refine gb_iload_n dJ1_charAt_3b067_0 rfl rfl ?_
  refine gb_aload_nS dJ1_charAt_3b067_1 rfl rfl ?_
  refine gb_lenT hi dJ1_charAt_3b067_2 ?_
  refine gb_cS (As := [.int x, .int (Int32.ofNat (gb_sn.getD i 0))]) (S := []) (v := none) (S2 := []) dJ1_charAt_3b067_3 mtJ0_checkIndex_df160 lJ1_9 stJ0_checkIndex_df160 (gb_chkS h0 hx h) (by decide) rfl (Nat.le_of_ble_eq_true rfl) (Nat.le_of_ble_eq_true rfl) rfl rfl ?_
  refine gb_aload_nS dJ1_charAt_3b067_6 rfl rfl ?_
  refine gb_iload_n dJ1_charAt_3b067_7 rfl rfl ?_
  refine gb_ldT hi (fun q => q.elim h0 (Nat.not_le.mpr h1)) dJ1_charAt_3b067_8 ?_
  refine gb_sipush (v := 255) dJ1_charAt_3b067_9 (by decide) ?_
  refine gb_iand dJ1_charAt_3b067_12 ?_
  refine gb_i2c dJ1_charAt_3b067_13 ?_
  refine gb_topI (sc_c2 _).symm ?_
  exact gb_nret dJ1_charAt_3b067_14 rfl (sc_nar _)
theorem fnJ0_charAt_5068e_ok {X : gb_X} {i : Nat} {x : Int32} (hi : i < gb_ns) (h : gb_H) (r : Int32 × gb_H) (hF : fnJ0_charAt_5068e i x h = some r) : gb_Ev X 5 mJ0_charAt_5068e 0 (gb_L0 [.retAddr i, .int x]) [] h (gb_wI r) := by
  unfold fnJ0_charAt_5068e at hF
  obtain ⟨g, hF⟩ := gb_gdE hF
  cases hF
  simp only [Bool.and_eq_true, decide_eq_true_eq] at g
  refine gb_aload_nS dJ0_charAt_5068e_0 rfl rfl ?_
  refine gb_cT (As := []) (S := []) (v := some (.int 1)) (S2 := [.int 1]) hi dJ0_charAt_5068e_1 mtJ0_isLatin1_aae02 lJ0_492 inJ0_isLatin1_aae02 seJ0_isLatin1_aae02 (gb_isL hi h) (by decide) rfl (Nat.le_of_ble_eq_true rfl) (Nat.le_of_ble_eq_true rfl) rfl rfl ?_
  refine gb_if_eq (tgt := 16) dJ0_charAt_5068e_4 (by decide) (fun q => absurd q (by decide)) (fun _ => ?_)
  refine gb_aload_nS dJ0_charAt_5068e_7 rfl rfl ?_
  refine gb_getT hi gb_flv dJ0_charAt_5068e_8 ?_
  refine gb_iload_n dJ0_charAt_5068e_11 rfl rfl ?_
  refine gb_cS (As := [.retAddr (100 + i), .int x]) (S := []) (v := some (.int ((gb_sb.getD i []).getD x.toNatClampNeg 0 &&& 255))) (S2 := [.int ((gb_sb.getD i []).getD x.toNatClampNeg 0 &&& 255)]) dJ0_charAt_5068e_12 mtJ1_charAt_3b067 lJ0_495 stJ1_charAt_3b067 (gb_chL hi g.1 g.2 h) (by decide) rfl (Nat.le_of_ble_eq_true rfl) (Nat.le_of_ble_eq_true rfl) rfl rfl ?_
  exact gb_nret dJ0_charAt_5068e_15 rfl (sc_nar _)
