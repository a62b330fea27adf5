/-! THE STORE that the methods work on: names of cells are 0, 1, 2 .. in the order in which they are made; ints, longs and references apart -/
abbrev gb_H : Type := Nat × Nat × (Nat → Nat × Nat) × (Nat → Nat → Int32) × (Nat → Nat → Int64) × (Nat → Nat → Option Nat)
def gb_cn (h : gb_H) : Nat := h.1
def gb_sl (h : gb_H) : Nat := h.2.1
def gb_kd (h : gb_H) : Nat → Nat × Nat := h.2.2.1
def gb_I (h : gb_H) : Nat → Nat → Int32 := h.2.2.2.1
def gb_L (h : gb_H) : Nat → Nat → Int64 := h.2.2.2.2.1
def gb_R (h : gb_H) : Nat → Nat → Option Nat := h.2.2.2.2.2
def gb_u {α : Type} (f : Nat → Nat → α) (n k : Nat) (x : α) : Nat → Nat → α := fun a j => if a = n ∧ j = k then x else f a j
def gb_sI (h : gb_H) (n k : Nat) (x : Int32) : gb_H := (gb_cn h, gb_sl h, gb_kd h, gb_u (gb_I h) n k x, gb_L h, gb_R h)
def gb_sL (h : gb_H) (n k : Nat) (x : Int64) : gb_H := (gb_cn h, gb_sl h, gb_kd h, gb_I h, gb_u (gb_L h) n k x, gb_R h)
def gb_sR (h : gb_H) (n k : Nat) (x : Option Nat) : gb_H := (gb_cn h, gb_sl h, gb_kd h, gb_I h, gb_L h, gb_u (gb_R h) n k x)
/-- a new cell of kind k (and length), of w slots, all blank -/
def gb_nw (h : gb_H) (k len w : Nat) : gb_H := (gb_cn h + 1, gb_sl h + w, fun a => if a = gb_cn h then (k, len) else gb_kd h a, fun a j => if a = gb_cn h then 0 else gb_I h a j, fun a j => if a = gb_cn h then 0 else gb_L h a j, fun a j => if a = gb_cn h then none else gb_R h a j)
theorem gb_u_s {α : Type} (f : Nat → Nat → α) (n k : Nat) (x : α) : gb_u f n k x n k = x := if_pos ⟨rfl, rfl⟩
theorem gb_u_n {α : Type} (f : Nat → Nat → α) {n k a j : Nat} (x : α) (h : ¬ (a = n ∧ j = k)) : gb_u f n k x a j = f a j := if_neg h
/-- the script: its length and what it holds -/
abbrev gb_X : Type := Nat × (Nat → Int32)
/-- base address, the old heap, class ids and slots, array classes by kind, addresses of old cells (a text k, its row 100 + k, the script 1000), the JDK's formatter -/
abbrev gb_W : Type := Nat × Heap × va_G × (Nat → ClassId) × (Nat → Nat) × Option Nat × gb_X
def gb_tv (G : gb_W) : Value → Value
  | .ref n => .ref (G.1 + n)
  | .retAddr k => .ref (G.2.2.2.2.1 k)
  | .float _ => va_rf G.2.2.2.2.2.1
  | v => v
theorem gb_tv_cat (G : gb_W) (v : Value) : (gb_tv G v).category = v.category := by
  cases v <;> first | rfl | (show (va_rf G.2.2.2.2.2.1).category = 1; cases G.2.2.2.2.2.1 <;> rfl)
theorem gb_tv_cats (G : gb_W) : ∀ S : List Value, ((S.map (gb_tv G)).map fun v => v.category).sum = (S.map fun v => v.category).sum
  | [] => rfl
  | v :: S => by
    simp only [List.map_cons, List.sum_cons, gb_tv_cat, gb_tv_cats G S]
def gb_ty (ci : Nat) : Nat → FieldType := match ci with
  | 0 => tyX0
  | 1 => tyX1
  | 2 => tyX2
  | 3 => tyX3
  | 4 => tyX4
  | 5 => tyX5
  | 6 => tyX6
  | 7 => tyX7
  | 8 => tyX8
  | 9 => tyX9
  | 10 => tyX10
  | _ => tyX11
def gb_val (ty : FieldType) (i : Int32) (j : Int64) (r : Option Nat) : Value := match ty with
  | .long => .long j
  | .object _ => va_rf r
  | .array _ => va_rf r
  | _ => .int i
def gb_fv (h : gb_H) (n k : Nat) : Value := gb_val (gb_ty (gb_kd h n).1 k) (gb_I h n k) (gb_L h n k) (gb_R h n k)
def gb_av (h : gb_H) (n i : Nat) : Value := if (gb_kd h n).1 = 23 then .long (gb_L h n i) else if 30 ≤ (gb_kd h n).1 then va_rf (gb_R h n i) else .int (gb_I h n i)
/-- the cell of a name, as the machine's heap holds it -/
def gb_cell (G : gb_W) (h : gb_H) (n : Nat) (H : Heap) : Prop :=
  ((gb_kd h n).1 < 20 → ∃ r : vw_C, vwCl[(gb_kd h n).1]? = some r ∧ t_OB (G.1 + n) (G.2.2.1.1 (gb_kd h n).1) r.2.2 (G.2.2.1.2 (gb_kd h n).1) H (fun k => gb_tv G (gb_fv h n k))) ∧
  (20 ≤ (gb_kd h n).1 → H[G.1 + n]? = some (arrV (G.2.2.2.1 (gb_kd h n).1) (gb_kd h n).2 (fun i => gb_tv G (gb_av h n i))))
def gb_Rel (G : gb_W) (h : gb_H) (H : Heap) : Prop :=
  H.size = G.1 + gb_cn h ∧ (∀ q, q < G.1 → H[q]? = G.2.1[q]?) ∧ (∀ n, n < gb_cn h → gb_cell G h n H) ∧ ∀ n, gb_cn h ≤ n → (gb_kd h n).1 = 99
def gb_aty (k : Nat) : FieldType := match k with
  | 20 => .int
  | 21 => .boolean
  | 22 => .byte
  | 23 => .long
  | 30 => .object RX0
  | 31 => .object RX1
  | 32 => .object RX2
  | 34 => .object RX4
  | _ => .object RX5
def gb_aks : List Nat := [20, 21, 22, 23, 30, 31, 32, 34, 35]
def gb_aos : List String := [RX0, RX1, RX2, RX4, RX5]
def gb_isN (w : Cond) : Bool := match w with
  | .fieldLinkNest .. => true
  | .methodLinkNest .. => true
  | _ => false
def gb_nest : List Cond := lw_tbl.filter gb_isN
/-- the texts: the entry of the reader's pool and the text, in the order of the printed constants -/
def gb_ns : Nat := 14
def gb_sx : List (Nat × String) := [(72, "if"), (97, "="), (106, "do"), (123, "split"), (147, "three"), (152, "four"), (154, "half"), (128, "turn"), (130, "shift"), (137, "mark"), (135, "swap"), (77, "lose"), (85, "count"), (38, ";")]
def gb_si (i : Nat) : Nat := (gb_sx.getD i (0, "")).1
def gb_st (i : Nat) : String := (gb_sx.getD i (0, "")).2
def gb_sn : List Nat := [2, 1, 2, 5, 5, 4, 4, 4, 5, 4, 4, 4, 5, 1]
def gb_sb : List (List Int32) := [[105, 102], [61], [100, 111], [115, 112, 108, 105, 116], [116, 104, 114, 101, 101], [102, 111, 117, 114], [104, 97, 108, 102], [116, 117, 114, 110], [115, 104, 105, 102, 116], [109, 97, 114, 107], [115, 119, 97, 112], [108, 111, 115, 101], [99, 111, 117, 110, 116], [59]]
def gb_wd (G : gb_W) (U : State) : Prop :=
  va_K G.2.2.1 vwCl [] U ∧ (∀ k ∈ gb_aks, ArrOfT U (G.2.2.2.1 k) (gb_aty k) ∧ va_RA U (G.2.2.2.1 k) (gb_aty k)) ∧ (∀ w ∈ gb_nest, va_Nw w U) ∧ (∀ C ∈ gb_aos, va_AO C U) ∧
  (∀ i, i < gb_ns → vk_R RX7 (gb_si i) (gb_st i) (G.2.2.2.2.1 i) U) ∧ vk_S gb_ns gb_sn gb_sb G.2.2.2.2.1 (fun i => G.2.2.2.2.1 (100 + i)) (fun q => G.1 ≤ q) U G.2.1 ∧
  (G.2.2.2.2.1 1000 < G.1 ∧ ∃ scr : Cell, G.2.1[G.2.2.2.2.1 1000]? = some scr ∧ U.isArrayOf scr .int ∧ scr.vm ≠ .unknown ∧ scr.slots.size = G.2.2.2.2.2.2.1 ∧ ∀ j, j < G.2.2.2.2.2.2.1 → scr.slots[j]? = some (.int (G.2.2.2.2.2.2.2 j))) ∧ va_Z "java/lang/String" "COMPACT_STRINGS" "Z" (.int 1) (fun q => G.1 ≤ q) U G.2.1 ∧ va_Z "jdk/internal/util/Preconditions" "SIOOBE_FORMATTER" "Ljava/util/function/BiFunction;" (va_rf G.2.2.2.2.2.1) (fun q => G.1 ≤ q) U G.2.1 ∧ G.2.1.size = G.1
def gb_ws : List Cond := lw_tbl.filter goodWord
abbrev gb_M : Type := MethodName × ByteArray × Nat × Option FieldType
def gb_LR (G : gb_W) (L : List (Option Value)) (nL : Nat) (ls : Array Slot) : Prop := ls.size = nL ∧ lv_wf ls ∧ ∀ (i : Nat) (v : Value), L[i]? = some (some v) → ls[i]? = some (.val (gb_tv G v))
def gb_Cx (X : gb_X) (G : gb_W) (d : Nat) (M : gb_M) (p : Program) (R : Room) (s : State) (m : MethodId) (args : Array Value) (meth : Method) (c : Code) : Prop :=
  p.tables.exec = Jvm.exec ∧ c.code = M.2.1 ∧ c.maxLocals = M.2.2.1 ∧ meth.sig.returnType = M.2.2.2 ∧ meth.locks = false ∧ meth.name = M.1.name ∧ s.vm.findClass M.1.cls = some m.cls ∧ (∀ w ∈ gb_ws, w.before args s = true) ∧ gb_wd G s ∧ d ≤ R.frames ∧ 64 * d ≤ R.locals ∧ G.2.2.2.2.2.2 = X
def gb_Q (G : gb_W) (r : Option Value × gb_H) : Array Value → State → Outcome → State → Prop := fun _ _ o t => o = .returned (r.1.map (gb_tv G)) ∧ gb_Rel G r.2 t.heap
/-- THE JUDGEMENT: method M, at pc, with locals L, stack S and store h, comes to its end with r (at most d calls deep) -/
def gb_Ev (X : gb_X) (d : Nat) (M : gb_M) (pc : Nat) (L : List (Option Value)) (S : List Value) (h : gb_H) (r : Option Value × gb_H) : Prop :=
  (gb_cn h ≤ gb_cn r.2 ∧ gb_sl h ≤ gb_sl r.2) ∧
  ∀ (G : gb_W) (p : Program) (l : Launch) (e : Env) (R : Room) (s : State) (m : MethodId) (args : Array Value) (below : List Frame) (meth : Method) (c : Code) (n0 s0 : Nat),
    gb_Cx X G d M p R s m args meth c → n0 ≤ gb_cn h → s0 ≤ gb_sl h → gb_cn r.2 - n0 ≤ R.cells → gb_sl r.2 - s0 ≤ R.slots →
    ∀ (H : Heap) (locs : List Loc) (ls : Array Slot), gb_Rel G h H → (∀ q ∈ locs, G.1 ≤ q.base) → gb_LR G L M.2.2.1 ls →
      W p l e R s m args below meth c H locs (gb_cn h - n0) (gb_sl h - s0) (MQ below (gb_Q G r) args s (gb_cn r.2 - n0) (gb_sl r.2 - s0) (fun q => G.1 ≤ q)) (F0 m pc ls (S.map (gb_tv G)))
theorem gb_iadd {X : gb_X} {d : Nat} {M : gb_M} {pc : Nat} {L : List (Option Value)} {S : List Value} {h : gb_H} {r : Option Value × gb_H} {x y : Int32} (hd : decode M.2.1 pc = .ok (.iadd, 1)) (k : gb_Ev X d M (pc + 1) L (.int (x + y) :: S) h r) : gb_Ev X d M pc L (.int y :: .int x :: S) h r := by
  refine ⟨k.1, ?_⟩
  intro G p l e R s m args below meth c n0 s0 C h1 h2 h3 h4 H locs ls hR hq hL
  exact lv_iadd C.1 C.2.1 hd (k.2 G p l e R s m args below meth c n0 s0 C h1 h2 h3 h4 H locs ls hR hq hL)
theorem gb_isub {X : gb_X} {d : Nat} {M : gb_M} {pc : Nat} {L : List (Option Value)} {S : List Value} {h : gb_H} {r : Option Value × gb_H} {x y : Int32} (hd : decode M.2.1 pc = .ok (.isub, 1)) (k : gb_Ev X d M (pc + 1) L (.int (x - y) :: S) h r) : gb_Ev X d M pc L (.int y :: .int x :: S) h r := by
  refine ⟨k.1, ?_⟩
  intro G p l e R s m args below meth c n0 s0 C h1 h2 h3 h4 H locs ls hR hq hL
  exact lv_isub C.1 C.2.1 hd (k.2 G p l e R s m args below meth c n0 s0 C h1 h2 h3 h4 H locs ls hR hq hL)
theorem gb_imul {X : gb_X} {d : Nat} {M : gb_M} {pc : Nat} {L : List (Option Value)} {S : List Value} {h : gb_H} {r : Option Value × gb_H} {x y : Int32} (hd : decode M.2.1 pc = .ok (.imul, 1)) (k : gb_Ev X d M (pc + 1) L (.int (x * y) :: S) h r) : gb_Ev X d M pc L (.int y :: .int x :: S) h r := by
  refine ⟨k.1, ?_⟩
  intro G p l e R s m args below meth c n0 s0 C h1 h2 h3 h4 H locs ls hR hq hL
  exact lv_imul C.1 C.2.1 hd (k.2 G p l e R s m args below meth c n0 s0 C h1 h2 h3 h4 H locs ls hR hq hL)
theorem gb_iand {X : gb_X} {d : Nat} {M : gb_M} {pc : Nat} {L : List (Option Value)} {S : List Value} {h : gb_H} {r : Option Value × gb_H} {x y : Int32} (hd : decode M.2.1 pc = .ok (.iand, 1)) (k : gb_Ev X d M (pc + 1) L (.int (x &&& y) :: S) h r) : gb_Ev X d M pc L (.int y :: .int x :: S) h r := by
  refine ⟨k.1, ?_⟩
  intro G p l e R s m args below meth c n0 s0 C h1 h2 h3 h4 H locs ls hR hq hL
  exact lv_iand C.1 C.2.1 hd (k.2 G p l e R s m args below meth c n0 s0 C h1 h2 h3 h4 H locs ls hR hq hL)
theorem gb_ior {X : gb_X} {d : Nat} {M : gb_M} {pc : Nat} {L : List (Option Value)} {S : List Value} {h : gb_H} {r : Option Value × gb_H} {x y : Int32} (hd : decode M.2.1 pc = .ok (.ior, 1)) (k : gb_Ev X d M (pc + 1) L (.int (x ||| y) :: S) h r) : gb_Ev X d M pc L (.int y :: .int x :: S) h r := by
  refine ⟨k.1, ?_⟩
  intro G p l e R s m args below meth c n0 s0 C h1 h2 h3 h4 H locs ls hR hq hL
  exact lv_ior C.1 C.2.1 hd (k.2 G p l e R s m args below meth c n0 s0 C h1 h2 h3 h4 H locs ls hR hq hL)
theorem gb_ixor {X : gb_X} {d : Nat} {M : gb_M} {pc : Nat} {L : List (Option Value)} {S : List Value} {h : gb_H} {r : Option Value × gb_H} {x y : Int32} (hd : decode M.2.1 pc = .ok (.ixor, 1)) (k : gb_Ev X d M (pc + 1) L (.int (x ^^^ y) :: S) h r) : gb_Ev X d M pc L (.int y :: .int x :: S) h r := by
  refine ⟨k.1, ?_⟩
  intro G p l e R s m args below meth c n0 s0 C h1 h2 h3 h4 H locs ls hR hq hL
  exact lv_ixor C.1 C.2.1 hd (k.2 G p l e R s m args below meth c n0 s0 C h1 h2 h3 h4 H locs ls hR hq hL)
theorem gb_ishl {X : gb_X} {d : Nat} {M : gb_M} {pc : Nat} {L : List (Option Value)} {S : List Value} {h : gb_H} {r : Option Value × gb_H} {x y : Int32} (hd : decode M.2.1 pc = .ok (.ishl, 1)) (k : gb_Ev X d M (pc + 1) L (.int (x <<< (y &&& 31)) :: S) h r) : gb_Ev X d M pc L (.int y :: .int x :: S) h r := by
  refine ⟨k.1, ?_⟩
  intro G p l e R s m args below meth c n0 s0 C h1 h2 h3 h4 H locs ls hR hq hL
  exact lv_ishl C.1 C.2.1 hd (k.2 G p l e R s m args below meth c n0 s0 C h1 h2 h3 h4 H locs ls hR hq hL)
theorem gb_ishr {X : gb_X} {d : Nat} {M : gb_M} {pc : Nat} {L : List (Option Value)} {S : List Value} {h : gb_H} {r : Option Value × gb_H} {x y : Int32} (hd : decode M.2.1 pc = .ok (.ishr, 1)) (k : gb_Ev X d M (pc + 1) L (.int (x >>> (y &&& 31)) :: S) h r) : gb_Ev X d M pc L (.int y :: .int x :: S) h r := by
  refine ⟨k.1, ?_⟩
  intro G p l e R s m args below meth c n0 s0 C h1 h2 h3 h4 H locs ls hR hq hL
  exact lv_ishr C.1 C.2.1 hd (k.2 G p l e R s m args below meth c n0 s0 C h1 h2 h3 h4 H locs ls hR hq hL)
theorem gb_iushr {X : gb_X} {d : Nat} {M : gb_M} {pc : Nat} {L : List (Option Value)} {S : List Value} {h : gb_H} {r : Option Value × gb_H} {x y : Int32} (hd : decode M.2.1 pc = .ok (.iushr, 1)) (k : gb_Ev X d M (pc + 1) L (.int ((x.toUInt32 >>> (y.toUInt32 &&& Int32.toUInt32 31)).toInt32) :: S) h r) : gb_Ev X d M pc L (.int y :: .int x :: S) h r := by
  refine ⟨k.1, ?_⟩
  intro G p l e R s m args below meth c n0 s0 C h1 h2 h3 h4 H locs ls hR hq hL
  exact lv_iushr C.1 C.2.1 hd rfl (k.2 G p l e R s m args below meth c n0 s0 C h1 h2 h3 h4 H locs ls hR hq hL)
theorem gb_idiv {X : gb_X} {d : Nat} {M : gb_M} {pc : Nat} {L : List (Option Value)} {S : List Value} {h : gb_H} {r : Option Value × gb_H} {x y : Int32} (hd : decode M.2.1 pc = .ok (.idiv, 1)) (hn : ¬ y = 0) (k : gb_Ev X d M (pc + 1) L (.int (x / y) :: S) h r) : gb_Ev X d M pc L (.int y :: .int x :: S) h r := by
  refine ⟨k.1, ?_⟩
  intro G p l e R s m args below meth c n0 s0 C h1 h2 h3 h4 H locs ls hR hq hL
  exact lv_idiv C.1 C.2.1 hd hn (k.2 G p l e R s m args below meth c n0 s0 C h1 h2 h3 h4 H locs ls hR hq hL)
theorem gb_irem {X : gb_X} {d : Nat} {M : gb_M} {pc : Nat} {L : List (Option Value)} {S : List Value} {h : gb_H} {r : Option Value × gb_H} {x y : Int32} (hd : decode M.2.1 pc = .ok (.irem, 1)) (hn : ¬ y = 0) (k : gb_Ev X d M (pc + 1) L (.int (x - x / y * y) :: S) h r) : gb_Ev X d M pc L (.int y :: .int x :: S) h r := by
  refine ⟨k.1, ?_⟩
  intro G p l e R s m args below meth c n0 s0 C h1 h2 h3 h4 H locs ls hR hq hL
  exact lv_irem C.1 C.2.1 hd hn (k.2 G p l e R s m args below meth c n0 s0 C h1 h2 h3 h4 H locs ls hR hq hL)
theorem gb_ineg {X : gb_X} {d : Nat} {M : gb_M} {pc : Nat} {L : List (Option Value)} {S : List Value} {h : gb_H} {r : Option Value × gb_H} {x : Int32} (hd : decode M.2.1 pc = .ok (.ineg, 1)) (k : gb_Ev X d M (pc + 1) L (.int (-x) :: S) h r) : gb_Ev X d M pc L (.int x :: S) h r := by
  refine ⟨k.1, ?_⟩
  intro G p l e R s m args below meth c n0 s0 C h1 h2 h3 h4 H locs ls hR hq hL
  exact lv_ineg C.1 C.2.1 hd (k.2 G p l e R s m args below meth c n0 s0 C h1 h2 h3 h4 H locs ls hR hq hL)
theorem gb_ladd {X : gb_X} {d : Nat} {M : gb_M} {pc : Nat} {L : List (Option Value)} {S : List Value} {h : gb_H} {r : Option Value × gb_H} {x y : Int64} (hd : decode M.2.1 pc = .ok (.ladd, 1)) (k : gb_Ev X d M (pc + 1) L (.long (x + y) :: S) h r) : gb_Ev X d M pc L (.long y :: .long x :: S) h r := by
  refine ⟨k.1, ?_⟩
  intro G p l e R s m args below meth c n0 s0 C h1 h2 h3 h4 H locs ls hR hq hL
  exact lv_ladd C.1 C.2.1 hd (k.2 G p l e R s m args below meth c n0 s0 C h1 h2 h3 h4 H locs ls hR hq hL)
theorem gb_lsub {X : gb_X} {d : Nat} {M : gb_M} {pc : Nat} {L : List (Option Value)} {S : List Value} {h : gb_H} {r : Option Value × gb_H} {x y : Int64} (hd : decode M.2.1 pc = .ok (.lsub, 1)) (k : gb_Ev X d M (pc + 1) L (.long (x - y) :: S) h r) : gb_Ev X d M pc L (.long y :: .long x :: S) h r := by
  refine ⟨k.1, ?_⟩
  intro G p l e R s m args below meth c n0 s0 C h1 h2 h3 h4 H locs ls hR hq hL
  exact lv_lsub C.1 C.2.1 hd (k.2 G p l e R s m args below meth c n0 s0 C h1 h2 h3 h4 H locs ls hR hq hL)
theorem gb_lmul {X : gb_X} {d : Nat} {M : gb_M} {pc : Nat} {L : List (Option Value)} {S : List Value} {h : gb_H} {r : Option Value × gb_H} {x y : Int64} (hd : decode M.2.1 pc = .ok (.lmul, 1)) (k : gb_Ev X d M (pc + 1) L (.long (x * y) :: S) h r) : gb_Ev X d M pc L (.long y :: .long x :: S) h r := by
  refine ⟨k.1, ?_⟩
  intro G p l e R s m args below meth c n0 s0 C h1 h2 h3 h4 H locs ls hR hq hL
  exact lv_lmul C.1 C.2.1 hd (k.2 G p l e R s m args below meth c n0 s0 C h1 h2 h3 h4 H locs ls hR hq hL)
theorem gb_land {X : gb_X} {d : Nat} {M : gb_M} {pc : Nat} {L : List (Option Value)} {S : List Value} {h : gb_H} {r : Option Value × gb_H} {x y : Int64} (hd : decode M.2.1 pc = .ok (.land, 1)) (k : gb_Ev X d M (pc + 1) L (.long (x &&& y) :: S) h r) : gb_Ev X d M pc L (.long y :: .long x :: S) h r := by
  refine ⟨k.1, ?_⟩
  intro G p l e R s m args below meth c n0 s0 C h1 h2 h3 h4 H locs ls hR hq hL
  exact lv_land C.1 C.2.1 hd (k.2 G p l e R s m args below meth c n0 s0 C h1 h2 h3 h4 H locs ls hR hq hL)
theorem gb_ldiv {X : gb_X} {d : Nat} {M : gb_M} {pc : Nat} {L : List (Option Value)} {S : List Value} {h : gb_H} {r : Option Value × gb_H} {x y : Int64} (hd : decode M.2.1 pc = .ok (.ldiv, 1)) (hn : ¬ y = 0) (k : gb_Ev X d M (pc + 1) L (.long (x / y) :: S) h r) : gb_Ev X d M pc L (.long y :: .long x :: S) h r := by
  refine ⟨k.1, ?_⟩
  intro G p l e R s m args below meth c n0 s0 C h1 h2 h3 h4 H locs ls hR hq hL
  exact lv_ldiv C.1 C.2.1 hd hn (k.2 G p l e R s m args below meth c n0 s0 C h1 h2 h3 h4 H locs ls hR hq hL)
theorem gb_lrem {X : gb_X} {d : Nat} {M : gb_M} {pc : Nat} {L : List (Option Value)} {S : List Value} {h : gb_H} {r : Option Value × gb_H} {x y : Int64} (hd : decode M.2.1 pc = .ok (.lrem, 1)) (hn : ¬ y = 0) (k : gb_Ev X d M (pc + 1) L (.long (x - x / y * y) :: S) h r) : gb_Ev X d M pc L (.long y :: .long x :: S) h r := by
  refine ⟨k.1, ?_⟩
  intro G p l e R s m args below meth c n0 s0 C h1 h2 h3 h4 H locs ls hR hq hL
  exact lv_lrem C.1 C.2.1 hd hn (k.2 G p l e R s m args below meth c n0 s0 C h1 h2 h3 h4 H locs ls hR hq hL)
theorem gb_lneg {X : gb_X} {d : Nat} {M : gb_M} {pc : Nat} {L : List (Option Value)} {S : List Value} {h : gb_H} {r : Option Value × gb_H} {x : Int64} (hd : decode M.2.1 pc = .ok (.lneg, 1)) (k : gb_Ev X d M (pc + 1) L (.long (-x) :: S) h r) : gb_Ev X d M pc L (.long x :: S) h r := by
  refine ⟨k.1, ?_⟩
  intro G p l e R s m args below meth c n0 s0 C h1 h2 h3 h4 H locs ls hR hq hL
  exact lv_lneg C.1 C.2.1 hd (k.2 G p l e R s m args below meth c n0 s0 C h1 h2 h3 h4 H locs ls hR hq hL)
theorem gb_lshl {X : gb_X} {d : Nat} {M : gb_M} {pc : Nat} {L : List (Option Value)} {S : List Value} {h : gb_H} {r : Option Value × gb_H} {x : Int64} {y : Int32} (hd : decode M.2.1 pc = .ok (.lshl, 1)) (k : gb_Ev X d M (pc + 1) L (.long (x <<< (y.toInt64 &&& 63)) :: S) h r) : gb_Ev X d M pc L (.int y :: .long x :: S) h r := by
  refine ⟨k.1, ?_⟩
  intro G p l e R s m args below meth c n0 s0 C h1 h2 h3 h4 H locs ls hR hq hL
  exact lv_lshl C.1 C.2.1 hd rfl (k.2 G p l e R s m args below meth c n0 s0 C h1 h2 h3 h4 H locs ls hR hq hL)
theorem gb_lshr {X : gb_X} {d : Nat} {M : gb_M} {pc : Nat} {L : List (Option Value)} {S : List Value} {h : gb_H} {r : Option Value × gb_H} {x : Int64} {y : Int32} (hd : decode M.2.1 pc = .ok (.lshr, 1)) (k : gb_Ev X d M (pc + 1) L (.long (x >>> (y.toInt64 &&& 63)) :: S) h r) : gb_Ev X d M pc L (.int y :: .long x :: S) h r := by
  refine ⟨k.1, ?_⟩
  intro G p l e R s m args below meth c n0 s0 C h1 h2 h3 h4 H locs ls hR hq hL
  exact lv_lshr C.1 C.2.1 hd rfl (k.2 G p l e R s m args below meth c n0 s0 C h1 h2 h3 h4 H locs ls hR hq hL)
theorem gb_lcmp {X : gb_X} {d : Nat} {M : gb_M} {pc : Nat} {L : List (Option Value)} {S : List Value} {h : gb_H} {r : Option Value × gb_H} {x y : Int64} (hd : decode M.2.1 pc = .ok (.lcmp, 1)) (k : gb_Ev X d M (pc + 1) L (.int (lg_cmp x y) :: S) h r) : gb_Ev X d M pc L (.long y :: .long x :: S) h r := by
  refine ⟨k.1, ?_⟩
  intro G p l e R s m args below meth c n0 s0 C h1 h2 h3 h4 H locs ls hR hq hL
  exact W.lcmp C.1 C.2.1 hd (k.2 G p l e R s m args below meth c n0 s0 C h1 h2 h3 h4 H locs ls hR hq hL)
theorem gb_i2l {X : gb_X} {d : Nat} {M : gb_M} {pc : Nat} {L : List (Option Value)} {S : List Value} {h : gb_H} {r : Option Value × gb_H} {x : Int32} (hd : decode M.2.1 pc = .ok (.i2l, 1)) (k : gb_Ev X d M (pc + 1) L (.long x.toInt64 :: S) h r) : gb_Ev X d M pc L (.int x :: S) h r := by
  refine ⟨k.1, ?_⟩
  intro G p l e R s m args below meth c n0 s0 C h1 h2 h3 h4 H locs ls hR hq hL
  exact lv_i2l C.1 C.2.1 hd rfl (k.2 G p l e R s m args below meth c n0 s0 C h1 h2 h3 h4 H locs ls hR hq hL)
theorem gb_l2i {X : gb_X} {d : Nat} {M : gb_M} {pc : Nat} {L : List (Option Value)} {S : List Value} {h : gb_H} {r : Option Value × gb_H} {x : Int64} (hd : decode M.2.1 pc = .ok (.l2i, 1)) (k : gb_Ev X d M (pc + 1) L (.int x.toInt32 :: S) h r) : gb_Ev X d M pc L (.long x :: S) h r := by
  refine ⟨k.1, ?_⟩
  intro G p l e R s m args below meth c n0 s0 C h1 h2 h3 h4 H locs ls hR hq hL
  exact lv_l2i C.1 C.2.1 hd rfl (k.2 G p l e R s m args below meth c n0 s0 C h1 h2 h3 h4 H locs ls hR hq hL)
theorem gb_i2b {X : gb_X} {d : Nat} {M : gb_M} {pc : Nat} {L : List (Option Value)} {S : List Value} {h : gb_H} {r : Option Value × gb_H} {x : Int32} (hd : decode M.2.1 pc = .ok (.i2b, 1)) (k : gb_Ev X d M (pc + 1) L (.int x.toInt8.toInt32 :: S) h r) : gb_Ev X d M pc L (.int x :: S) h r := by
  refine ⟨k.1, ?_⟩
  intro G p l e R s m args below meth c n0 s0 C h1 h2 h3 h4 H locs ls hR hq hL
  exact lv_i2b C.1 C.2.1 hd rfl (k.2 G p l e R s m args below meth c n0 s0 C h1 h2 h3 h4 H locs ls hR hq hL)
theorem gb_iconst {X : gb_X} {d : Nat} {M : gb_M} {pc : Nat} {L : List (Option Value)} {S : List Value} {h : gb_H} {r : Option Value × gb_H} {n : Int} {v : Int32} (hd : decode M.2.1 pc = .ok (.iconst n, 1)) (hv : Int32.ofInt n = v) (k : gb_Ev X d M (pc + 1) L (.int v :: S) h r) : gb_Ev X d M pc L (S) h r := by
  refine ⟨k.1, ?_⟩
  intro G p l e R s m args below meth c n0 s0 C h1 h2 h3 h4 H locs ls hR hq hL
  exact lv_iconst C.1 C.2.1 hd hv (k.2 G p l e R s m args below meth c n0 s0 C h1 h2 h3 h4 H locs ls hR hq hL)
theorem gb_bipush {X : gb_X} {d : Nat} {M : gb_M} {pc : Nat} {L : List (Option Value)} {S : List Value} {h : gb_H} {r : Option Value × gb_H} {n : Int} {v : Int32} (hd : decode M.2.1 pc = .ok (.bipush n, 2)) (hv : (Int8.ofInt n).toInt32 = v) (k : gb_Ev X d M (pc + 2) L (.int v :: S) h r) : gb_Ev X d M pc L (S) h r := by
  refine ⟨k.1, ?_⟩
  intro G p l e R s m args below meth c n0 s0 C h1 h2 h3 h4 H locs ls hR hq hL
  exact lv_bipush C.1 C.2.1 hd hv (k.2 G p l e R s m args below meth c n0 s0 C h1 h2 h3 h4 H locs ls hR hq hL)
theorem gb_sipush {X : gb_X} {d : Nat} {M : gb_M} {pc : Nat} {L : List (Option Value)} {S : List Value} {h : gb_H} {r : Option Value × gb_H} {n : Int} {v : Int32} (hd : decode M.2.1 pc = .ok (.sipush n, 3)) (hv : (Int16.ofInt n).toInt32 = v) (k : gb_Ev X d M (pc + 3) L (.int v :: S) h r) : gb_Ev X d M pc L (S) h r := by
  refine ⟨k.1, ?_⟩
  intro G p l e R s m args below meth c n0 s0 C h1 h2 h3 h4 H locs ls hR hq hL
  exact lv_sipush C.1 C.2.1 hd hv (k.2 G p l e R s m args below meth c n0 s0 C h1 h2 h3 h4 H locs ls hR hq hL)
theorem gb_lconst {X : gb_X} {d : Nat} {M : gb_M} {pc : Nat} {L : List (Option Value)} {S : List Value} {h : gb_H} {r : Option Value × gb_H} {n : Fin 2} {v : Int64} (hd : decode M.2.1 pc = .ok (.lconst n, 1)) (hv : Int64.ofNat (n : Nat) = v) (k : gb_Ev X d M (pc + 1) L (.long v :: S) h r) : gb_Ev X d M pc L (S) h r := by
  refine ⟨k.1, ?_⟩
  intro G p l e R s m args below meth c n0 s0 C h1 h2 h3 h4 H locs ls hR hq hL
  exact lv_lconst C.1 C.2.1 hd hv (k.2 G p l e R s m args below meth c n0 s0 C h1 h2 h3 h4 H locs ls hR hq hL)
theorem gb_ldc {X : gb_X} {d : Nat} {M : gb_M} {pc : Nat} {L : List (Option Value)} {S : List Value} {h : gb_H} {r : Option Value × gb_H} {n : Nat} {v : Int32} (hd : decode M.2.1 pc = .ok (.ldc n, 2)) (hw : Cond.constant M.1.cls n v ∈ gb_ws) (k : gb_Ev X d M (pc + 2) L (.int v :: S) h r) : gb_Ev X d M pc L (S) h r := by
  refine ⟨k.1, ?_⟩
  intro G p l e R s m args below meth c n0 s0 C h1 h2 h3 h4 H locs ls hR hq hL
  exact lv_ldc C.1 C.2.1 C.2.2.2.2.2.2.1 (C.2.2.2.2.2.2.2.1 _ hw) hd (k.2 G p l e R s m args below meth c n0 s0 C h1 h2 h3 h4 H locs ls hR hq hL)
theorem gb_ldcw {X : gb_X} {d : Nat} {M : gb_M} {pc : Nat} {L : List (Option Value)} {S : List Value} {h : gb_H} {r : Option Value × gb_H} {n : Nat} {v : Int32} (hd : decode M.2.1 pc = .ok (.ldc_w n, 3)) (hw : Cond.constant M.1.cls n v ∈ gb_ws) (k : gb_Ev X d M (pc + 3) L (.int v :: S) h r) : gb_Ev X d M pc L (S) h r := by
  refine ⟨k.1, ?_⟩
  intro G p l e R s m args below meth c n0 s0 C h1 h2 h3 h4 H locs ls hR hq hL
  exact lv_ldcw C.1 C.2.1 C.2.2.2.2.2.2.1 (C.2.2.2.2.2.2.2.1 _ hw) hd (k.2 G p l e R s m args below meth c n0 s0 C h1 h2 h3 h4 H locs ls hR hq hL)
theorem gb_ldc2 {X : gb_X} {d : Nat} {M : gb_M} {pc : Nat} {L : List (Option Value)} {S : List Value} {h : gb_H} {r : Option Value × gb_H} {n : Nat} {v : Int64} (hd : decode M.2.1 pc = .ok (.ldc2_w n, 3)) (hw : Cond.constantLong M.1.cls n v ∈ gb_ws) (k : gb_Ev X d M (pc + 3) L (.long v :: S) h r) : gb_Ev X d M pc L (S) h r := by
  refine ⟨k.1, ?_⟩
  intro G p l e R s m args below meth c n0 s0 C h1 h2 h3 h4 H locs ls hR hq hL
  exact lv_ldc2 C.1 C.2.1 C.2.2.2.2.2.2.1 (C.2.2.2.2.2.2.2.1 _ hw) hd (k.2 G p l e R s m args below meth c n0 s0 C h1 h2 h3 h4 H locs ls hR hq hL)
theorem gb_ldcS {X : gb_X} {d : Nat} {M : gb_M} {pc : Nat} {L : List (Option Value)} {S : List Value} {h : gb_H} {r : Option Value × gb_H} (i : Nat) (hd : decode M.2.1 pc = .ok (.ldc (gb_si i), 2)) (hM : M.1.cls = RX7) (hi : i < gb_ns) (k : gb_Ev X d M (pc + 2) L (.retAddr i :: S) h r) : gb_Ev X d M pc L (S) h r := by
  refine ⟨k.1, ?_⟩
  intro G p l e R s m args below meth c n0 s0 C h1 h2 h3 h4 H locs ls hR hq hL
  exact va_ldcS C.1 C.2.1 (hM ▸ C.2.2.2.2.2.2.1) (C.2.2.2.2.2.2.2.2.1.2.2.2.2.1 i hi) hd (k.2 G p l e R s m args below meth c n0 s0 C h1 h2 h3 h4 H locs ls hR hq hL)
theorem gb_iload {X : gb_X} {d : Nat} {M : gb_M} {pc : Nat} {L : List (Option Value)} {S : List Value} {h : gb_H} {r : Option Value × gb_H} {i : Nat} {x : Int32} (hd : decode M.2.1 pc = .ok (.iload i, 2)) (hl : L[i]? = some (some (.int x))) (k : gb_Ev X d M (pc + 2) L (.int x :: S) h r) : gb_Ev X d M pc L (S) h r := by
  refine ⟨k.1, ?_⟩
  intro G p l e R s m args below meth c n0 s0 C h1 h2 h3 h4 H locs ls hR hq hL
  exact lv_iload C.1 C.2.1 hd (hL.2.2 _ _ hl) (k.2 G p l e R s m args below meth c n0 s0 C h1 h2 h3 h4 H locs ls hR hq hL)
theorem gb_iload_n {X : gb_X} {d : Nat} {M : gb_M} {pc : Nat} {L : List (Option Value)} {S : List Value} {h : gb_H} {r : Option Value × gb_H} {n : Fin 4} {i : Nat} {x : Int32} (hd : decode M.2.1 pc = .ok (.iload_n n, 1)) (hi : (n : Nat) = i) (hl : L[i]? = some (some (.int x))) (k : gb_Ev X d M (pc + 1) L (.int x :: S) h r) : gb_Ev X d M pc L (S) h r := by
  refine ⟨k.1, ?_⟩
  intro G p l e R s m args below meth c n0 s0 C h1 h2 h3 h4 H locs ls hR hq hL
  exact lv_iload_n C.1 C.2.1 hd hi (hL.2.2 _ _ hl) (k.2 G p l e R s m args below meth c n0 s0 C h1 h2 h3 h4 H locs ls hR hq hL)
theorem gb_lload {X : gb_X} {d : Nat} {M : gb_M} {pc : Nat} {L : List (Option Value)} {S : List Value} {h : gb_H} {r : Option Value × gb_H} {i : Nat} {x : Int64} (hd : decode M.2.1 pc = .ok (.lload i, 2)) (hl : L[i]? = some (some (.long x))) (k : gb_Ev X d M (pc + 2) L (.long x :: S) h r) : gb_Ev X d M pc L (S) h r := by
  refine ⟨k.1, ?_⟩
  intro G p l e R s m args below meth c n0 s0 C h1 h2 h3 h4 H locs ls hR hq hL
  exact lv_lload C.1 C.2.1 hd (hL.2.2 _ _ hl) (k.2 G p l e R s m args below meth c n0 s0 C h1 h2 h3 h4 H locs ls hR hq hL)
theorem gb_lload_n {X : gb_X} {d : Nat} {M : gb_M} {pc : Nat} {L : List (Option Value)} {S : List Value} {h : gb_H} {r : Option Value × gb_H} {n : Fin 4} {i : Nat} {x : Int64} (hd : decode M.2.1 pc = .ok (.lload_n n, 1)) (hi : (n : Nat) = i) (hl : L[i]? = some (some (.long x))) (k : gb_Ev X d M (pc + 1) L (.long x :: S) h r) : gb_Ev X d M pc L (S) h r := by
  refine ⟨k.1, ?_⟩
  intro G p l e R s m args below meth c n0 s0 C h1 h2 h3 h4 H locs ls hR hq hL
  exact lv_lload_n C.1 C.2.1 hd hi (hL.2.2 _ _ hl) (k.2 G p l e R s m args below meth c n0 s0 C h1 h2 h3 h4 H locs ls hR hq hL)
theorem gb_aload {X : gb_X} {d : Nat} {M : gb_M} {pc : Nat} {L : List (Option Value)} {S : List Value} {h : gb_H} {r : Option Value × gb_H} {i : Nat} {x : Nat} (hd : decode M.2.1 pc = .ok (.aload i, 2)) (hl : L[i]? = some (some (.ref x))) (k : gb_Ev X d M (pc + 2) L (.ref x :: S) h r) : gb_Ev X d M pc L (S) h r := by
  refine ⟨k.1, ?_⟩
  intro G p l e R s m args below meth c n0 s0 C h1 h2 h3 h4 H locs ls hR hq hL
  exact lv_aload C.1 C.2.1 hd (hL.2.2 _ _ hl) (k.2 G p l e R s m args below meth c n0 s0 C h1 h2 h3 h4 H locs ls hR hq hL)
theorem gb_aload_n {X : gb_X} {d : Nat} {M : gb_M} {pc : Nat} {L : List (Option Value)} {S : List Value} {h : gb_H} {r : Option Value × gb_H} {n : Fin 4} {i : Nat} {x : Nat} (hd : decode M.2.1 pc = .ok (.aload_n n, 1)) (hi : (n : Nat) = i) (hl : L[i]? = some (some (.ref x))) (k : gb_Ev X d M (pc + 1) L (.ref x :: S) h r) : gb_Ev X d M pc L (S) h r := by
  refine ⟨k.1, ?_⟩
  intro G p l e R s m args below meth c n0 s0 C h1 h2 h3 h4 H locs ls hR hq hL
  exact lv_aload_n C.1 C.2.1 hd hi (hL.2.2 _ _ hl) (k.2 G p l e R s m args below meth c n0 s0 C h1 h2 h3 h4 H locs ls hR hq hL)
theorem gb_aload_nS {X : gb_X} {d : Nat} {M : gb_M} {pc : Nat} {L : List (Option Value)} {S : List Value} {h : gb_H} {r : Option Value × gb_H} {n : Fin 4} {i : Nat} {x : Nat} (hd : decode M.2.1 pc = .ok (.aload_n n, 1)) (hi : (n : Nat) = i) (hl : L[i]? = some (some (.retAddr x))) (k : gb_Ev X d M (pc + 1) L (.retAddr x :: S) h r) : gb_Ev X d M pc L (S) h r := by
  refine ⟨k.1, ?_⟩
  intro G p l e R s m args below meth c n0 s0 C h1 h2 h3 h4 H locs ls hR hq hL
  exact lv_aload_n C.1 C.2.1 hd hi (hL.2.2 _ _ hl) (k.2 G p l e R s m args below meth c n0 s0 C h1 h2 h3 h4 H locs ls hR hq hL)
theorem gb_dup {X : gb_X} {d : Nat} {M : gb_M} {pc : Nat} {L : List (Option Value)} {S : List Value} {h : gb_H} {r : Option Value × gb_H} {v : Value} (hd : decode M.2.1 pc = .ok (.dup, 1)) (hc : v.category = 1) (k : gb_Ev X d M (pc + 1) L (v :: v :: S) h r) : gb_Ev X d M pc L (v :: S) h r := by
  refine ⟨k.1, ?_⟩
  intro G p l e R s m args below meth c n0 s0 C h1 h2 h3 h4 H locs ls hR hq hL
  exact lv_dup C.1 C.2.1 hd ((gb_tv_cat G v).trans hc) (k.2 G p l e R s m args below meth c n0 s0 C h1 h2 h3 h4 H locs ls hR hq hL)
theorem gb_dup2 {X : gb_X} {d : Nat} {M : gb_M} {pc : Nat} {L : List (Option Value)} {S : List Value} {h : gb_H} {r : Option Value × gb_H} {v u : Value} (hd : decode M.2.1 pc = .ok (.dup2, 1)) (hc : v.category = 1) (hc2 : u.category = 1) (k : gb_Ev X d M (pc + 1) L (v :: u :: v :: u :: S) h r) : gb_Ev X d M pc L (v :: u :: S) h r := by
  refine ⟨k.1, ?_⟩
  intro G p l e R s m args below meth c n0 s0 C h1 h2 h3 h4 H locs ls hR hq hL
  exact lv_dup2_11 C.1 C.2.1 hd ((gb_tv_cat G v).trans hc) ((gb_tv_cat G u).trans hc2) (k.2 G p l e R s m args below meth c n0 s0 C h1 h2 h3 h4 H locs ls hR hq hL)
theorem gb_dup2l {X : gb_X} {d : Nat} {M : gb_M} {pc : Nat} {L : List (Option Value)} {S : List Value} {h : gb_H} {r : Option Value × gb_H} {v : Value} (hd : decode M.2.1 pc = .ok (.dup2, 1)) (hc : v.category = 2) (k : gb_Ev X d M (pc + 1) L (v :: v :: S) h r) : gb_Ev X d M pc L (v :: S) h r := by
  refine ⟨k.1, ?_⟩
  intro G p l e R s m args below meth c n0 s0 C h1 h2 h3 h4 H locs ls hR hq hL
  exact lv_dup2_2 C.1 C.2.1 hd ((gb_tv_cat G v).trans hc) (k.2 G p l e R s m args below meth c n0 s0 C h1 h2 h3 h4 H locs ls hR hq hL)
theorem gb_goto {X : gb_X} {d : Nat} {M : gb_M} {pc : Nat} {L : List (Option Value)} {S : List Value} {h : gb_H} {r : Option Value × gb_H} {off : Int} {tgt : Nat} (hd : decode M.2.1 pc = .ok (.goto off, 3)) (ht : (pc : Int) + off = (tgt : Int)) (k : gb_Ev X d M tgt L (S) h r) : gb_Ev X d M pc L (S) h r := by
  refine ⟨k.1, ?_⟩
  intro G p l e R s m args below meth c n0 s0 C h1 h2 h3 h4 H locs ls hR hq hL
  exact lv_goto C.1 C.2.1 hd ht (k.2 G p l e R s m args below meth c n0 s0 C h1 h2 h3 h4 H locs ls hR hq hL)
theorem gb_if_eq {X : gb_X} {d : Nat} {M : gb_M} {pc : Nat} {L : List (Option Value)} {S : List Value} {h : gb_H} {r : Option Value × gb_H} {x : Int32} {off : Int} {tgt : Nat} (hd : decode M.2.1 pc = .ok (.ifCond .eq off, 3)) (ht : (pc : Int) + off = (tgt : Int)) (kt : (x = 0) → gb_Ev X d M tgt L S h r) (kf : (¬ x = 0) → gb_Ev X d M (pc + 3) L S h r) : gb_Ev X d M pc L (.int x :: S) h r := by
  refine ⟨(Classical.em ((x = 0))).elim (fun q => (kt q).1) (fun q => (kf q).1), ?_⟩
  intro G p l e R s m args below meth c n0 s0 C h1 h2 h3 h4 H locs ls hR hq hL
  exact lv_if_eq C.1 C.2.1 hd ht (fun q => (kt q).2 G p l e R s m args below meth c n0 s0 C h1 h2 h3 h4 H locs ls hR hq hL) (fun q => (kf q).2 G p l e R s m args below meth c n0 s0 C h1 h2 h3 h4 H locs ls hR hq hL)
theorem gb_if_ne {X : gb_X} {d : Nat} {M : gb_M} {pc : Nat} {L : List (Option Value)} {S : List Value} {h : gb_H} {r : Option Value × gb_H} {x : Int32} {off : Int} {tgt : Nat} (hd : decode M.2.1 pc = .ok (.ifCond .ne off, 3)) (ht : (pc : Int) + off = (tgt : Int)) (kt : (¬ x = 0) → gb_Ev X d M tgt L S h r) (kf : (x = 0) → gb_Ev X d M (pc + 3) L S h r) : gb_Ev X d M pc L (.int x :: S) h r := by
  refine ⟨(Classical.em ((¬ x = 0))).elim (fun q => (kt q).1) (fun q => (kf (Classical.not_not.mp q)).1), ?_⟩
  intro G p l e R s m args below meth c n0 s0 C h1 h2 h3 h4 H locs ls hR hq hL
  exact lv_if_ne C.1 C.2.1 hd ht (fun q => (kt q).2 G p l e R s m args below meth c n0 s0 C h1 h2 h3 h4 H locs ls hR hq hL) (fun q => (kf q).2 G p l e R s m args below meth c n0 s0 C h1 h2 h3 h4 H locs ls hR hq hL)
theorem gb_if_lt {X : gb_X} {d : Nat} {M : gb_M} {pc : Nat} {L : List (Option Value)} {S : List Value} {h : gb_H} {r : Option Value × gb_H} {x : Int32} {off : Int} {tgt : Nat} (hd : decode M.2.1 pc = .ok (.ifCond .lt off, 3)) (ht : (pc : Int) + off = (tgt : Int)) (kt : (x < 0) → gb_Ev X d M tgt L S h r) (kf : (¬ x < 0) → gb_Ev X d M (pc + 3) L S h r) : gb_Ev X d M pc L (.int x :: S) h r := by
  refine ⟨(Classical.em ((x < 0))).elim (fun q => (kt q).1) (fun q => (kf q).1), ?_⟩
  intro G p l e R s m args below meth c n0 s0 C h1 h2 h3 h4 H locs ls hR hq hL
  exact lv_if_lt C.1 C.2.1 hd ht (fun q => (kt q).2 G p l e R s m args below meth c n0 s0 C h1 h2 h3 h4 H locs ls hR hq hL) (fun q => (kf q).2 G p l e R s m args below meth c n0 s0 C h1 h2 h3 h4 H locs ls hR hq hL)
theorem gb_if_ge {X : gb_X} {d : Nat} {M : gb_M} {pc : Nat} {L : List (Option Value)} {S : List Value} {h : gb_H} {r : Option Value × gb_H} {x : Int32} {off : Int} {tgt : Nat} (hd : decode M.2.1 pc = .ok (.ifCond .ge off, 3)) (ht : (pc : Int) + off = (tgt : Int)) (kt : (0 ≤ x) → gb_Ev X d M tgt L S h r) (kf : (¬ 0 ≤ x) → gb_Ev X d M (pc + 3) L S h r) : gb_Ev X d M pc L (.int x :: S) h r := by
  refine ⟨(Classical.em ((0 ≤ x))).elim (fun q => (kt q).1) (fun q => (kf q).1), ?_⟩
  intro G p l e R s m args below meth c n0 s0 C h1 h2 h3 h4 H locs ls hR hq hL
  exact lv_if_ge C.1 C.2.1 hd ht (fun q => (kt q).2 G p l e R s m args below meth c n0 s0 C h1 h2 h3 h4 H locs ls hR hq hL) (fun q => (kf q).2 G p l e R s m args below meth c n0 s0 C h1 h2 h3 h4 H locs ls hR hq hL)
theorem gb_if_gt {X : gb_X} {d : Nat} {M : gb_M} {pc : Nat} {L : List (Option Value)} {S : List Value} {h : gb_H} {r : Option Value × gb_H} {x : Int32} {off : Int} {tgt : Nat} (hd : decode M.2.1 pc = .ok (.ifCond .gt off, 3)) (ht : (pc : Int) + off = (tgt : Int)) (kt : (0 < x) → gb_Ev X d M tgt L S h r) (kf : (¬ 0 < x) → gb_Ev X d M (pc + 3) L S h r) : gb_Ev X d M pc L (.int x :: S) h r := by
  refine ⟨(Classical.em ((0 < x))).elim (fun q => (kt q).1) (fun q => (kf q).1), ?_⟩
  intro G p l e R s m args below meth c n0 s0 C h1 h2 h3 h4 H locs ls hR hq hL
  exact lv_if_gt C.1 C.2.1 hd ht (fun q => (kt q).2 G p l e R s m args below meth c n0 s0 C h1 h2 h3 h4 H locs ls hR hq hL) (fun q => (kf q).2 G p l e R s m args below meth c n0 s0 C h1 h2 h3 h4 H locs ls hR hq hL)
theorem gb_if_le {X : gb_X} {d : Nat} {M : gb_M} {pc : Nat} {L : List (Option Value)} {S : List Value} {h : gb_H} {r : Option Value × gb_H} {x : Int32} {off : Int} {tgt : Nat} (hd : decode M.2.1 pc = .ok (.ifCond .le off, 3)) (ht : (pc : Int) + off = (tgt : Int)) (kt : (x ≤ 0) → gb_Ev X d M tgt L S h r) (kf : (¬ x ≤ 0) → gb_Ev X d M (pc + 3) L S h r) : gb_Ev X d M pc L (.int x :: S) h r := by
  refine ⟨(Classical.em ((x ≤ 0))).elim (fun q => (kt q).1) (fun q => (kf q).1), ?_⟩
  intro G p l e R s m args below meth c n0 s0 C h1 h2 h3 h4 H locs ls hR hq hL
  exact lv_if_le C.1 C.2.1 hd ht (fun q => (kt q).2 G p l e R s m args below meth c n0 s0 C h1 h2 h3 h4 H locs ls hR hq hL) (fun q => (kf q).2 G p l e R s m args below meth c n0 s0 C h1 h2 h3 h4 H locs ls hR hq hL)
theorem gb_icmp_eq {X : gb_X} {d : Nat} {M : gb_M} {pc : Nat} {L : List (Option Value)} {S : List Value} {h : gb_H} {r : Option Value × gb_H} {x y : Int32} {off : Int} {tgt : Nat} (hd : decode M.2.1 pc = .ok (.if_icmp .eq off, 3)) (ht : (pc : Int) + off = (tgt : Int)) (kt : (x = y) → gb_Ev X d M tgt L S h r) (kf : (¬ x = y) → gb_Ev X d M (pc + 3) L S h r) : gb_Ev X d M pc L (.int y :: .int x :: S) h r := by
  refine ⟨(Classical.em ((x = y))).elim (fun q => (kt q).1) (fun q => (kf q).1), ?_⟩
  intro G p l e R s m args below meth c n0 s0 C h1 h2 h3 h4 H locs ls hR hq hL
  exact lv_icmp_eq C.1 C.2.1 hd ht (fun q => (kt q).2 G p l e R s m args below meth c n0 s0 C h1 h2 h3 h4 H locs ls hR hq hL) (fun q => (kf q).2 G p l e R s m args below meth c n0 s0 C h1 h2 h3 h4 H locs ls hR hq hL)
theorem gb_icmp_ne {X : gb_X} {d : Nat} {M : gb_M} {pc : Nat} {L : List (Option Value)} {S : List Value} {h : gb_H} {r : Option Value × gb_H} {x y : Int32} {off : Int} {tgt : Nat} (hd : decode M.2.1 pc = .ok (.if_icmp .ne off, 3)) (ht : (pc : Int) + off = (tgt : Int)) (kt : (¬ x = y) → gb_Ev X d M tgt L S h r) (kf : (x = y) → gb_Ev X d M (pc + 3) L S h r) : gb_Ev X d M pc L (.int y :: .int x :: S) h r := by
  refine ⟨(Classical.em ((¬ x = y))).elim (fun q => (kt q).1) (fun q => (kf (Classical.not_not.mp q)).1), ?_⟩
  intro G p l e R s m args below meth c n0 s0 C h1 h2 h3 h4 H locs ls hR hq hL
  exact lv_icmp_ne C.1 C.2.1 hd ht (fun q => (kt q).2 G p l e R s m args below meth c n0 s0 C h1 h2 h3 h4 H locs ls hR hq hL) (fun q => (kf q).2 G p l e R s m args below meth c n0 s0 C h1 h2 h3 h4 H locs ls hR hq hL)
theorem gb_icmp_lt {X : gb_X} {d : Nat} {M : gb_M} {pc : Nat} {L : List (Option Value)} {S : List Value} {h : gb_H} {r : Option Value × gb_H} {x y : Int32} {off : Int} {tgt : Nat} (hd : decode M.2.1 pc = .ok (.if_icmp .lt off, 3)) (ht : (pc : Int) + off = (tgt : Int)) (kt : (x < y) → gb_Ev X d M tgt L S h r) (kf : (¬ x < y) → gb_Ev X d M (pc + 3) L S h r) : gb_Ev X d M pc L (.int y :: .int x :: S) h r := by
  refine ⟨(Classical.em ((x < y))).elim (fun q => (kt q).1) (fun q => (kf q).1), ?_⟩
  intro G p l e R s m args below meth c n0 s0 C h1 h2 h3 h4 H locs ls hR hq hL
  exact lv_icmp_lt C.1 C.2.1 hd ht (fun q => (kt q).2 G p l e R s m args below meth c n0 s0 C h1 h2 h3 h4 H locs ls hR hq hL) (fun q => (kf q).2 G p l e R s m args below meth c n0 s0 C h1 h2 h3 h4 H locs ls hR hq hL)
theorem gb_icmp_ge {X : gb_X} {d : Nat} {M : gb_M} {pc : Nat} {L : List (Option Value)} {S : List Value} {h : gb_H} {r : Option Value × gb_H} {x y : Int32} {off : Int} {tgt : Nat} (hd : decode M.2.1 pc = .ok (.if_icmp .ge off, 3)) (ht : (pc : Int) + off = (tgt : Int)) (kt : (y ≤ x) → gb_Ev X d M tgt L S h r) (kf : (¬ y ≤ x) → gb_Ev X d M (pc + 3) L S h r) : gb_Ev X d M pc L (.int y :: .int x :: S) h r := by
  refine ⟨(Classical.em ((y ≤ x))).elim (fun q => (kt q).1) (fun q => (kf q).1), ?_⟩
  intro G p l e R s m args below meth c n0 s0 C h1 h2 h3 h4 H locs ls hR hq hL
  exact lv_icmp_ge C.1 C.2.1 hd ht (fun q => (kt q).2 G p l e R s m args below meth c n0 s0 C h1 h2 h3 h4 H locs ls hR hq hL) (fun q => (kf q).2 G p l e R s m args below meth c n0 s0 C h1 h2 h3 h4 H locs ls hR hq hL)
theorem gb_icmp_gt {X : gb_X} {d : Nat} {M : gb_M} {pc : Nat} {L : List (Option Value)} {S : List Value} {h : gb_H} {r : Option Value × gb_H} {x y : Int32} {off : Int} {tgt : Nat} (hd : decode M.2.1 pc = .ok (.if_icmp .gt off, 3)) (ht : (pc : Int) + off = (tgt : Int)) (kt : (y < x) → gb_Ev X d M tgt L S h r) (kf : (¬ y < x) → gb_Ev X d M (pc + 3) L S h r) : gb_Ev X d M pc L (.int y :: .int x :: S) h r := by
  refine ⟨(Classical.em ((y < x))).elim (fun q => (kt q).1) (fun q => (kf q).1), ?_⟩
  intro G p l e R s m args below meth c n0 s0 C h1 h2 h3 h4 H locs ls hR hq hL
  exact lv_icmp_gt C.1 C.2.1 hd ht (fun q => (kt q).2 G p l e R s m args below meth c n0 s0 C h1 h2 h3 h4 H locs ls hR hq hL) (fun q => (kf q).2 G p l e R s m args below meth c n0 s0 C h1 h2 h3 h4 H locs ls hR hq hL)
theorem gb_icmp_le {X : gb_X} {d : Nat} {M : gb_M} {pc : Nat} {L : List (Option Value)} {S : List Value} {h : gb_H} {r : Option Value × gb_H} {x y : Int32} {off : Int} {tgt : Nat} (hd : decode M.2.1 pc = .ok (.if_icmp .le off, 3)) (ht : (pc : Int) + off = (tgt : Int)) (kt : (x ≤ y) → gb_Ev X d M tgt L S h r) (kf : (¬ x ≤ y) → gb_Ev X d M (pc + 3) L S h r) : gb_Ev X d M pc L (.int y :: .int x :: S) h r := by
  refine ⟨(Classical.em ((x ≤ y))).elim (fun q => (kt q).1) (fun q => (kf q).1), ?_⟩
  intro G p l e R s m args below meth c n0 s0 C h1 h2 h3 h4 H locs ls hR hq hL
  exact lv_icmp_le C.1 C.2.1 hd ht (fun q => (kt q).2 G p l e R s m args below meth c n0 s0 C h1 h2 h3 h4 H locs ls hR hq hL) (fun q => (kf q).2 G p l e R s m args below meth c n0 s0 C h1 h2 h3 h4 H locs ls hR hq hL)
