/-! the law's entry: the machine's start is the pure start -/
theorem gb_Wmono {p : Program} {l : Launch} {e : Env} {R : Room} {s : State} {m : MethodId} {args : Array Value} {below : List Frame} {meth : Method} {c : Code} {H : Heap} {locs : List Loc} {cells slots : Nat} {Q Q' : State → Prop} {g : JFrame} (h : ∀ t, Q t → Q' t) (k : W p l e R s m args below meth c H locs cells slots Q g) : W p l e R s m args below meth c H locs cells slots Q' g := by
  intro T hT X
  obtain ⟨t, a, b⟩ := k T hT X
  exact ⟨t, a, h t b⟩




theorem gb_cfs : ∀ k, k < 12 → ∃ (C : String) (T : u_T) (N : Nat), gb_cf k C T N
  | 0, _ => ⟨_, _, _, cf0⟩
  | 1, _ => ⟨_, _, _, cf1⟩
  | 2, _ => ⟨_, _, _, cf2⟩
  | 3, _ => ⟨_, _, _, cf3⟩
  | 4, _ => ⟨_, _, _, cf4⟩
  | 5, _ => ⟨_, _, _, cf5⟩
  | 6, _ => ⟨_, _, _, cf6⟩
  | 7, _ => ⟨_, _, _, cf7⟩
  | 8, _ => ⟨_, _, _, cf8⟩
  | 9, _ => ⟨_, _, _, cf9⟩
  | 10, _ => ⟨_, _, _, cf10⟩
  | 11, _ => ⟨_, _, _, cf11⟩
  | k + 12, h => absurd h (by omega)
theorem gb_start {s : State} {args : Array Value} (hts : ∀ w ∈ lw_tbl, w.before args s = true) (hs : ∀ w ∈ flatC (Jvm.Cond.and given_1 narrow_1), w.before args s = true) {b L : Nat} {xs : Nat → Int32} (hX : va_X b L xs s s.heap) (hbl : b < s.heap.size) :
    ∃ G : gb_W, G.1 = s.heap.size ∧ G.2.2.2.2.1 1000 = b ∧ gb_wd G s ∧ gb_Rel G gb_h0 s.heap ∧ G.2.2.2.2.2.2 = (L, xs) := by
  have hcls : ∀ k : Nat, ∃ z : ClassId × (Nat → Nat), ∀ q : vw_C, vwCl[k]? = some q → u_Kn s q.1 q.2.1 q.2.2 z.1 z.2 := by
    intro k
    by_cases hk : k < 12
    · obtain ⟨C, T, N, hc⟩ := gb_cfs k hk
      obtain ⟨cC, iS, h⟩ := u_known (C := C) (T := T) (N := N) (n := N) hts (fun w hw => (List.mem_filter.mp (hc.2.2.1 w hw)).1) (hts _ (List.mem_filter.mp hc.2.2.2.2.2.1).1)
      refine ⟨(cC, iS), fun q hq => ?_⟩
      have e := hc.2.1.symm.trans hq
      cases e
      exact h
    · refine ⟨(0, fun _ => 0), fun q hq => ?_⟩
      have h9 := (List.getElem?_eq_some_iff.mp hq).1
      have h8 : vwCl.length = 12 := rfl
      omega
  obtain ⟨z, hz⟩ := Classical.axiomOfChoice hcls
  have hprim : ∀ ty : FieldType, (∀ C, ty ≠ .object C) → (Cond.arrayClass ty).before args s = true → ∃ cA, ArrOfT s cA ty ∧ va_RA s cA ty := by
    intro ty hty h
    obtain ⟨cA, kA, comp, hfind, hk, hkind⟩ := Cond.arrayClass_spec h
    refine ⟨cA, fun n z => ⟨fun k h => (by cases h), kA, hk, comp, hkind⟩, ?_⟩
    cases ty <;> first | exact hfind | exact absurd rfl (hty _)
  have hobj : ∀ C : String, (Cond.arrayOver (.object C)).before args s = true → ∃ cA, ArrOfT s cA (.object C) ∧ va_RA s cA (.object C) := by
    intro C h
    obtain ⟨comp, c, k, h1, h2, h3, h4, h5⟩ := Cond.arrayOver_spec h
    exact ⟨c, fun n z => ⟨fun k h => (by cases h), k, h3, comp, h4⟩, k, comp, h3, h4, h1, h5⟩
  have hao : ∀ C ∈ gb_aos, (Cond.arrayOver (.object C)).before args s = true := by
    intro C hC
    have : ∀ C ∈ gb_aos, Cond.arrayOver (.object C) ∈ lw_tbl := by decide +kernel
    exact hts _ (this C hC)
  have hac : ∀ k ∈ [20, 21, 22, 23], (Cond.arrayClass (gb_aty k)).before args s = true := by
    intro k hk
    have : ∀ k ∈ [20, 21, 22, 23], Cond.arrayClass (gb_aty k) ∈ lw_tbl := by decide +kernel
    exact hts _ (this k hk)
  have harr : ∀ k : Nat, ∃ cA : ClassId, k ∈ gb_aks → ArrOfT s cA (gb_aty k) ∧ va_RA s cA (gb_aty k) := by
    intro k
    by_cases hk : k ∈ gb_aks
    · have h8 : k = 20 ∨ k = 21 ∨ k = 22 ∨ k = 23 ∨ k = 30 ∨ k = 31 ∨ k = 32 ∨ k = 34 ∨ k = 35 := by simpa [gb_aks] using hk
      have h9 : ∃ cA, ArrOfT s cA (gb_aty k) ∧ va_RA s cA (gb_aty k) := by
        rcases h8 with rfl | rfl | rfl | rfl | rfl | rfl | rfl | rfl | rfl
        · exact hprim _ (fun C h => by cases h) (hac 20 (by decide))
        · exact hprim _ (fun C h => by cases h) (hac 21 (by decide))
        · exact hprim _ (fun C h => by cases h) (hac 22 (by decide))
        · exact hprim _ (fun C h => by cases h) (hac 23 (by decide))
        · exact hobj RX0 (hao _ (by decide))
        · exact hobj RX1 (hao _ (by decide))
        · exact hobj RX2 (hao _ (by decide))
        · exact hobj RX4 (hao _ (by decide))
        · exact hobj RX5 (hao _ (by decide))
      obtain ⟨cA, h⟩ := h9
      exact ⟨cA, fun _ => h⟩
    · exact ⟨0, fun h => absurd h hk⟩
  obtain ⟨cA, hcA⟩ := Classical.axiomOfChoice harr
  have hex : ∀ i : Nat, i < gb_ns → (Cond.exactly (gb_tm i) "java/lang/String").before args s = true := by
    have : ∀ i, i < gb_ns → Cond.exactly (gb_tm i) "java/lang/String" ∈ flatC (Jvm.Cond.and given_1 narrow_1) := by decide +kernel
    exact fun i hi => hs _ (this i hi)
  have hco : ∀ i : Nat, i < gb_ns → (Cond.eq (.field (gb_tm i) "java/lang/String" "coder" "B") (.int 0)).before args s = true := by
    have : ∀ i, i < gb_ns → Cond.eq (.field (gb_tm i) "java/lang/String" "coder" "B") (.int 0) ∈ flatC (Jvm.Cond.and given_1 narrow_1) := by decide +kernel
    exact fun i hi => hs _ (this i hi)
  have har : ∀ i : Nat, i < gb_ns → (Cond.arrayOf (.field (gb_tm i) "java/lang/String" "value" "[B") .byte).before args s = true := by
    have : ∀ i, i < gb_ns → Cond.arrayOf (.field (gb_tm i) "java/lang/String" "value" "[B") .byte ∈ flatC (Jvm.Cond.and given_1 narrow_1) := by decide +kernel
    exact fun i hi => hs _ (this i hi)
  have hle : ∀ i : Nat, i < gb_ns → (Cond.eq (.length (.field (gb_tm i) "java/lang/String" "value" "[B")) (.int (Int32.ofNat (gb_sn.getD i 0)))).before args s = true := by
    have : ∀ i, i < gb_ns → Cond.eq (.length (.field (gb_tm i) "java/lang/String" "value" "[B")) (.int (Int32.ofNat (gb_sn.getD i 0))) ∈ flatC (Jvm.Cond.and given_1 narrow_1) := by decide +kernel
    exact fun i hi => hs _ (this i hi)
  have hel : ∀ i : Nat, i < gb_ns → ∀ j : Nat, j < gb_sn.getD i 0 → (Cond.eq (.elem (.field (gb_tm i) "java/lang/String" "value" "[B") (.int (Int32.ofNat j))) (.int ((gb_sb.getD i []).getD j 0))).before args s = true := by
    have : ∀ i, i < gb_ns → ∀ j, j < gb_sn.getD i 0 → Cond.eq (.elem (.field (gb_tm i) "java/lang/String" "value" "[B") (.int (Int32.ofNat j))) (.int ((gb_sb.getD i []).getD j 0)) ∈ flatC (Jvm.Cond.and given_1 narrow_1) := by decide +kernel
    exact fun i hi j hj => hs _ (this i hi j hj)
  have hne : ∀ i j : Nat, i < gb_ns → j < gb_ns → i ≠ j → (Cond.not (Cond.eq (gb_tm i) (gb_tm j))).before args s = true ∨ (Cond.not (Cond.eq (gb_tm j) (gb_tm i))).before args s = true := by
    exact fun i j hi hj hij => (gb_nes i hi j hj hij).imp (hs _) (hs _)
  have hA : ∀ a : Nat, a < s.heap.size → ¬ (fun q => s.heap.size ≤ q) a := fun a h => Nat.not_le.mpr h
  obtain ⟨adK, adV, hvk, htm⟩ := vk_Sof (A := fun q => s.heap.size ≤ q) (tm := gb_tm) (len := gb_sn) (byt := gb_sb) (N := gb_ns) (by decide) hex hco har hle hel hne hA
  have hZ1 : va_Z "java/lang/String" "COMPACT_STRINGS" "Z" (.int 1) (fun q => s.heap.size ≤ q) s s.heap := va_Zof (hts (.laysStatic "java/lang/String" "COMPACT_STRINGS" "Z") (by decide +kernel)) (hts (.initialized "java/lang/String") (by decide +kernel)) (va_eqi (hs _ (by decide +kernel))) hA
  obtain ⟨fo, hZ2⟩ : ∃ fo : Option Nat, va_Z "jdk/internal/util/Preconditions" "SIOOBE_FORMATTER" "Ljava/util/function/BiFunction;" (va_rf fo) (fun q => s.heap.size ≤ q) s s.heap := by
    rcases va_Zqof (A := fun q => s.heap.size ≤ q) (hts (.laysStatic "jdk/internal/util/Preconditions" "SIOOBE_FORMATTER" "Ljava/util/function/BiFunction;") (by decide +kernel)) (hts (.initialized "jdk/internal/util/Preconditions") (by decide +kernel)) (hs _ (by decide +kernel)) hA with h | ⟨t, h⟩
    · exact ⟨none, h⟩
    · exact ⟨some t, h⟩
  have hsr : ∀ i, i < gb_ns → (Cond.stringRef RX7 (gb_si i) (gb_st i)).before args s = true := by
    have : ∀ i, i < gb_ns → Cond.stringRef RX7 (gb_si i) (gb_st i) ∈ lw_tbl := by decide +kernel
    exact fun i hi => hts _ (this i hi)
  obtain ⟨scr, x1, x2, x3, x4, x5⟩ := hX
  have sa0 : ∀ i, i < gb_ns → (if i = 1000 then b else if 100 ≤ i then adV (i - 100) else adK i) = adK i := fun i hi => by
    have : gb_ns = 14 := rfl
    rw [if_neg (by omega), if_neg (by omega)]
  have sa1 : ∀ i, i < gb_ns → (if 100 + i = 1000 then b else if 100 ≤ 100 + i then adV (100 + i - 100) else adK (100 + i)) = adV i := fun i hi => by
    have : gb_ns = 14 := rfl
    rw [if_neg (by omega), if_pos (by omega), Nat.add_sub_cancel_left]
  refine ⟨(s.heap.size, s.heap, (fun k => (z k).1, fun k => (z k).2), cA, fun k => if k = 1000 then b else if 100 ≤ k then adV (k - 100) else adK k, fo, (L, xs)), rfl, rfl, ?_, ?_, rfl⟩
  · refine ⟨⟨fun k q hq => hz k q hq, fun k q hq => by simp at hq⟩, fun k hk => hcA k hk, fun w hw => ?_, fun C hC => va_AO.of (A := args) (hao C hC), fun i hi => ?_, ⟨fun i hi => ?_, fun i j hi hj e => ?_⟩, ⟨hbl, scr, x1, x2, x3, x4, x5⟩, hZ1, hZ2, rfl⟩
    · have h1 := List.mem_filter.mp hw
      have h2 := hts w h1.1
      have h3 := h1.2
      cases w <;> first | (exact va_Nw.of rfl h2) | (simp [gb_isN] at h3)
    · show vk_R RX7 (gb_si i) (gb_st i) (if i = 1000 then b else if 100 ≤ i then adV (i - 100) else adK i) s
      rw [sa0 i hi]
      exact vk_R.of (hsr i hi) (htm i hi)
    · show va_O "java/lang/String" (if i = 1000 then b else if 100 ≤ i then adV (i - 100) else adK i) _ s s.heap ∧ va_OF "java/lang/String" "coder" "B" (.int 0) (if i = 1000 then b else if 100 ≤ i then adV (i - 100) else adK i) _ s s.heap ∧ va_OF "java/lang/String" "value" "[B" (.ref (if 100 + i = 1000 then b else if 100 ≤ 100 + i then adV (100 + i - 100) else adK (100 + i))) (if i = 1000 then b else if 100 ≤ i then adV (i - 100) else adK i) _ s s.heap ∧ va_T .byte (if 100 + i = 1000 then b else if 100 ≤ 100 + i then adV (100 + i - 100) else adK (100 + i)) _ _ _ s s.heap
      rw [sa0 i hi, sa1 i hi]
      exact hvk.1 i hi
    · have e' : (if i = 1000 then b else if 100 ≤ i then adV (i - 100) else adK i) = (if j = 1000 then b else if 100 ≤ j then adV (j - 100) else adK j) := e
      rw [sa0 i hi, sa0 j hj] at e'
      exact hvk.2 i j hi hj e'
  · exact ⟨rfl, fun q _ => rfl, fun n hn => absurd hn (Nat.not_lt_zero n), fun n _ => rfl⟩
set_option maxRecDepth 100000 in
theorem whole_start {p : Program} {e : Env} {s : State} {m : MethodId} {below : List Frame} {meth : Method} {c : Code} (l : Launch) {b L : Nat} {xs : Nat → Int32} (hL : L ≤ 4096) (hnm : meth.name = "law") (C0 : lw_At p s m meth c b L xs) : W p l e room_1 s m #[Value.ref b] below meth c s.heap [] 0 0 (lw_Z below #[Value.ref b] s) (entryFrame m ([Value.ref b] : List Value).toArray 4) := by
  obtain ⟨hx, hb, hr, hml, hown, hts, hX, hbl, hlocks, hgv⟩ := C0
  obtain ⟨G, hG1, hGb, hwd, hR, hGX⟩ := gb_start hts (flat_of_before _ hgv) hX hbl
  obtain ⟨h', hF, hc, hsl⟩ := gb_pure (L, xs) hL
  have hE := fnL_law_ok (X := (L, xs)) gb_h0 _ hF
  have hl := lv_entry ([.ref b]) (n := 4) (Nat.le_of_ble_eq_true rfl)
  rw [lg_entry_eq]
  generalize (lg_sl ([.ref b]) ++ List.replicate (4 - (lg_sl ([.ref b])).length) Slot.unset).toArray = ls at hl ⊢
  have k := hE.2 G p l e room_1 s m #[Value.ref b] below meth c 0 0
    ⟨hx, hb, hml, hr, hlocks, hnm, hown, fun w hw => hts w (List.mem_filter.mp hw).1, hwd, by decide, by decide, hGX⟩ (Nat.zero_le _) (Nat.zero_le _) (by show gb_cn h' - 0 ≤ 600000; omega) (by show gb_sl h' - 0 ≤ 7302250; omega) s.heap [] ls hR (fun q hq => absurd hq List.not_mem_nil)
    ⟨hl.1, hl.2.1, fun i v hi => by
      match i, hi with
      | 0, hi =>
        have e : v = .retAddr 1000 := by
          have : (gb_L0 [Value.retAddr 1000])[0]? = some (some (Value.retAddr 1000)) := rfl
          rw [this] at hi
          cases hi; rfl
        subst e
        have h9 := hl.2.2 (0, .ref b) List.mem_cons_self
        show ls[0]? = some (.val (.ref (G.2.2.2.2.1 1000)))
        rw [hGb]; exact h9
      | i + 1, hi =>
        have : (gb_L0 [Value.retAddr 1000])[i + 1]? = none := rfl
        rw [this] at hi
        cases hi⟩
  refine gb_Wmono ?_ k
  rintro t ⟨o, h1, h2, ⟨h3, -⟩, Ls, ⟨h4, h5, h6⟩, h7⟩
  refine ⟨o, h1, h2, h3, h4, h5, ?_⟩
  exact h6.weaken (fun y hy hlt => absurd hlt (Nat.not_lt.mpr (by have := h7 y hy; rw [hG1] at this; exact this))) (by show gb_cn h' - 0 ≤ 600000; omega) (by show gb_sl h' - 0 ≤ 7302250; omega)
set_option maxHeartbeats 4000000 in
theorem lw_walk (l : Launch) (b : Addr) (xs : List Int32) : MetFree l x (headSpec (Jvm.Cond.code x code maxLocals ret :: tables_1) room_1) (lw_P b xs) (fun _ _ _ _ _ => True) lw_Q := by
  refine MetFree.of_bodyS (code := code) (maxLocals := maxLocals) (ret := ret) (by decide) ?_ ?_
  · intro args s m h hn
    obtain ⟨meth, c, h1, h2, h3, h4, h5, h6, -, -⟩ := Cond.code_spec hn (atoms_spec (ws := Jvm.Cond.code x code maxLocals ret :: tables_1) h _ List.mem_cons_self)
    exact ⟨meth, c, h1, h2, h3, h4, h5, h6⟩
  · intro p e s m args below meth c s₁ B hml0 hP _
    obtain ⟨rfl, hx, hbd, hgv⟩ := hP
    obtain ⟨scr, harrAt, hlist, hof, hsmall⟩ := hx
    obtain ⟨hcb, hkn, -, -⟩ := State.arrayAt?_spec harrAt
    have hown : s.vm.findClass R_law = some m.cls := findClass_of_methodNamed B.named
    have hts0 : ∀ c ∈ (Jvm.Cond.code x code maxLocals ret :: tables_1), c.before #[Value.ref b] s = true := atoms_spec (ws := Jvm.Cond.code x code maxLocals ret :: tables_1) B.pre
    have hts : ∀ w ∈ lw_tbl, w.before #[Value.ref b] s = true := k2_hts_sels lw_privs (fun w hw => hts0 w (List.mem_cons_of_mem _ hw)) lw_privs_ok
    have hml : c.maxLocals = 4 := B.maxLocals_eq (hts0 _ List.mem_cons_self)
    have X₀ : Stand p l e room_1 s m #[Value.ref b] below meth c s₁ [] 0 0 := Stand.of_body B
    have hh0 : s₁.heap = s.heap := by rw [B.state]; rfl
    have hsz : scr.slots.size = xs.length := by rw [← Array.length_toList, hlist, List.length_map]
    have hval : ∀ j : Nat, j < xs.length → scr.slots[j]? = some (.int (xs.getD j 0)) := fun j hj => by
      rw [← Array.getElem?_toList, hlist]
      simp [hj]
    have hbl : b < s.heap.size := (Array.getElem?_eq_some_iff.mp hcb).1
    have hX : va_X b xs.length (fun j => xs.getD j 0) s s.heap := ⟨scr, hcb, hof, hkn, hsz, hval⟩
    have K : W p l e room_1 s m #[Value.ref b] below meth c s₁.heap [] 0 0 (lw_Z below #[Value.ref b] s) (entryFrame m ([Value.ref b] : List Value).toArray 4) := by
      rw [hh0]
      exact whole_start l hbd (name_of_methodNamed B.named B.method).1 ⟨B.exec, B.bytes, B.returns, hml, hown, hts, hX, hbl, B.notSynchronized, hgv⟩
    obtain ⟨t, a1, o, b1, b2, b3⟩ := K s₁ rfl X₀
    exact ⟨t, o, a1, b1, b2, b3⟩
theorem lw_pre_spec {args : Array Value} {s : State} (h : (Jvm.Cond.and given_1 narrow_1).before args s = true) (hr : rest_1_c.before args s = true) : ∃ (b : Addr) (xs : List Int32), lw_P b xs args s := by
  have hs := flat_of_before _ h
  have hq := flat_of_before _ hr
  have hc : (Cond.count 1).before args s = true := hs _ (by decide +kernel)
  have harr : (Cond.arrayOf (.arg 0) .int).before args s = true := hs _ (by decide +kernel)
  have hle : (Cond.le (.length (.arg 0)) (.int 4096)).before args s = true := hs _ (by decide +kernel)
  have hlen : (Cond.isInt (.length (.arg 0))).before args s = true := hq _ (by decide +kernel)
  have hall : (Cond.all (.arg 0) (.isInt (.elem (.arg 0) (.index 0)))).before args s = true := hq _ (by decide +kernel)
  obtain ⟨b, xs, hb, hx⟩ := State.ints_of_pre rfl harr hlen hall
  have hsm : xs.length < 2 ^ 31 := hx.choose_spec.2.2.2
  have hev : (Term.length (.arg 0)).eval args s none [] s = some (.int xs.length.toInt32) := hx.length_eval hb
  have hv := Cond.le_ints hev (show (Term.int 4096).eval args s none [] s = some (.int 4096) from rfl)
  have hd : xs.length.toInt32 ≤ 4096 := by
    simpa [Cond.before, Cond.holds, hv] using hle
  have hN : xs.length ≤ 4096 := (Int32.ofNat_le_ofNat hsm (by decide)).mp (show Int32.ofNat xs.length ≤ Int32.ofNat 4096 from hd)
  exact ⟨b, xs, Cond.one_arg hc (show args[0]? = some (.ref b) from hb), hx, hN, h⟩
theorem lw_comes (l : Launch) : Comes l x (Jvm.Cond.code x code maxLocals ret :: tables_1) room_1 (fun tb e args s => Calls_1 tb e args s ∧ rest_1 tb e args s ∧ Pre_1 tb e args s)
    (fun _ _ args s o t => lw_Q args s o t) := by
  intro p e ha hc hk s m args below hf hfit hheap happ hpre
  obtain ⟨b, xs, hP⟩ := lw_pre_spec hpre.2.2 hpre.2.1
  obtain ⟨k, o, h1, h2, h3, hQ⟩ := lw_walk l b xs p e ha hc hk s m args below hf ((Spec.applies_iff_loose hf).mp happ).1 hP trivial
  exact ⟨k, o, h1, h2, h3, hQ⟩
theorem lw_frame {s t : State} {o : Outcome} {args : Array Value} (h : Framed s o t [] 600000 7302250) :
    Framed s o t (fieldLocs frame_1_writes args s ++ arrayLocs frame_1_arrays args s ++ staticLocs frame_1_statics s) 600000 7302250 := h
theorem lw_limb (L : Cond) (hL : ∀ (args : Array Value) (s t : State), L.after args s (.returned (some (.int 1))) t = true) :
    ArmFor flags0 classFile x code maxLocals ret World_1 tables_1 room_1 Calls_1 rest_1 Pre_1
      (fun tb e a s o t => postC L tb e a s o t ∧ Framed s o t (fieldLocs frame_1_writes a s ++ arrayLocs frame_1_arrays a s ++ staticLocs frame_1_statics s) 600000 7302250) := by
  intro l _ _ _ p e ha hc hk s m args below hf hfit hheap happ hpre
  obtain ⟨k, o, h1, h2, h3, rfl, hF⟩ := lw_comes l p e ha hc hk s m args below hf hfit hheap happ hpre
  exact ⟨k, _, h1, h2, h3, hL args s _, lw_frame hF⟩
theorem i_vc : Claimed_1_1 ∧ Claimed_1_2 := ⟨lw_limb limb_1_1 (fun args s t => by simp [limb_1_1, Cond.after, Cond.holds, Cond.value]), lw_limb limb_1_2 (fun args s t => Cond.after_iff.mpr (by
  first | (rw [show limb_1_2 = Cond.eq .result (.int 1) from rfl, Cond.eq_ints (x := 1) (y := 1) rfl rfl]; simp; done) | (simp [limb_1_2, Cond.value, Term.eval]; done)))⟩

