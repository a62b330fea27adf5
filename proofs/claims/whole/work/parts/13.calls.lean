/-! calls: a method's judgement at its entry gives its contract; the contract is used at a call -/
def gb_L0 : List Value → List (Option Value)
  | [] => []
  | v :: vs => if v.category = 2 then some v :: none :: gb_L0 vs else some v :: gb_L0 vs
theorem gb_L0_at (G : gb_W) : ∀ (vs : List Value) (k i : Nat) (v : Value), (gb_L0 vs)[i]? = some (some v) → (k + i, gb_tv G v) ∈ lv_args k (vs.map (gb_tv G))
  | [], k, i, v, h => by simp [gb_L0] at h
  | u :: vs, k, i, v, h => by
    unfold gb_L0 at h
    rw [List.map_cons]
    unfold lv_args
    rw [gb_tv_cat]
    by_cases hc : u.category = 2
    · rw [if_pos hc] at h
      rw [if_pos hc]
      match i, h with
      | 0, h =>
        simp at h
        subst h
        exact List.mem_cons_self
      | 1, h => simp at h
      | i + 2, h =>
        have := gb_L0_at G vs (k + 2) i v (by simpa using h)
        rw [show k + 2 + i = k + (i + 2) by omega] at this
        exact List.mem_cons_of_mem _ this
    · rw [if_neg hc] at h
      rw [if_neg hc]
      match i, h with
      | 0, h =>
        simp at h
        subst h
        exact List.mem_cons_self
      | i + 1, h =>
        have := gb_L0_at G vs (k + 1) i v (by simpa using h)
        rw [show k + 1 + i = k + (i + 1) by omega] at this
        exact List.mem_cons_of_mem _ this
theorem gb_wd.warm {G : gb_W} {s U : State} (hW : s.WarmedH U.vm) (h : gb_wd G s) : gb_wd G U := by
  obtain ⟨h1, h2, h3, h4, h5, h6, h7, h8, h10, h11⟩ := h
  refine ⟨h1.moved hW.alike, fun k hk => ⟨arrOfT_moved hW.alike (h2 k hk).1, (h2 k hk).2.moved hW.alike⟩, fun w hw => ?_, fun C hC => (h4 C hC).moved hW.alike, fun i hi => (h5 i hi).warm hW, h6.moved hW.alike, ⟨h7.1, h7.2.elim fun scr b => ⟨scr, b.1, State.isArrayOf_alike hW.alike b.2.1, b.2.2⟩⟩, h8.moved hW.alike, h10.moved hW.alike, h11⟩
  have hf := (List.mem_filter.mp hw).2
  have h9 := h3 w hw
  cases w <;> first | (exact va_Nw.warmF hW h9) | (exact va_Nw.warmM hW h9) | (simp [gb_isN] at hf)
theorem gb_wd.same {G : gb_W} {u U : State} (hv : U.vm = u.vm) (h : gb_wd G u) : gb_wd G U := by
  obtain ⟨h1, h2, h3, h4, h5, h6, h7, h8, h10, h11⟩ := h
  have hA : u.vm.Alike U.vm := by rw [hv]; exact Vm.Alike.refl _
  refine ⟨h1.moved hA, fun k hk => ⟨arrOfT_moved hA (h2 k hk).1, (h2 k hk).2.moved hA⟩, fun w hw => ?_, fun C hC => (h4 C hC).moved hA, fun i hi => (h5 i hi).same hv, h6.moved hA, ⟨h7.1, h7.2.elim fun scr b => ⟨scr, b.1, State.isArrayOf_alike hA b.2.1, b.2.2⟩⟩, h8.moved hA, h10.moved hA, h11⟩
  have hf := (List.mem_filter.mp hw).2
  have h9 := h3 w hw
  cases w <;> first | (exact va_Nw.same rfl hv.symm h9) | (simp [gb_isN] at hf)
def gb_Pc (G : gb_W) (As : List Value) (h : gb_H) : Array Value → State → Prop := fun a U => a = (As.map (gb_tv G)).toArray ∧ gb_Rel G h U.heap ∧ gb_wd G U
theorem gb_blind (G : gb_W) (As : List Value) (h : gb_H) : FrameBlind (gb_Pc G As h) := fun a U g mk q => ⟨q.1, q.2.1, gb_wd.same (u := U) (U := U.calling g mk a) rfl q.2.2⟩
def gb_cw (M : gb_M) : Cond := .code M.1 M.2.1 M.2.2.1 M.2.2.2
/-- what the tables say of a method of ours: its code, its class; its name is plain -/
def gb_mt (M : gb_M) (n : Nat) : Prop := gb_cw M ∈ gb_ws ∧ Cond.initialized M.1.cls ∈ gb_ws ∧ plainName M.1.cls = true ∧ (M.1.cls ≠ "java/lang/invoke/MethodHandle" ∧ M.1.cls ≠ "java/lang/invoke/VarHandle") ∧ (parseMethodDescriptor M.1.desc).map (fun d => d.parameters.length) = some n ∧ M.2.2.1 ≤ 40
theorem gb_good : GoodIn gb_ws gb_ws := fun w hw => ⟨hw, good_of_word (List.mem_filter.mp hw).2⟩
theorem gb_goodM {M : gb_M} (h : gb_cw M ∈ gb_ws) : GoodIn gb_ws (gb_cw M :: gb_ws) := fun w hw => (List.mem_cons.mp hw).elim (fun e => by rw [e]; exact gb_good _ h) (fun hw => gb_good _ hw)
def gb_rm (d c s : Nat) : Room := { frames := d, cells := c, slots := s, locals := 64 * d }
theorem gb_lgsl (G : gb_W) : ∀ As : List Value, (lg_sl (As.map (gb_tv G))).length = (lg_sl As).length
  | [] => rfl
  | a :: t => by
    have ih := gb_lgsl G t
    simp only [lg_sl, List.map_cons, List.flatMap_cons, List.length_append, gb_tv_cat] at ih ⊢
    rw [ih]
    by_cases hc : a.category = 2 <;> simp [hc]
theorem gb_met {X : gb_X} (G : gb_W) (hGX : G.2.2.2.2.2.2 = X) (l : Launch) {d n : Nat} {M : gb_M} {As : List Value} {h h1 : gb_H} {v : Option Value} (hm : gb_mt M n) (hA : (lg_sl As).length ≤ M.2.2.1) (hE : gb_Ev X d M 0 (gb_L0 As) [] h (v, h1)) :
    Met l M.1 (gb_cw M :: gb_ws) (gb_rm d (gb_cn h1 - gb_cn h) (gb_sl h1 - gb_sl h)) (gb_Pc G As h) (gb_Q G (v, h1)) (gb_cn h1 - gb_cn h) (gb_sl h1 - gb_sl h) (fun q => G.1 ≤ q) := by
  refine Met.ofW (cc := M.2.1) (maxL := M.2.2.1) (ret := M.2.2.2) hm.2.2.1 rfl ?_
  intro p e s m args below meth c s₁ B hml hv
  obtain ⟨rfl, hR, hwd⟩ := hv
  have hts := atoms_spec (ws := gb_cw M :: gb_ws) B.pre
  have hown : s.vm.findClass M.1.cls = some m.cls := findClass_of_methodNamed B.named
  have hnm : meth.name = M.1.name := (name_of_methodNamed B.named B.method).1
  have hl := lv_entry (As.map (gb_tv G)) (n := M.2.2.1) (by rw [gb_lgsl]; exact hA)
  rw [lg_entry_eq]
  generalize (lg_sl (As.map (gb_tv G)) ++ List.replicate (M.2.2.1 - (lg_sl (As.map (gb_tv G))).length) Slot.unset).toArray = ls at hl ⊢
  have k := hE.2 G p l e (gb_rm d (gb_cn h1 - gb_cn h) (gb_sl h1 - gb_sl h)) s m (As.map (gb_tv G)).toArray below meth c (gb_cn h) (gb_sl h)
    ⟨B.exec, B.bytes, hml, B.returns, B.notSynchronized, hnm, hown, fun w hw => hts w (List.mem_cons_of_mem _ hw), hwd, Nat.le_refl _, Nat.le_refl _, hGX⟩ (Nat.le_refl _) (Nat.le_refl _) (Nat.le_refl _) (Nat.le_refl _) s.heap [] ls hR (fun q hq => absurd hq List.not_mem_nil)
    ⟨hl.1, hl.2.1, fun i v hi => by have := hl.2.2 _ (gb_L0_at G As 0 i v hi); rwa [Nat.zero_add] at this⟩
  rw [Nat.sub_self, Nat.sub_self] at k
  exact k
section GC
variable {X : gb_X} {d d' n : Nat} {M M' : gb_M} {pc : Nat} {L : List (Option Value)} {S St : List Value} {h h1 : gb_H} {r : Option Value × gb_H} {v : Option Value} {idx : Nat} {As : List Value}
/-- what stands behind a call: the run gives the callee's answer and store -/
theorem gb_after {G : gb_W} {p : Program} {l : Launch} {e : Env} {R : Room} {s : State} {m : MethodId} {args : Array Value} {below : List Frame} {meth : Method} {c : Code} {H : Heap} {locs : List Loc} {n0 s0 : Nat} {ls : Array Slot} {st0 : List Value} {aa : Array Value}
    (hn : n0 ≤ gb_cn h) (hs : s0 ≤ gb_sl h) (g1 : gb_cn h ≤ gb_cn h1) (g2 : gb_sl h ≤ gb_sl h1) {Q : State → Prop} (hq : ∀ q ∈ locs, G.1 ≤ q.base)
    (hr : va_Run p l e R s m args below meth c H locs (gb_cn h - n0) (gb_sl h - s0) (gb_cn h1 - gb_cn h) (gb_sl h1 - gb_sl h) (F0 m pc ls st0) (S.map (gb_tv G)) (gb_Q G (v, h1) aa) (fun q => G.1 ≤ q))
    (k : ∀ (H1 : Heap) (locs1 : List Loc), gb_Rel G h1 H1 → (∀ q ∈ locs1, G.1 ≤ q.base) → W p l e R s m args below meth c H1 locs1 (gb_cn h1 - n0) (gb_sl h1 - s0) Q (F0 m (pc + 3) ls ((v.toList ++ S).map (gb_tv G)))) :
    W p l e R s m args below meth c H locs (gb_cn h - n0) (gb_sl h - s0) Q (F0 m pc ls st0) := by
  intro T hT X
  obtain ⟨v', st₀, t, T', L', e0, X', hL, e1, e2, ⟨hv, hR⟩, st⟩ := hr T hT X
  have hv' : v' = v.map (gb_tv G) := Outcome.returned.inj hv
  rw [show gb_cn h - n0 + (gb_cn h1 - gb_cn h) = gb_cn h1 - n0 by omega, show gb_sl h - s0 + (gb_sl h1 - gb_sl h) = gb_sl h1 - s0 by omega] at X'
  obtain ⟨t2, a1, b1⟩ := k t.heap (locs ++ L') hR (fun q hq' => (List.mem_append.mp hq').elim (hq q) (hL q)) T' e1 X'
  refine ⟨t2, st t2 ?_, b1⟩
  rw [List.map_append] at a1
  have : (v.toList).map (gb_tv G) = v'.toList := by rw [hv']; cases v <;> rfl
  rw [this] at a1
  exact a1
theorem gb_par {y : MethodName} (hd : (parseMethodDescriptor y.desc).map (fun d => d.parameters.length) = some n) : ∀ sig, parseMethodDescriptor y.desc = some sig → n = sig.parameters.length := by
  intro sig h
  rw [h] at hd
  exact (Option.some.inj hd).symm
/-- a static method -/
theorem gb_callS (hd : decode M.2.1 pc = .ok (.invokestatic idx, 3)) (hm : gb_mt M' n) (hl : Cond.methodLink M.1.cls idx M'.1 ∈ gb_ws ∨ ∃ host, Cond.methodLinkNest M.1.cls idx M'.1 host ∈ gb_nest) (hst : Cond.static M'.1 ∈ gb_ws)
    (hE : gb_Ev X d' M' 0 (gb_L0 As) [] h (v, h1)) (hdd : d' + 1 ≤ d) (hn : As.length = n) (hA : (lg_sl As).length ≤ M'.2.2.1) (hS : (S.map fun v => v.category).sum ≤ 8) (hSt : As.reverse ++ S = St) (k : gb_Ev X d M (pc + 3) L (v.toList ++ S) h1 r) : gb_Ev X d M pc L St h r := by
  subst hSt
  refine ⟨⟨Nat.le_trans hE.1.1 k.1.1, Nat.le_trans hE.1.2 k.1.2⟩, ?_⟩
  intro G p l e R s m args below meth c n0 s0 C h1' h2 h3 h4 H locs ls hR hq hL
  have g1 : gb_cn h ≤ gb_cn h1 := hE.1.1
  have g2 : gb_sl h ≤ gb_sl h1 := hE.1.2
  have g3 : gb_cn h1 ≤ gb_cn r.2 := k.1.1
  have g4 : gb_sl h1 ≤ gb_sl r.2 := k.1.2
  have hts := C.2.2.2.2.2.2.2.1
  have hM := gb_met G C.2.2.2.2.2.2.2.2.2.2.2 l hm hA hE
  have hrf := C.2.2.2.2.2.2.2.2.2
  have hmx := hm.2.2.2.2.2
  have hp : PreS s H (gb_Pc G As h) (As.map (gb_tv G)) := ⟨gb_blind G As h, fun U hU hW => ⟨rfl, by rw [hU]; exact hR, C.2.2.2.2.2.2.2.2.1.warm hW⟩⟩
  have hroom : 2 * (F0 m pc ls ((As.reverse ++ S).map (gb_tv G))).monitorRoom + ((S.map (gb_tv G)).map fun v => v.category).sum ≤ 8 := lv_room (by rw [gb_tv_cats]; exact hS)
  refine gb_after (aa := (As.map (gb_tv G)).toArray) h1' h2 g1 g2 hq ?_ (fun H1 locs1 hR1 hq1 => k.2 G p l e R s m args below meth c n0 s0 C (by omega) (by omega) h3 h4 H1 locs1 ls hR1 hq1 hL)
  rcases hl with hl | ⟨host, hl⟩
  · exact va_runS (Ts := gb_ws) (own := M.1.cls) (n := n) ⟨C.1, C.2.1, C.2.2.1, C.2.2.2.2.2.2.1, hts⟩ hM ⟨⟨rfl, rfl, by show d' + 1 ≤ R.frames; omega, by show 8 + (M'.2.2.1 + 11) + 64 * d' ≤ R.locals; omega, pay_in hts (gb_goodM hm.1), List.mem_cons_self, hts _ hm.1, hts _ hm.2.1, hm.2.2.2.1, gb_par hm.2.2.2.2.1, hts _ hl⟩, hts _ hst⟩ hp rfl (by rw [List.length_map]; exact hn) (hL.1) (by simp [F0, List.map_append, List.map_reverse]) hroom hd ⟨by show gb_cn h - n0 + (gb_cn h1 - gb_cn h) ≤ R.cells; omega, by show gb_sl h - s0 + (gb_sl h1 - gb_sl h) ≤ R.slots; omega⟩
  · exact va_runSN (Ts := gb_ws) (own := M.1.cls) (n := n) ⟨C.1, C.2.1, C.2.2.1, C.2.2.2.2.2.2.1, hts⟩ hM ⟨⟨⟨rfl, rfl, by show d' + 1 ≤ R.frames; omega, by show 8 + (M'.2.2.1 + 11) + 64 * d' ≤ R.locals; omega, pay_in hts (gb_goodM hm.1), List.mem_cons_self⟩, hts _ hm.1, hts _ hm.2.1, hm.2.2.2.1, gb_par hm.2.2.2.2.1, va_Nw.use rfl (C.2.2.2.2.2.2.2.2.1.2.2.1 _ hl)⟩, hts _ hst, trivial⟩ hp rfl (by rw [List.length_map]; exact hn) (hL.1) (by simp [F0, List.map_append, List.map_reverse]) hroom hd ⟨by show gb_cn h - n0 + (gb_cn h1 - gb_cn h) ≤ R.cells; omega, by show gb_sl h - s0 + (gb_sl h1 - gb_sl h) ≤ R.slots; omega⟩
/-- a method of an object -/
theorem gb_callV {o ci N : Nat} {C0 : String} {T : u_T} (hc : gb_cf ci C0 T N) (hd : decode M.2.1 pc = .ok (.invokevirtual idx, 3)) (hm : gb_mt M' n) (hl : Cond.methodLink M.1.cls idx M'.1 ∈ gb_ws ∨ ∃ host, Cond.methodLinkNest M.1.cls idx M'.1 host ∈ gb_nest) (hin : Cond.instanceMethod M'.1 ∈ gb_ws) (hse : Cond.selects C0 M'.1 M'.1 ∈ gb_ws) (hk : (gb_kd h o).1 = ci)
    (hE : gb_Ev X d' M' 0 (gb_L0 (.ref o :: As)) [] h (v, h1)) (hdd : d' + 1 ≤ d) (hn : As.length = n) (hA : (lg_sl (.ref o :: As)).length ≤ M'.2.2.1) (hS : (S.map fun v => v.category).sum ≤ 8) (hSt : As.reverse ++ .ref o :: S = St) (k : gb_Ev X d M (pc + 3) L (v.toList ++ S) h1 r) : gb_Ev X d M pc L St h r := by
  subst hSt
  refine ⟨⟨Nat.le_trans hE.1.1 k.1.1, Nat.le_trans hE.1.2 k.1.2⟩, ?_⟩
  intro G p l e R s m args below meth c n0 s0 C h1' h2 h3 h4 H locs ls hR hq hL
  have g1 : gb_cn h ≤ gb_cn h1 := hE.1.1
  have g2 : gb_sl h ≤ gb_sl h1 := hE.1.2
  have g3 : gb_cn h1 ≤ gb_cn r.2 := k.1.1
  have g4 : gb_sl h1 ≤ gb_sl r.2 := k.1.2
  have hts := C.2.2.2.2.2.2.2.1
  have hM := gb_met G C.2.2.2.2.2.2.2.2.2.2.2 l hm hA hE
  have hrf := C.2.2.2.2.2.2.2.2.2
  have hmx := hm.2.2.2.2.2
  obtain ⟨cellV, q1, q2, q3, -⟩ := gb_obj hR hc hk
  have hcls := (C.2.2.2.2.2.2.2.2.1.1.1 ci _ hc.2.1).2
  have hp : PreV s H C0 (G.1 + o) (gb_Pc G (.ref o :: As) h) (As.map (gb_tv G)) := ⟨gb_blind G _ h, ⟨cellV, q1, by rw [q3]; rfl, by rw [q2]; exact hcls.1⟩, fun U hU hW => ⟨rfl, by rw [hU]; exact hR, C.2.2.2.2.2.2.2.2.1.warm hW⟩⟩
  have hroom : 2 * (F0 m pc ls ((As.reverse ++ .ref o :: S).map (gb_tv G))).monitorRoom + ((S.map (gb_tv G)).map fun v => v.category).sum ≤ 8 := lv_room (by rw [gb_tv_cats]; exact hS)
  refine gb_after (aa := (Value.ref (G.1 + o) :: As.map (gb_tv G)).toArray) h1' h2 g1 g2 hq ?_ (fun H1 locs1 hR1 hq1 => k.2 G p l e R s m args below meth c n0 s0 C (by omega) (by omega) h3 h4 H1 locs1 ls hR1 hq1 hL)
  rcases hl with hl | ⟨host, hl⟩
  · exact va_runV (Ts := gb_ws) (own := M.1.cls) (n := n) ⟨C.1, C.2.1, C.2.2.1, C.2.2.2.2.2.2.1, hts⟩ hM ⟨⟨rfl, rfl, by show d' + 1 ≤ R.frames; omega, by show 8 + (M'.2.2.1 + 11) + 64 * d' ≤ R.locals; omega, pay_in hts (gb_goodM hm.1), List.mem_cons_self, hts _ hm.1, hts _ hm.2.1, hm.2.2.2.1, gb_par hm.2.2.2.2.1, hts _ hl⟩, hts _ hin, hts _ hse⟩ hp rfl (by rw [List.length_map]; exact hn) (hL.1) (by simp [F0, List.map_append, List.map_reverse, gb_tv]) hroom hd ⟨by show gb_cn h - n0 + (gb_cn h1 - gb_cn h) ≤ R.cells; omega, by show gb_sl h - s0 + (gb_sl h1 - gb_sl h) ≤ R.slots; omega⟩
  · exact va_runVN (Ts := gb_ws) (own := M.1.cls) (n := n) ⟨C.1, C.2.1, C.2.2.1, C.2.2.2.2.2.2.1, hts⟩ hM ⟨⟨⟨rfl, rfl, by show d' + 1 ≤ R.frames; omega, by show 8 + (M'.2.2.1 + 11) + 64 * d' ≤ R.locals; omega, pay_in hts (gb_goodM hm.1), List.mem_cons_self⟩, hts _ hm.1, hts _ hm.2.1, hm.2.2.2.1, gb_par hm.2.2.2.2.1, va_Nw.use rfl (C.2.2.2.2.2.2.2.2.1.2.2.1 _ hl)⟩, hts _ hin, hts _ hse⟩ hp rfl (by rw [List.length_map]; exact hn) (hL.1) (by simp [F0, List.map_append, List.map_reverse, gb_tv]) hroom hd ⟨by show gb_cn h - n0 + (gb_cn h1 - gb_cn h) ≤ R.cells; omega, by show gb_sl h - s0 + (gb_sl h1 - gb_sl h) ≤ R.slots; omega⟩
/-- a constructor -/
theorem gb_callI {o : Nat} (hd : decode M.2.1 pc = .ok (.invokespecial idx, 3)) (hm : gb_mt M' n) (hret : M'.2.2.2 = none) (hnm : M'.1.name = "<init>") (hl : Cond.methodLink M.1.cls idx M'.1 ∈ gb_ws ∨ ∃ host, Cond.methodLinkNest M.1.cls idx M'.1 host ∈ gb_nest) (hin : Cond.instanceMethod M'.1 ∈ gb_ws)
    (hE : gb_Ev X d' M' 0 (gb_L0 (.ref o :: As)) [] h (none, h1)) (hdd : d' + 1 ≤ d) (hn : As.length = n) (hA : (lg_sl (.ref o :: As)).length ≤ M'.2.2.1) (hS : (S.map fun v => v.category).sum ≤ 8) (hSt : As.reverse ++ .ref o :: S = St) (k : gb_Ev X d M (pc + 3) L S h1 r) : gb_Ev X d M pc L St h r := by
  subst hSt
  refine ⟨⟨Nat.le_trans hE.1.1 k.1.1, Nat.le_trans hE.1.2 k.1.2⟩, ?_⟩
  intro G p l e R s m args below meth c n0 s0 C h1' h2 h3 h4 H locs ls hR hq hL
  have g1 : gb_cn h ≤ gb_cn h1 := hE.1.1
  have g2 : gb_sl h ≤ gb_sl h1 := hE.1.2
  have g3 : gb_cn h1 ≤ gb_cn r.2 := k.1.1
  have g4 : gb_sl h1 ≤ gb_sl r.2 := k.1.2
  have hts := C.2.2.2.2.2.2.2.1
  have hM := gb_met G C.2.2.2.2.2.2.2.2.2.2.2 l hm hA hE
  have hrf := C.2.2.2.2.2.2.2.2.2
  have hmx := hm.2.2.2.2.2
  have hp : PreS s H (gb_Pc G (.ref o :: As) h) (.ref (G.1 + o) :: As.map (gb_tv G)) := ⟨gb_blind G _ h, fun U hU hW => ⟨rfl, by rw [hU]; exact hR, C.2.2.2.2.2.2.2.2.1.warm hW⟩⟩
  have hroom : 2 * (F0 m pc ls ((As.reverse ++ .ref o :: S).map (gb_tv G))).monitorRoom + ((S.map (gb_tv G)).map fun v => v.category).sum ≤ 8 := lv_room (by rw [gb_tv_cats]; exact hS)
  refine gb_after (v := none) (aa := (Value.ref (G.1 + o) :: As.map (gb_tv G)).toArray) h1' h2 g1 g2 hq ?_ (fun H1 locs1 hR1 hq1 => k.2 G p l e R s m args below meth c n0 s0 C (by omega) (by omega) h3 h4 H1 locs1 ls hR1 hq1 hL)
  rcases hl with hl | ⟨host, hl⟩
  · exact va_runI (Ts := gb_ws) (own := M.1.cls) (n := n) (maxL := M'.2.2.1) (bytes := M'.2.1) ⟨C.1, C.2.1, C.2.2.1, C.2.2.2.2.2.2.1, hts⟩ hM ⟨⟨rfl, rfl, by show d' + 1 ≤ R.frames; omega, by show 8 + (M'.2.2.1 + 11) + 64 * d' ≤ R.locals; omega, pay_in hts (gb_goodM hm.1), by rw [← hret]; exact List.mem_cons_self, by rw [← hret]; exact hts _ hm.1, hts _ hm.2.1, hm.2.2.2.1, gb_par hm.2.2.2.2.1, hts _ hl⟩, hnm, hts _ hin⟩ hp rfl (by rw [List.length_map]; exact hn) (hL.1) (by simp [F0, List.map_append, List.map_reverse, gb_tv]) hroom hd ⟨by show gb_cn h - n0 + (gb_cn h1 - gb_cn h) ≤ R.cells; omega, by show gb_sl h - s0 + (gb_sl h1 - gb_sl h) ≤ R.slots; omega⟩
  · exact va_runIN (Ts := gb_ws) (own := M.1.cls) (n := n) (maxL := M'.2.2.1) (bytes := M'.2.1) ⟨C.1, C.2.1, C.2.2.1, C.2.2.2.2.2.2.1, hts⟩ hM ⟨⟨⟨rfl, rfl, by show d' + 1 ≤ R.frames; omega, by show 8 + (M'.2.2.1 + 11) + 64 * d' ≤ R.locals; omega, pay_in hts (gb_goodM hm.1), by rw [← hret]; exact List.mem_cons_self⟩, by rw [← hret]; exact hts _ hm.1, hts _ hm.2.1, hm.2.2.2.1, gb_par hm.2.2.2.2.1, va_Nw.use rfl (C.2.2.2.2.2.2.2.2.1.2.2.1 _ hl)⟩, hnm, hts _ hin⟩ hp rfl (by rw [List.length_map]; exact hn) (hL.1) (by simp [F0, List.map_append, List.map_reverse, gb_tv]) hroom hd ⟨by show gb_cn h - n0 + (gb_cn h1 - gb_cn h) ≤ R.cells; omega, by show gb_sl h - s0 + (gb_sl h1 - gb_sl h) ≤ R.slots; omega⟩
theorem gb_objInit {o : Nat} (hd : decode M.2.1 pc = .ok (.invokespecial idx, 3)) (hl : Cond.methodLink M.1.cls idx objectInit ∈ gb_ws) (hin : Cond.instanceMethod objectInit ∈ gb_ws) (hcd : Cond.code objectInit ⟨#[0xb1]⟩ 1 none ∈ gb_ws) (h1d : 1 ≤ d) (hS : (S.map fun v => v.category).sum ≤ 8) (k : gb_Ev X d M (pc + 3) L S h r) : gb_Ev X d M pc L (.ref o :: S) h r := by
  refine ⟨k.1, ?_⟩
  intro G p l e R s m args below meth c n0 s0 C h1' h2 h3 h4 H locs ls hR hq hL
  have hts := C.2.2.2.2.2.2.2.1
  have hrf := C.2.2.2.2.2.2.2.2.2
  have hroom : 2 * (F0 m pc ls ((.ref o :: S).map (gb_tv G))).monitorRoom + ((S.map (gb_tv G)).map fun v => v.category).sum ≤ 8 := lv_room (by rw [gb_tv_cats]; exact hS)
  exact W.objInit C.1 C.2.1 C.2.2.2.2.2.2.1 (hts _ hl) (hts _ hin) (hts _ hcd) rfl (by rw [C.2.2.1]; exact hL.1) rfl hd (by omega) (by omega) (k.2 G p l e R s m args below meth c n0 s0 C h1' h2 h3 h4 H locs ls hR hq hL)
end GC
