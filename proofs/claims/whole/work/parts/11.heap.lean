/-! locals -/
def gb_as (G : gb_W) (L : List (Option Value)) : List (Nat × Value) := (List.range L.length).filterMap (fun i => match L[i]? with | some (some v) => some (i, gb_tv G v) | _ => none)
theorem gb_as_mem {G : gb_W} {L : List (Option Value)} {i : Nat} {v : Value} (h : L[i]? = some (some v)) : (i, gb_tv G v) ∈ gb_as G L := by
  unfold gb_as
  refine List.mem_filterMap.mpr ⟨i, List.mem_range.mpr (List.getElem?_eq_some_iff.mp h).1, ?_⟩
  rw [h]
theorem gb_as_has {G : gb_W} {L : List (Option Value)} {nL : Nat} {ls : Array Slot} (h : gb_LR G L nL ls) : lv_has ls nL (gb_as G L) := by
  refine ⟨h.1, h.2.1, fun q hq => ?_⟩
  unfold gb_as at hq
  obtain ⟨i, -, he⟩ := List.mem_filterMap.mp hq
  split at he
  · rename_i v hv
    cases he
    exact h.2.2 _ _ hv
  · cases he
def gb_ok (L : List (Option Value)) (i : Nat) : Bool := match i with
  | 0 => true
  | j + 1 => match L[j]? with
    | some (some v) => v.category == 1
    | _ => true
theorem gb_ok_ne {G : gb_W} {L : List (Option Value)} {i j : Nat} {v : Value} (ho : gb_ok L i = true) (h : L[j]? = some (some v)) (e : j + 1 = i) : ¬ (gb_tv G v).category = 2 := by
  subst e
  simp only [gb_ok, h, beq_iff_eq] at ho
  rw [gb_tv_cat, ho]
  decide
theorem gb_LR.one {G : gb_W} {L L' : List (Option Value)} {nL i : Nat} {v : Value} {ls' : Array Slot} (ho : gb_ok L i = true) (hL' : L.set i (some v) = L') (h : lv_has ls' nL ((i, gb_tv G v) :: (gb_as G L).filter (fun q => !(q.1 == i) && !(q.1 + 1 == i && q.2.category == 2)))) : gb_LR G L' nL ls' := by
  subst hL'
  refine ⟨h.1, h.2.1, fun j u hj => ?_⟩
  by_cases hji : j = i
  · subst hji
    have hlt : j < L.length := by
      have := (List.getElem?_eq_some_iff.mp hj).1
      rwa [List.length_set] at this
    rw [List.getElem?_set_self hlt] at hj
    cases hj
    exact h.2.2 (_, _) List.mem_cons_self
  · rw [List.getElem?_set_ne (Ne.symm hji)] at hj
    refine h.2.2 (j, gb_tv G u) (List.mem_cons_of_mem _ (List.mem_filter.mpr ⟨gb_as_mem hj, ?_⟩))
    have h1 : (j == i) = false := by simpa using hji
    by_cases e : j + 1 = i
    · have h2 := gb_ok_ne (G := G) ho hj e
      simp [hji, h2]
    · simp [hji, e]
theorem gb_LR.two {G : gb_W} {L L' : List (Option Value)} {nL i : Nat} {v : Value} {ls' : Array Slot} (ho : gb_ok L i = true) (hL' : (L.set i (some v)).set (i + 1) none = L') (h : lv_has ls' nL ((i, gb_tv G v) :: (gb_as G L).filter (fun q => !(q.1 == i) && (!(q.1 == i + 1) && !(q.1 + 1 == i && q.2.category == 2))))) : gb_LR G L' nL ls' := by
  subst hL'
  refine ⟨h.1, h.2.1, fun j u hj => ?_⟩
  by_cases hj1 : j = i + 1
  · subst hj1
    have hlt : i + 1 < (L.set i (some v)).length := by
      have := (List.getElem?_eq_some_iff.mp hj).1
      rwa [List.length_set] at this
    rw [List.getElem?_set_self hlt] at hj
    cases hj
  rw [List.getElem?_set_ne (Ne.symm hj1)] at hj
  by_cases hji : j = i
  · subst hji
    have hlt : j < L.length := by
      have := (List.getElem?_eq_some_iff.mp hj).1
      rwa [List.length_set] at this
    rw [List.getElem?_set_self hlt] at hj
    cases hj
    exact h.2.2 (_, _) List.mem_cons_self
  · rw [List.getElem?_set_ne (Ne.symm hji)] at hj
    refine h.2.2 (j, gb_tv G u) (List.mem_cons_of_mem _ (List.mem_filter.mpr ⟨gb_as_mem hj, ?_⟩))
    by_cases e : j + 1 = i
    · have h2 := gb_ok_ne (G := G) ho hj e
      simp [hji, hj1, h2]
    · simp [hji, hj1, e]
section GS
variable {X : gb_X} {d : Nat} {M : gb_M} {pc : Nat} {L L' : List (Option Value)} {S : List Value} {h : gb_H} {r : Option Value × gb_H} {i : Nat}
theorem gb_istore {x : Int32} (hd : decode M.2.1 pc = .ok (.istore i, 2)) (hi : i < M.2.2.1) (ho : gb_ok L i = true) (hL' : L.set i (some (.int x)) = L') (k : gb_Ev X d M (pc + 2) L' S h r) : gb_Ev X d M pc L (.int x :: S) h r := by
  refine ⟨k.1, ?_⟩
  intro G p l e R s m args below meth c n0 s0 C h1 h2 h3 h4 H locs ls hR hq hL
  exact lv_istore C.1 C.2.1 hd (gb_as_has hL) hi rfl (fun ls' h' => k.2 G p l e R s m args below meth c n0 s0 C h1 h2 h3 h4 H locs ls' hR hq (gb_LR.one ho hL' h'))
theorem gb_istore_n {n : Fin 4} {x : Int32} (hd : decode M.2.1 pc = .ok (.istore_n n, 1)) (hn : (n : Nat) = i) (hi : i < M.2.2.1) (ho : gb_ok L i = true) (hL' : L.set i (some (.int x)) = L') (k : gb_Ev X d M (pc + 1) L' S h r) : gb_Ev X d M pc L (.int x :: S) h r := by
  refine ⟨k.1, ?_⟩
  intro G p l e R s m args below meth c n0 s0 C h1 h2 h3 h4 H locs ls hR hq hL
  exact lv_istore_n C.1 C.2.1 hd hn (gb_as_has hL) hi rfl (fun ls' h' => k.2 G p l e R s m args below meth c n0 s0 C h1 h2 h3 h4 H locs ls' hR hq (gb_LR.one ho hL' h'))
theorem gb_astore {x : Nat} (hd : decode M.2.1 pc = .ok (.astore i, 2)) (hi : i < M.2.2.1) (ho : gb_ok L i = true) (hL' : L.set i (some (.ref x)) = L') (k : gb_Ev X d M (pc + 2) L' S h r) : gb_Ev X d M pc L (.ref x :: S) h r := by
  refine ⟨k.1, ?_⟩
  intro G p l e R s m args below meth c n0 s0 C h1 h2 h3 h4 H locs ls hR hq hL
  exact lv_astore C.1 C.2.1 hd (gb_as_has hL) hi rfl (fun ls' h' => k.2 G p l e R s m args below meth c n0 s0 C h1 h2 h3 h4 H locs ls' hR hq (gb_LR.one (v := .ref x) ho hL' h'))
theorem gb_astore_n {n : Fin 4} {x : Nat} (hd : decode M.2.1 pc = .ok (.astore_n n, 1)) (hn : (n : Nat) = i) (hi : i < M.2.2.1) (ho : gb_ok L i = true) (hL' : L.set i (some (.ref x)) = L') (k : gb_Ev X d M (pc + 1) L' S h r) : gb_Ev X d M pc L (.ref x :: S) h r := by
  refine ⟨k.1, ?_⟩
  intro G p l e R s m args below meth c n0 s0 C h1 h2 h3 h4 H locs ls hR hq hL
  exact lv_astore_n C.1 C.2.1 hd hn (gb_as_has hL) hi rfl (fun ls' h' => k.2 G p l e R s m args below meth c n0 s0 C h1 h2 h3 h4 H locs ls' hR hq (gb_LR.one (v := .ref x) ho hL' h'))
theorem gb_lstore {x : Int64} (hd : decode M.2.1 pc = .ok (.lstore i, 2)) (hi : i + 1 < M.2.2.1) (ho : gb_ok L i = true) (hL' : (L.set i (some (.long x))).set (i + 1) none = L') (k : gb_Ev X d M (pc + 2) L' S h r) : gb_Ev X d M pc L (.long x :: S) h r := by
  refine ⟨k.1, ?_⟩
  intro G p l e R s m args below meth c n0 s0 C h1 h2 h3 h4 H locs ls hR hq hL
  exact lv_lstore C.1 C.2.1 hd (gb_as_has hL) hi rfl (fun ls' h' => k.2 G p l e R s m args below meth c n0 s0 C h1 h2 h3 h4 H locs ls' hR hq (gb_LR.two ho hL' h'))
theorem gb_lstore_n {n : Fin 4} {x : Int64} (hd : decode M.2.1 pc = .ok (.lstore_n n, 1)) (hn : (n : Nat) = i) (hi : i + 1 < M.2.2.1) (ho : gb_ok L i = true) (hL' : (L.set i (some (.long x))).set (i + 1) none = L') (k : gb_Ev X d M (pc + 1) L' S h r) : gb_Ev X d M pc L (.long x :: S) h r := by
  refine ⟨k.1, ?_⟩
  intro G p l e R s m args below meth c n0 s0 C h1 h2 h3 h4 H locs ls hR hq hL
  exact lv_lstore_n C.1 C.2.1 hd hn (gb_as_has hL) hi rfl (fun ls' h' => k.2 G p l e R s m args below meth c n0 s0 C h1 h2 h3 h4 H locs ls' hR hq (gb_LR.two ho hL' h'))
theorem gb_iinc {n : Int} {x v : Int32} (hd : decode M.2.1 pc = .ok (.iinc i n, 3)) (hl : L[i]? = some (some (.int x))) (hv : x + Int32.ofInt n = v) (hi : i < M.2.2.1) (ho : gb_ok L i = true) (hL' : L.set i (some (.int v)) = L') (k : gb_Ev X d M (pc + 3) L' S h r) : gb_Ev X d M pc L S h r := by
  refine ⟨k.1, ?_⟩
  intro G p l e R s m args below meth c n0 s0 C h1 h2 h3 h4 H locs ls hR hq hL
  obtain ⟨j, hj⟩ := List.getElem?_of_mem (gb_as_mem (G := G) hl)
  exact lv_iinc C.1 C.2.1 hd (gb_as_has hL) hj hv hi rfl (fun ls' h' => k.2 G p l e R s m args below meth c n0 s0 C h1 h2 h3 h4 H locs ls' hR hq (gb_LR.one (v := .int v) ho hL' h'))
/-- fewer locals are known -/
def gb_le : List (Option Value) → List (Option Value) → Prop
  | [], _ => True
  | none :: a, [] => gb_le a []
  | none :: a, _ :: b => gb_le a b
  | some _ :: _, [] => False
  | some v :: a, w :: b => w = some v ∧ gb_le a b
theorem gb_le_at : ∀ {A B : List (Option Value)}, gb_le A B → ∀ (i : Nat) (v : Value), A[i]? = some (some v) → B[i]? = some (some v)
  | [], _, _, i, v, h => by simp at h
  | none :: a, [], hl, 0, v, h => by simp at h
  | none :: a, [], hl, i + 1, v, h => by
    have := gb_le_at (A := a) (B := []) hl i v (by simpa using h)
    simp at this
  | none :: a, w :: b, hl, 0, v, h => by simp at h
  | none :: a, w :: b, hl, i + 1, v, h => by
    have := gb_le_at (A := a) (B := b) hl i v (by simpa using h)
    simpa using this
  | some u :: a, [], hl, _, _, _ => hl.elim
  | some u :: a, w :: b, hl, 0, v, h => by
    simp at h
    subst h
    simp [hl.1]
  | some u :: a, w :: b, hl, i + 1, v, h => by
    have := gb_le_at (A := a) (B := b) hl.2 i v (by simpa using h)
    simpa using this
theorem gb_weak (hl : gb_le L' L) (k : gb_Ev X d M pc L' S h r) : gb_Ev X d M pc L S h r := by
  refine ⟨k.1, ?_⟩
  intro G p l e R s m args below meth c n0 s0 C h1 h2 h3 h4 H locs ls hR hq hL
  exact k.2 G p l e R s m args below meth c n0 s0 C h1 h2 h3 h4 H locs ls hR hq ⟨hL.1, hL.2.1, fun j v hj => hL.2.2 j v (gb_le_at hl j v hj)⟩
theorem gb_tswOut {dflt lo hi : Int} {offs : Array Int} {len : Nat} {x : Int32} {tgt : Nat} (hd : decode M.2.1 pc = .ok (.tableswitch dflt lo hi offs, len)) (hx : x.toInt < lo ∨ hi < x.toInt) (ht : (pc : Int) + dflt = (tgt : Int)) (k : gb_Ev X d M tgt L S h r) : gb_Ev X d M pc L (.int x :: S) h r := by
  refine ⟨k.1, ?_⟩
  intro G p l e R s m args below meth c n0 s0 C h1 h2 h3 h4 H locs ls hR hq hL
  exact lv_tableOut C.1 C.2.1 hd hx ht (k.2 G p l e R s m args below meth c n0 s0 C h1 h2 h3 h4 H locs ls hR hq hL)
theorem gb_tswIn {dflt lo hi : Int} {offs : Array Int} {len : Nat} {x : Int32} {off : Int} {tgt : Nat} (hd : decode M.2.1 pc = .ok (.tableswitch dflt lo hi offs, len)) (hx1 : ¬ x.toInt < lo) (hx2 : ¬ hi < x.toInt) (ho : offs[(x.toInt - lo).toNat]? = some off) (ht : (pc : Int) + off = (tgt : Int)) (k : gb_Ev X d M tgt L S h r) : gb_Ev X d M pc L (.int x :: S) h r := by
  refine ⟨k.1, ?_⟩
  intro G p l e R s m args below meth c n0 s0 C h1 h2 h3 h4 H locs ls hR hq hL
  exact lv_tableIn C.1 C.2.1 hd hx1 hx2 ho ht (k.2 G p l e R s m args below meth c n0 s0 C h1 h2 h3 h4 H locs ls hR hq hL)
end GS
/-! classes and fields -/
def gb_cf (ci : Nat) (C : String) (T : u_T) (N : Nat) : Prop :=
  ci < 20 ∧ vwCl[ci]? = some (C, T, N) ∧ (∀ w ∈ u_ws C T N, w ∈ gb_ws) ∧ (∀ k, k < N → parseFieldDescriptor (T k).2.2.1 = some (gb_ty ci k)) ∧ (∀ a, a < N → ∀ b, b < N → a ≠ b → (T a).2.1 ≠ (T b).2.1) ∧ Cond.instantiable C N ∈ gb_ws ∧ Cond.initialized C ∈ gb_ws
/-- entry idx of the pool of class own is field k of class ci -/
def gb_fl (own : String) (idx ci k : Nat) : Prop := ∃ (C : String) (T : u_T) (N : Nat), gb_cf ci C T N ∧ k < N ∧ (Cond.fieldLink own idx (T k).1 (T k).2.1 (T k).2.2.1 ∈ gb_ws ∨ ∃ host, Cond.fieldLinkNest own idx (T k).1 (T k).2.1 (T k).2.2.1 host ∈ gb_nest)
theorem gb_Rel.lt {G : gb_W} {h : gb_H} {H : Heap} (hR : gb_Rel G h H) {n : Nat} (hk : (gb_kd h n).1 ≠ 99) : n < gb_cn h := Nat.not_le.mp fun q => hk (hR.2.2.2 n q)
section GG
variable {G : gb_W} {X : gb_X} {d : Nat} {M : gb_M} {p : Program} {l : Launch} {e : Env} {R : Room} {s : State} {m : MethodId} {args : Array Value} {below : List Frame} {meth : Method} {c : Code} {H : Heap} {locs : List Loc} {cells slots : Nat} {Q : State → Prop} {pc : Nat} {ls : Array Slot} {rest : List Value} {h h' : gb_H}
theorem gb_obj (hR : gb_Rel G h H) {o ci : Nat} {C : String} {T : u_T} {N : Nat} (hc : gb_cf ci C T N) (hk : (gb_kd h o).1 = ci) : t_OB (G.1 + o) (G.2.2.1.1 ci) N (G.2.2.1.2 ci) H (fun k => gb_tv G (gb_fv h o k)) := by
  subst hk
  have hlt : o < gb_cn h := hR.lt (by have := hc.1; omega)
  obtain ⟨r, h1, h2⟩ := (hR.2.2.1 o hlt).1 hc.1
  have e := h1.symm.trans hc.2.1
  cases e
  exact h2
theorem gb_arr (hR : gb_Rel G h H) {a : Nat} (h20 : 20 ≤ (gb_kd h a).1) (h99 : (gb_kd h a).1 ≠ 99) : H[G.1 + a]? = some (arrV (G.2.2.2.1 (gb_kd h a).1) (gb_kd h a).2 (fun i => gb_tv G (gb_av h a i))) := (hR.2.2.1 a (hR.lt h99)).2 h20
theorem gb_Wget (C0 : gb_Cx X G d M p R s m args meth c) (hR : gb_Rel G h H) {idx o ci k : Nat} (f : gb_fl M.1.cls idx ci k) (hk : (gb_kd h o).1 = ci) (hd : decode M.2.1 pc = .ok (.getfield idx, 3))
    (kk : W p l e R s m args below meth c H locs cells slots Q (F0 m (pc + 3) ls (gb_tv G (gb_fv h o k) :: rest))) : W p l e R s m args below meth c H locs cells slots Q (F0 m pc ls (.ref (G.1 + o) :: rest)) := by
  obtain ⟨hx, hb, -, -, -, -, hown, hts, hwd, -⟩ := C0
  obtain ⟨C, T, N, hc, hkN, hlink⟩ := f
  obtain ⟨cell, q1, q2, q3, q4⟩ := gb_obj hR hc hk
  obtain ⟨hS, hfc, kC, hkC, hkind⟩ := hwd.1.1 ci _ hc.2.1
  obtain ⟨cf, kf, fi, fd, hi, hsl⟩ := hS k hkN
  have hst := (u_facts hfc hkC (u_lays hts hc.2.2.1 hkN) hi).1
  rcases hlink with hl | ⟨host, hl⟩
  · exact W.getf hx hb hown (hts _ hl) hi hst q1 (by rw [q3]; exact fun h => by cases h) (v := gb_tv G (gb_fv h o k)) (by rw [hsl]; exact q4 k hkN) rfl rfl hd kk
  · exact va_Wgetf hx hb hown (va_Nw.use rfl (hwd.2.2.1 _ hl)) hi hst q1 (by rw [q3]; exact fun h => by cases h) (v := gb_tv G (gb_fv h o k)) (by rw [hsl]; exact q4 k hkN) rfl rfl hd kk
/-- h' is h but for what the cell n holds -/
def gb_off (h h' : gb_H) (n : Nat) : Prop := gb_cn h' = gb_cn h ∧ gb_kd h' = gb_kd h ∧ ∀ a, a ≠ n → ∀ j, gb_I h' a j = gb_I h a j ∧ gb_L h' a j = gb_L h a j ∧ gb_R h' a j = gb_R h a j
theorem gb_off_I (h : gb_H) (n k : Nat) (x : Int32) : gb_off h (gb_sI h n k x) n := ⟨rfl, rfl, fun a ha j => ⟨gb_u_n _ _ (fun q => ha q.1), rfl, rfl⟩⟩
theorem gb_off_L (h : gb_H) (n k : Nat) (x : Int64) : gb_off h (gb_sL h n k x) n := ⟨rfl, rfl, fun a ha j => ⟨rfl, gb_u_n _ _ (fun q => ha q.1), rfl⟩⟩
theorem gb_off_R (h : gb_H) (n k : Nat) (x : Option Nat) : gb_off h (gb_sR h n k x) n := ⟨rfl, rfl, fun a ha j => ⟨rfl, rfl, gb_u_n _ _ (fun q => ha q.1)⟩⟩
theorem gb_cell_off {n a : Nat} (ho : gb_off h h' n) (ha : a ≠ n) {H1 : Heap} (hq : H1[G.1 + a]? = H[G.1 + a]?) (hc : gb_cell G h a H) : gb_cell G h' a H1 := by
  obtain ⟨o1, o2, o3⟩ := ho
  have e1 : (fun k => gb_tv G (gb_fv h' a k)) = (fun k => gb_tv G (gb_fv h a k)) := by
    funext k
    simp only [gb_fv, o2, (o3 a ha k).1, (o3 a ha k).2.1, (o3 a ha k).2.2]
  have e2 : (fun k => gb_tv G (gb_av h' a k)) = (fun k => gb_tv G (gb_av h a k)) := by
    funext k
    simp only [gb_av, o2, (o3 a ha k).1, (o3 a ha k).2.1, (o3 a ha k).2.2]
  unfold gb_cell
  rw [e1, e2, o2]
  refine ⟨fun q => ?_, fun q => ?_⟩
  · obtain ⟨r, h1, h2⟩ := hc.1 q
    exact ⟨r, h1, h2.kept hq⟩
  · exact hq.trans (hc.2 q)
theorem gb_Rel.put {n : Nat} (hR : gb_Rel G h H) (hn : n < gb_cn h) (ho : gb_off h h' n) {H1 : Heap} (hz : H1.size = H.size) (hq : ∀ q, q ≠ G.1 + n → H1[q]? = H[q]?) (hc : gb_cell G h' n H1) : gb_Rel G h' H1 := by
  refine ⟨by rw [hz, ho.1]; exact hR.1, fun q hq' => (hq q (by omega)).trans (hR.2.1 q hq'), fun a ha => ?_, fun a ha => by rw [ho.2.1]; exact hR.2.2.2 a (by rw [← ho.1]; exact ha)⟩
  by_cases e : a = n
  · subst e; exact hc
  · exact gb_cell_off ho e (hq _ (by omega)) (hR.2.2.1 a (by rw [← ho.1]; exact ha))
theorem gb_Wput (C0 : gb_Cx X G d M p R s m args meth c) (hR : gb_Rel G h H) (hq : ∀ q ∈ locs, G.1 ≤ q.base) {idx o ci k : Nat} (f : gb_fl M.1.cls idx ci k) (hk : (gb_kd h o).1 = ci) {v : Value} (hn : narrow (gb_ty ci k) v = v) (hf : fits (gb_ty ci k) v = true)
    (hfin : ∀ (C : String) (T : u_T) (N : Nat), vwCl[ci]? = some (C, T, N) → (T k).2.2.2 = false ∨ (M.1.name = "<init>" ∧ (T k).1 = M.1.cls ∧ Cond.fieldLink M.1.cls idx (T k).1 (T k).2.1 (T k).2.2.1 ∈ gb_ws))
    (ho : gb_off h h' o) (hv : ∀ j, gb_tv G (gb_fv h' o j) = updV (fun j => gb_tv G (gb_fv h o j)) k v j) (hd : decode M.2.1 pc = .ok (.putfield idx, 3))
    (kk : ∀ (H1 : Heap) (locs1 : List Loc), gb_Rel G h' H1 → (∀ q ∈ locs1, G.1 ≤ q.base) → W p l e R s m args below meth c H1 locs1 cells slots Q (F0 m (pc + 3) ls rest)) : W p l e R s m args below meth c H locs cells slots Q (F0 m pc ls (v :: .ref (G.1 + o) :: rest)) := by
  obtain ⟨hx, hb, -, -, -, hnm, hown, hts, hwd, -⟩ := C0
  obtain ⟨C, T, N, hc, hkN, hlink⟩ := f
  obtain ⟨cell, q1, q2, q3, q4⟩ := gb_obj hR hc hk
  have hap := va_apart (own := M.1.cls) hts hc.2.2.1 (gb_ty ci) hc.2.2.2.1 hc.2.2.2.2.1 hwd.1 hc.2.1
  obtain ⟨hS, hfc, kC, hkC, hkind⟩ := hwd.1.1 ci _ hc.2.1
  obtain ⟨cf, kf, fi, fd, hi, hsl⟩ := hS k hkN
  have hlay := hts _ (hc.2.2.1 _ (u_in_lay hkN))
  have hst := (u_facts hfc hkC (u_lays hts hc.2.2.1 hkN) hi).1
  have hlt : o < gb_cn h := hR.lt (by rw [hk]; have := hc.1; omega)
  have key : ∀ H' : Heap, H'[G.1 + o]? = some (cell.setSlot fd.slot v) → H'.size = H.size → (∀ q, q ≠ G.1 + o → H'[q]? = H[q]?) → W p l e R s m args below meth c H' (locs ++ [⟨G.1 + o, fd.slot⟩]) cells slots Q (F0 m (pc + 3) ls rest) := by
    intro H' e1 e2 e3
    refine kk H' _ (hR.put hlt ho e2 e3 ?_) ?_
    · refine ⟨fun q => ⟨(C, T, N), ?_, ?_⟩, fun q => ?_⟩
      · rw [ho.2.1, hk]; exact hc.2.1
      · rw [ho.2.1, hk]
        refine t_OB.to (V := updV (fun j => gb_tv G (gb_fv h o j)) k v) ⟨_, e1, q2, q3, ?_⟩ (fun j _ => (hv j).symm)
        rw [hsl]
        exact t_set q4 hap hkN v
      · rw [ho.2.1, hk] at q
        have := hc.1
        omega
    · intro q hq'
      rcases List.mem_append.mp hq' with h1 | h1
      · exact hq q h1
      · rw [List.mem_singleton.mp h1]; exact Nat.le_add_right _ _
  rcases hfin C T N hc.2.1 with hf0 | ⟨hin, hdecl, hl⟩
  · unfold u_lay at hlay
    rw [if_neg (by rw [hf0]; decide)] at hlay
    have h6 := u_store hfc hkC hkind hlay hi (hc.2.2.2.1 k hkN) hn hf
    rcases hlink with hl | ⟨host, hl⟩
    · exact W.putK hx hb (f := fd) ⟨hown, hts _ hl, ⟨_, _, _, hi⟩, hst⟩ (by rw [q2]; exact h6) q1 q3 (by rw [hsl]; exact k2_hasslot (q4 k hkN)) rfl rfl hd key
    · exact va_WputK hx hb (f := fd) hown (va_Nw.use rfl (hwd.2.2.1 _ hl)) hi hst (by rw [q2]; exact h6) q1 q3 (by rw [hsl]; exact k2_hasslot (q4 k hkN)) rfl rfl hd key
  · by_cases hf1 : (T k).2.2.2 = true
    · unfold u_lay at hlay
      rw [if_pos hf1] at hlay
      have hcf : m.cls = cf := by
        obtain ⟨_, _, c', _, _, _, -, -, hf', -, -, -, hown2, -⟩ := Cond.laysFinal_spec hlay
        have e1 : c' = cf := by have := hi.symm.trans hf'; simp at this; exact this.1.symm
        rw [hdecl] at hown2
        rw [← e1]; exact Option.some.inj (hown.symm.trans hown2)
      have h6 := u_fits hfc hkC hkind (Or.inr hlay) hi (hc.2.2.2.1 k hkN) hn hf
      exact W.putFinK hx hb hown (hts _ hl) hi hst hcf (hnm.trans hin) (by rw [q2]; exact h6) q1 q3 (by rw [hsl]; exact k2_hasslot (q4 k hkN)) rfl rfl hd key
    · have hf0 : (T k).2.2.2 = false := by simpa using hf1
      unfold u_lay at hlay
      rw [if_neg (by rw [hf0]; decide)] at hlay
      have h6 := u_store hfc hkC hkind hlay hi (hc.2.2.2.1 k hkN) hn hf
      exact W.putK hx hb (f := fd) ⟨hown, hts _ hl, ⟨_, _, _, hi⟩, hst⟩ (by rw [q2]; exact h6) q1 q3 (by rw [hsl]; exact k2_hasslot (q4 k hkN)) rfl rfl hd key
end GG
