def gb_fI (own : String) (idx ci k : Nat) : Prop := gb_fl own idx ci k ∧ (∀ i j r, gb_val (gb_ty ci k) i j r = .int i)
def gb_fL (own : String) (idx ci k : Nat) : Prop := gb_fl own idx ci k ∧ (∀ i j r, gb_val (gb_ty ci k) i j r = .long j)
def gb_fR (own : String) (idx ci k : Nat) : Prop := gb_fl own idx ci k ∧ (∀ i j r, gb_val (gb_ty ci k) i j r = va_rf r)
def gb_nf (ci k : Nat) : Prop := ∀ (C : String) (T : u_T) (N : Nat), vwCl[ci]? = some (C, T, N) → (T k).2.2.2 = false
def gb_ff (M : gb_M) (idx ci k : Nat) : Prop := ∀ (C : String) (T : u_T) (N : Nat), vwCl[ci]? = some (C, T, N) → (T k).2.2.2 = false ∨ (M.1.name = "<init>" ∧ (T k).1 = M.1.cls ∧ Cond.fieldLink M.1.cls idx (T k).1 (T k).2.1 (T k).2.2.1 ∈ gb_ws)
theorem gb_fv_k {h : gb_H} {o ci k : Nat} (hk : (gb_kd h o).1 = ci) : gb_fv h o k = gb_val (gb_ty ci k) (gb_I h o k) (gb_L h o k) (gb_R h o k) := by rw [← hk]; rfl
theorem gb_getI {X : gb_X} {d : Nat} {M : gb_M} {pc : Nat} {L : List (Option Value)} {S : List Value} {h : gb_H} {r : Option Value × gb_H} {idx o ci k : Nat} (f : gb_fI M.1.cls idx ci k) (hd : decode M.2.1 pc = .ok (.getfield idx, 3)) (hk : (gb_kd h o).1 = ci) (k : gb_Ev X d M (pc + 3) L (.int (gb_I h o k) :: S) h r) : gb_Ev X d M pc L (.ref o :: S) h r := by
  refine ⟨k.1, ?_⟩
  intro G p l e R s m args below meth c n0 s0 C h1 h2 h3 h4 H locs ls hR hq hL
  refine gb_Wget C hR f.1 hk hd ?_
  rw [gb_fv_k hk, f.2]
  exact k.2 G p l e R s m args below meth c n0 s0 C h1 h2 h3 h4 H locs ls hR hq hL
theorem gb_getL {X : gb_X} {d : Nat} {M : gb_M} {pc : Nat} {L : List (Option Value)} {S : List Value} {h : gb_H} {r : Option Value × gb_H} {idx o ci k : Nat} (f : gb_fL M.1.cls idx ci k) (hd : decode M.2.1 pc = .ok (.getfield idx, 3)) (hk : (gb_kd h o).1 = ci) (k : gb_Ev X d M (pc + 3) L (.long (gb_L h o k) :: S) h r) : gb_Ev X d M pc L (.ref o :: S) h r := by
  refine ⟨k.1, ?_⟩
  intro G p l e R s m args below meth c n0 s0 C h1 h2 h3 h4 H locs ls hR hq hL
  refine gb_Wget C hR f.1 hk hd ?_
  rw [gb_fv_k hk, f.2]
  exact k.2 G p l e R s m args below meth c n0 s0 C h1 h2 h3 h4 H locs ls hR hq hL
theorem gb_getR {X : gb_X} {d : Nat} {M : gb_M} {pc : Nat} {L : List (Option Value)} {S : List Value} {h : gb_H} {r : Option Value × gb_H} {idx o ci k a : Nat} (f : gb_fR M.1.cls idx ci k) (hd : decode M.2.1 pc = .ok (.getfield idx, 3)) (hk : (gb_kd h o).1 = ci) (ha : gb_R h o k = some a) (k : gb_Ev X d M (pc + 3) L (.ref a :: S) h r) : gb_Ev X d M pc L (.ref o :: S) h r := by
  refine ⟨k.1, ?_⟩
  intro G p l e R s m args below meth c n0 s0 C h1 h2 h3 h4 H locs ls hR hq hL
  refine gb_Wget C hR f.1 hk hd ?_
  rw [gb_fv_k hk, f.2, ha]
  exact k.2 G p l e R s m args below meth c n0 s0 C h1 h2 h3 h4 H locs ls hR hq hL
theorem gb_putI {X : gb_X} {d : Nat} {M : gb_M} {pc : Nat} {L : List (Option Value)} {S : List Value} {h : gb_H} {r : Option Value × gb_H} {idx o ci k : Nat} {x : Int32} (f : gb_fI M.1.cls idx ci k) (ff : gb_ff M idx ci k) (hd : decode M.2.1 pc = .ok (.putfield idx, 3)) (hk : (gb_kd h o).1 = ci) (hn : ∀ a : Nat, narrow (gb_ty ci k) (.int x) = .int x ∧ fits (gb_ty ci k) (.int x) = true) (kk : gb_Ev X d M (pc + 3) L S (gb_sI h o k x) r) : gb_Ev X d M pc L (.int x :: .ref o :: S) h r := by
  refine ⟨kk.1, ?_⟩
  intro G p l e R s m args below meth c n0 s0 C h1 h2 h3 h4 H locs ls hR hq hL
  refine gb_Wput (h' := gb_sI h o k x) (v := .int x) C hR hq f.1 hk (hn 0).1 (hn 0).2 ff (gb_off_I h o k x) (fun j => ?_) hd (fun H1 locs1 hR1 hq1 => ?_)
  · rw [gb_fv_k (h := gb_sI h o k x) (ci := ci) hk]
    by_cases hj : j = k
    · subst hj
      rw [f.2]
      simp [updV, gb_sI, gb_I, gb_u, va_rf, gb_tv]
    · rw [updV, if_neg hj, gb_fv_k hk]
      have e1 : gb_I (gb_sI h o k x) o j = gb_I h o j := gb_u_n _ _ (fun q => hj q.2)
      rw [e1]
      rfl
  · exact kk.2 G p l e R s m args below meth c n0 s0 C h1 h2 h3 h4 H1 locs1 ls hR1 hq1 hL
theorem gb_putL {X : gb_X} {d : Nat} {M : gb_M} {pc : Nat} {L : List (Option Value)} {S : List Value} {h : gb_H} {r : Option Value × gb_H} {idx o ci k : Nat} {x : Int64} (f : gb_fL M.1.cls idx ci k) (ff : gb_ff M idx ci k) (hd : decode M.2.1 pc = .ok (.putfield idx, 3)) (hk : (gb_kd h o).1 = ci) (hn : ∀ a : Nat, narrow (gb_ty ci k) (.long x) = .long x ∧ fits (gb_ty ci k) (.long x) = true) (kk : gb_Ev X d M (pc + 3) L S (gb_sL h o k x) r) : gb_Ev X d M pc L (.long x :: .ref o :: S) h r := by
  refine ⟨kk.1, ?_⟩
  intro G p l e R s m args below meth c n0 s0 C h1 h2 h3 h4 H locs ls hR hq hL
  refine gb_Wput (h' := gb_sL h o k x) (v := .long x) C hR hq f.1 hk (hn 0).1 (hn 0).2 ff (gb_off_L h o k x) (fun j => ?_) hd (fun H1 locs1 hR1 hq1 => ?_)
  · rw [gb_fv_k (h := gb_sL h o k x) (ci := ci) hk]
    by_cases hj : j = k
    · subst hj
      rw [f.2]
      simp [updV, gb_sL, gb_L, gb_u, va_rf, gb_tv]
    · rw [updV, if_neg hj, gb_fv_k hk]
      have e1 : gb_L (gb_sL h o k x) o j = gb_L h o j := gb_u_n _ _ (fun q => hj q.2)
      rw [e1]
      rfl
  · exact kk.2 G p l e R s m args below meth c n0 s0 C h1 h2 h3 h4 H1 locs1 ls hR1 hq1 hL
theorem gb_putR {X : gb_X} {d : Nat} {M : gb_M} {pc : Nat} {L : List (Option Value)} {S : List Value} {h : gb_H} {r : Option Value × gb_H} {idx o ci k : Nat} {x : Nat} (f : gb_fR M.1.cls idx ci k) (ff : gb_ff M idx ci k) (hd : decode M.2.1 pc = .ok (.putfield idx, 3)) (hk : (gb_kd h o).1 = ci) (hn : ∀ a : Nat, narrow (gb_ty ci k) (.ref a) = .ref a ∧ fits (gb_ty ci k) (.ref a) = true) (kk : gb_Ev X d M (pc + 3) L S (gb_sR h o k (some x)) r) : gb_Ev X d M pc L (.ref x :: .ref o :: S) h r := by
  refine ⟨kk.1, ?_⟩
  intro G p l e R s m args below meth c n0 s0 C h1 h2 h3 h4 H locs ls hR hq hL
  refine gb_Wput (h' := gb_sR h o k (some x)) (v := .ref (G.1 + x)) C hR hq f.1 hk (hn (G.1 + x)).1 (hn (G.1 + x)).2 ff (gb_off_R h o k (some x)) (fun j => ?_) hd (fun H1 locs1 hR1 hq1 => ?_)
  · rw [gb_fv_k (h := gb_sR h o k (some x)) (ci := ci) hk]
    by_cases hj : j = k
    · subst hj
      rw [f.2]
      simp [updV, gb_sR, gb_R, gb_u, va_rf, gb_tv]
    · rw [updV, if_neg hj, gb_fv_k hk]
      have e1 : gb_R (gb_sR h o k (some x)) o j = gb_R h o j := gb_u_n _ _ (fun q => hj q.2)
      rw [e1]
      rfl
  · exact kk.2 G p l e R s m args below meth c n0 s0 C h1 h2 h3 h4 H1 locs1 ls hR1 hq1 hL
theorem gb_iald {X : gb_X} {d : Nat} {M : gb_M} {pc : Nat} {L : List (Option Value)} {S : List Value} {h : gb_H} {r : Option Value × gb_H} {a : Nat} {i : Int32} (hd : decode M.2.1 pc = .ok (.iaload, 1)) (hk : (gb_kd h a).1 = 20) (hi : vp_in i (gb_kd h a).2) (k : gb_Ev X d M (pc + 1) L (.int (gb_I h a i.toNatClampNeg) :: S) h r) : gb_Ev X d M pc L (.int i :: .ref a :: S) h r := by
  refine ⟨k.1, ?_⟩
  intro G p l e R s m args below meth c n0 s0 C h1 h2 h3 h4 H locs ls hR hq hL
  have ha := gb_arr hR (a := a) (by rw [hk]; decide) (by rw [hk]; decide)
  have hlt : i.toNatClampNeg < (gb_kd h a).2 := Nat.not_le.mp fun q => hi (Or.inr q)
  have hv : gb_tv G (gb_av h a i.toNatClampNeg) = .int (gb_I h a i.toNatClampNeg) := by unfold gb_av; rw [hk]; rfl
  refine W.iald (v := .int (gb_I h a i.toNatClampNeg)) C.1 C.2.1 ha ?_ (fun q => by cases q) (by show ¬ (i < 0 ∨ (arrV _ _ _).slots.size ≤ _); rw [arrV_size]; exact hi) (by show (arrV _ _ _).slots[_]? = _; rw [arrV_read _ _ hlt, hv]) rfl rfl hd (k.2 G p l e R s m args below meth c n0 s0 C h1 h2 h3 h4 H locs ls hR hq hL)
  rw [hk]
  exact (C.2.2.2.2.2.2.2.2.1.2.1 20 (by decide)).1 _ _
theorem gb_zald {X : gb_X} {d : Nat} {M : gb_M} {pc : Nat} {L : List (Option Value)} {S : List Value} {h : gb_H} {r : Option Value × gb_H} {a : Nat} {i : Int32} (hd : decode M.2.1 pc = .ok (.baload, 1)) (hk : (gb_kd h a).1 = 21) (hi : vp_in i (gb_kd h a).2) (k : gb_Ev X d M (pc + 1) L (.int (gb_I h a i.toNatClampNeg) :: S) h r) : gb_Ev X d M pc L (.int i :: .ref a :: S) h r := by
  refine ⟨k.1, ?_⟩
  intro G p l e R s m args below meth c n0 s0 C h1 h2 h3 h4 H locs ls hR hq hL
  have ha := gb_arr hR (a := a) (by rw [hk]; decide) (by rw [hk]; decide)
  have hlt : i.toNatClampNeg < (gb_kd h a).2 := Nat.not_le.mp fun q => hi (Or.inr q)
  have hv : gb_tv G (gb_av h a i.toNatClampNeg) = .int (gb_I h a i.toNatClampNeg) := by unfold gb_av; rw [hk]; rfl
  refine W.zald (v := .int (gb_I h a i.toNatClampNeg)) C.1 C.2.1 ha ?_ (fun q => by cases q) (by show ¬ (i < 0 ∨ (arrV _ _ _).slots.size ≤ _); rw [arrV_size]; exact hi) (by show (arrV _ _ _).slots[_]? = _; rw [arrV_read _ _ hlt, hv]) rfl rfl hd (k.2 G p l e R s m args below meth c n0 s0 C h1 h2 h3 h4 H locs ls hR hq hL)
  rw [hk]
  exact (C.2.2.2.2.2.2.2.2.1.2.1 21 (by decide)).1 _ _
theorem gb_bald {X : gb_X} {d : Nat} {M : gb_M} {pc : Nat} {L : List (Option Value)} {S : List Value} {h : gb_H} {r : Option Value × gb_H} {a : Nat} {i : Int32} (hd : decode M.2.1 pc = .ok (.baload, 1)) (hk : (gb_kd h a).1 = 22) (hi : vp_in i (gb_kd h a).2) (k : gb_Ev X d M (pc + 1) L (.int (gb_I h a i.toNatClampNeg) :: S) h r) : gb_Ev X d M pc L (.int i :: .ref a :: S) h r := by
  refine ⟨k.1, ?_⟩
  intro G p l e R s m args below meth c n0 s0 C h1 h2 h3 h4 H locs ls hR hq hL
  have ha := gb_arr hR (a := a) (by rw [hk]; decide) (by rw [hk]; decide)
  have hlt : i.toNatClampNeg < (gb_kd h a).2 := Nat.not_le.mp fun q => hi (Or.inr q)
  have hv : gb_tv G (gb_av h a i.toNatClampNeg) = .int (gb_I h a i.toNatClampNeg) := by unfold gb_av; rw [hk]; rfl
  refine W.bald (v := .int (gb_I h a i.toNatClampNeg)) C.1 C.2.1 ha ?_ (fun q => by cases q) (by show ¬ (i < 0 ∨ (arrV _ _ _).slots.size ≤ _); rw [arrV_size]; exact hi) (by show (arrV _ _ _).slots[_]? = _; rw [arrV_read _ _ hlt, hv]) rfl rfl hd (k.2 G p l e R s m args below meth c n0 s0 C h1 h2 h3 h4 H locs ls hR hq hL)
  rw [hk]
  exact (C.2.2.2.2.2.2.2.2.1.2.1 22 (by decide)).1 _ _
theorem gb_lald {X : gb_X} {d : Nat} {M : gb_M} {pc : Nat} {L : List (Option Value)} {S : List Value} {h : gb_H} {r : Option Value × gb_H} {a : Nat} {i : Int32} (hd : decode M.2.1 pc = .ok (.laload, 1)) (hk : (gb_kd h a).1 = 23) (hi : vp_in i (gb_kd h a).2) (k : gb_Ev X d M (pc + 1) L (.long (gb_L h a i.toNatClampNeg) :: S) h r) : gb_Ev X d M pc L (.int i :: .ref a :: S) h r := by
  refine ⟨k.1, ?_⟩
  intro G p l e R s m args below meth c n0 s0 C h1 h2 h3 h4 H locs ls hR hq hL
  have ha := gb_arr hR (a := a) (by rw [hk]; decide) (by rw [hk]; decide)
  have hlt : i.toNatClampNeg < (gb_kd h a).2 := Nat.not_le.mp fun q => hi (Or.inr q)
  have hv : gb_tv G (gb_av h a i.toNatClampNeg) = .long (gb_L h a i.toNatClampNeg) := by unfold gb_av; rw [hk]; rfl
  refine W.lald (v := .long (gb_L h a i.toNatClampNeg)) C.1 C.2.1 ha ?_ (fun q => by cases q) (by show ¬ (i < 0 ∨ (arrV _ _ _).slots.size ≤ _); rw [arrV_size]; exact hi) (by show (arrV _ _ _).slots[_]? = _; rw [arrV_read _ _ hlt, hv]) rfl rfl hd (k.2 G p l e R s m args below meth c n0 s0 C h1 h2 h3 h4 H locs ls hR hq hL)
  rw [hk]
  exact (C.2.2.2.2.2.2.2.2.1.2.1 23 (by decide)).1 _ _
theorem gb_aald {X : gb_X} {d : Nat} {M : gb_M} {pc : Nat} {L : List (Option Value)} {S : List Value} {h : gb_H} {r : Option Value × gb_H} {a v t : Nat} {i : Int32} (hd : decode M.2.1 pc = .ok (.aaload, 1)) (hk : (gb_kd h a).1 = t) (ht : t ∈ gb_aks ∧ 30 ≤ t ∧ t ≠ 99) (hi : vp_in i (gb_kd h a).2) (hv : gb_R h a i.toNatClampNeg = some v) (k : gb_Ev X d M (pc + 1) L (.ref v :: S) h r) : gb_Ev X d M pc L (.int i :: .ref a :: S) h r := by
  refine ⟨k.1, ?_⟩
  intro G p l e R s m args below meth c n0 s0 C h1 h2 h3 h4 H locs ls hR hq hL
  have ha := gb_arr hR (a := a) (by rw [hk]; omega) (by rw [hk]; exact ht.2.2)
  have hlt : i.toNatClampNeg < (gb_kd h a).2 := Nat.not_le.mp fun q => hi (Or.inr q)
  have hv : gb_tv G (gb_av h a i.toNatClampNeg) = .ref (G.1 + v) := by unfold gb_av; rw [hk, if_neg (by omega), if_pos ht.2.1, hv]; rfl
  obtain ⟨C', hC'⟩ : ∃ C', gb_aty t = .object C' := by
    have : t = 30 ∨ t = 31 ∨ t = 32 ∨ t = 34 ∨ t = 35 := by
      have := ht.1
      simp [gb_aks] at this
      omega
    rcases this with rfl | rfl | rfl | rfl | rfl <;> exact ⟨_, rfl⟩
  have hA := (C.2.2.2.2.2.2.2.2.1.2.1 t ht.1)
  rw [hC'] at hA
  obtain ⟨kA, comp, k1, k2, k3, -⟩ := hA.2
  refine W.aald (v := .ref (G.1 + v)) C.1 C.2.1 ha (ty := .object C') (by rw [hk]; exact hA.1 _ _) rfl (fun q => by cases q) (by show ¬ (i < 0 ∨ (arrV _ _ _).slots.size ≤ _); rw [arrV_size]; exact hi) (by show (arrV _ _ _).slots[_]? = _; rw [arrV_read _ _ hlt, hv]) rfl rfl hd (k.2 G p l e R s m args below meth c n0 s0 C h1 h2 h3 h4 H locs ls hR hq hL)
theorem gb_alen {X : gb_X} {d : Nat} {M : gb_M} {pc : Nat} {L : List (Option Value)} {S : List Value} {h : gb_H} {r : Option Value × gb_H} {a t : Nat} (hd : decode M.2.1 pc = .ok (.arraylength, 1)) (hk : (gb_kd h a).1 = t) (ht : t ∈ gb_aks ∧ 20 ≤ t ∧ t ≠ 99) (k : gb_Ev X d M (pc + 1) L (.int (Int32.ofNat (gb_kd h a).2) :: S) h r) : gb_Ev X d M pc L (.ref a :: S) h r := by
  refine ⟨k.1, ?_⟩
  intro G p l e R s m args below meth c n0 s0 C h1 h2 h3 h4 H locs ls hR hq hL
  have ha := gb_arr hR (a := a) (by rw [hk]; omega) (by rw [hk]; exact ht.2.2)
  have hA := (C.2.2.2.2.2.2.2.2.1.2.1 t ht.1).1
  rw [hk] at ha
  exact W.alen (n := Int32.ofNat (gb_kd h a).2) C.1 C.2.1 ha (hA _ _) (by rw [arrV_size] <;> rfl) rfl rfl hd (k.2 G p l e R s m args below meth c n0 s0 C h1 h2 h3 h4 H locs ls hR hq hL)
theorem gb_iast {X : gb_X} {d : Nat} {M : gb_M} {pc : Nat} {L : List (Option Value)} {S : List Value} {h : gb_H} {r : Option Value × gb_H} {a : Nat} {i : Int32} {x : Int32} (hd : decode M.2.1 pc = .ok (.iastore, 1)) (hk : (gb_kd h a).1 = 20) (hi : vp_in i (gb_kd h a).2) (kk : gb_Ev X d M (pc + 1) L S (gb_sI h a i.toNatClampNeg x) r) : gb_Ev X d M pc L (.int x :: .int i :: .ref a :: S) h r := by
  refine ⟨kk.1, ?_⟩
  intro G p l e R s m args below meth c n0 s0 C h1 h2 h3 h4 H locs ls hR hq hL
  have ha := gb_arr hR (a := a) (by rw [hk]; decide) (by rw [hk]; decide)
  have hlt : a < gb_cn h := hR.lt (by rw [hk]; decide)
  rw [hk] at ha
  have hA := (C.2.2.2.2.2.2.2.2.1.2.1 20 (by decide)).1
  refine W.iast C.1 C.2.1 ha (hA _ _) (fun q => by cases q) (by show ¬ (i < 0 ∨ (arrV _ _ _).slots.size ≤ _); rw [arrV_size]; exact hi) rfl rfl hd fun H1 e1 z oq => ?_
  refine kk.2 G p l e R s m args below meth c n0 s0 C h1 h2 h3 h4 H1 _ ls (hR.put hlt (gb_off_I h a _ _) z oq ⟨fun q => ?_, fun _ => ?_⟩) (fun q hq' => ?_) hL
  · have q' : (gb_kd h a).1 < 20 := q
    rw [hk] at q'
    exact absurd q' (by decide)
  · show H1[G.1 + a]? = some (arrV (G.2.2.2.1 (gb_kd h a).1) (gb_kd h a).2 _)
    rw [e1, hk, arrV_store]
    congr 2
    funext j
    have e2 : ∀ h' : gb_H, gb_kd h' = gb_kd h → ∀ j, gb_tv G (gb_av h' a j) = .int (gb_I h' a j) := by
      intro h' hk' j
      unfold gb_av
      rw [hk', hk]
      rfl
    rw [e2 (gb_sI h a i.toNatClampNeg x) rfl j]
    by_cases hj : j = i.toNatClampNeg
    · subst hj
      simp only [updV, if_true]
      show Value.int x = _
      rw [show gb_I (gb_sI h a i.toNatClampNeg x) a i.toNatClampNeg = x from gb_u_s _ _ _ _]
    · rw [updV, if_neg hj, e2 h rfl j]
      rw [show gb_I (gb_sI h a i.toNatClampNeg x) a j = gb_I h a j from gb_u_n _ _ (fun q => hj q.2)]
  · rcases List.mem_append.mp hq' with h5 | h5
    · exact hq q h5
    · rw [List.mem_singleton.mp h5]; exact Nat.le_add_right _ _
theorem gb_zast {X : gb_X} {d : Nat} {M : gb_M} {pc : Nat} {L : List (Option Value)} {S : List Value} {h : gb_H} {r : Option Value × gb_H} {a : Nat} {i : Int32} {x : Int32} (hd : decode M.2.1 pc = .ok (.bastore, 1)) (hk : (gb_kd h a).1 = 21) (hi : vp_in i (gb_kd h a).2) (kk : gb_Ev X d M (pc + 1) L S (gb_sI h a i.toNatClampNeg (x &&& 1)) r) : gb_Ev X d M pc L (.int x :: .int i :: .ref a :: S) h r := by
  refine ⟨kk.1, ?_⟩
  intro G p l e R s m args below meth c n0 s0 C h1 h2 h3 h4 H locs ls hR hq hL
  have ha := gb_arr hR (a := a) (by rw [hk]; decide) (by rw [hk]; decide)
  have hlt : a < gb_cn h := hR.lt (by rw [hk]; decide)
  rw [hk] at ha
  have hA := (C.2.2.2.2.2.2.2.2.1.2.1 21 (by decide)).1
  refine W.zast C.1 C.2.1 ha (hA _ _) (fun q => by cases q) (by show ¬ (i < 0 ∨ (arrV _ _ _).slots.size ≤ _); rw [arrV_size]; exact hi) rfl rfl hd fun H1 e1 z oq => ?_
  refine kk.2 G p l e R s m args below meth c n0 s0 C h1 h2 h3 h4 H1 _ ls (hR.put hlt (gb_off_I h a _ _) z oq ⟨fun q => ?_, fun _ => ?_⟩) (fun q hq' => ?_) hL
  · have q' : (gb_kd h a).1 < 20 := q
    rw [hk] at q'
    exact absurd q' (by decide)
  · show H1[G.1 + a]? = some (arrV (G.2.2.2.1 (gb_kd h a).1) (gb_kd h a).2 _)
    rw [e1, hk, arrV_store]
    congr 2
    funext j
    have e2 : ∀ h' : gb_H, gb_kd h' = gb_kd h → ∀ j, gb_tv G (gb_av h' a j) = .int (gb_I h' a j) := by
      intro h' hk' j
      unfold gb_av
      rw [hk', hk]
      rfl
    rw [e2 (gb_sI h a i.toNatClampNeg (x &&& 1)) rfl j]
    by_cases hj : j = i.toNatClampNeg
    · subst hj
      simp only [updV, if_true]
      show Value.int (x &&& 1) = _
      rw [show gb_I (gb_sI h a i.toNatClampNeg (x &&& 1)) a i.toNatClampNeg = (x &&& 1) from gb_u_s _ _ _ _]
    · rw [updV, if_neg hj, e2 h rfl j]
      rw [show gb_I (gb_sI h a i.toNatClampNeg (x &&& 1)) a j = gb_I h a j from gb_u_n _ _ (fun q => hj q.2)]
  · rcases List.mem_append.mp hq' with h5 | h5
    · exact hq q h5
    · rw [List.mem_singleton.mp h5]; exact Nat.le_add_right _ _
theorem gb_bast {X : gb_X} {d : Nat} {M : gb_M} {pc : Nat} {L : List (Option Value)} {S : List Value} {h : gb_H} {r : Option Value × gb_H} {a : Nat} {i : Int32} {x : Int32} (hd : decode M.2.1 pc = .ok (.bastore, 1)) (hk : (gb_kd h a).1 = 22) (hi : vp_in i (gb_kd h a).2) (kk : gb_Ev X d M (pc + 1) L S (gb_sI h a i.toNatClampNeg x.toInt8.toInt32) r) : gb_Ev X d M pc L (.int x :: .int i :: .ref a :: S) h r := by
  refine ⟨kk.1, ?_⟩
  intro G p l e R s m args below meth c n0 s0 C h1 h2 h3 h4 H locs ls hR hq hL
  have ha := gb_arr hR (a := a) (by rw [hk]; decide) (by rw [hk]; decide)
  have hlt : a < gb_cn h := hR.lt (by rw [hk]; decide)
  rw [hk] at ha
  have hA := (C.2.2.2.2.2.2.2.2.1.2.1 22 (by decide)).1
  refine W.bast C.1 C.2.1 ha (hA _ _) (fun q => by cases q) (by show ¬ (i < 0 ∨ (arrV _ _ _).slots.size ≤ _); rw [arrV_size]; exact hi) rfl rfl hd fun H1 e1 z oq => ?_
  refine kk.2 G p l e R s m args below meth c n0 s0 C h1 h2 h3 h4 H1 _ ls (hR.put hlt (gb_off_I h a _ _) z oq ⟨fun q => ?_, fun _ => ?_⟩) (fun q hq' => ?_) hL
  · have q' : (gb_kd h a).1 < 20 := q
    rw [hk] at q'
    exact absurd q' (by decide)
  · show H1[G.1 + a]? = some (arrV (G.2.2.2.1 (gb_kd h a).1) (gb_kd h a).2 _)
    rw [e1, hk, arrV_store]
    congr 2
    funext j
    have e2 : ∀ h' : gb_H, gb_kd h' = gb_kd h → ∀ j, gb_tv G (gb_av h' a j) = .int (gb_I h' a j) := by
      intro h' hk' j
      unfold gb_av
      rw [hk', hk]
      rfl
    rw [e2 (gb_sI h a i.toNatClampNeg x.toInt8.toInt32) rfl j]
    by_cases hj : j = i.toNatClampNeg
    · subst hj
      simp only [updV, if_true]
      show Value.int x.toInt8.toInt32 = _
      rw [show gb_I (gb_sI h a i.toNatClampNeg x.toInt8.toInt32) a i.toNatClampNeg = x.toInt8.toInt32 from gb_u_s _ _ _ _]
    · rw [updV, if_neg hj, e2 h rfl j]
      rw [show gb_I (gb_sI h a i.toNatClampNeg x.toInt8.toInt32) a j = gb_I h a j from gb_u_n _ _ (fun q => hj q.2)]
  · rcases List.mem_append.mp hq' with h5 | h5
    · exact hq q h5
    · rw [List.mem_singleton.mp h5]; exact Nat.le_add_right _ _
theorem gb_last {X : gb_X} {d : Nat} {M : gb_M} {pc : Nat} {L : List (Option Value)} {S : List Value} {h : gb_H} {r : Option Value × gb_H} {a : Nat} {i : Int32} {x : Int64} (hd : decode M.2.1 pc = .ok (.lastore, 1)) (hk : (gb_kd h a).1 = 23) (hi : vp_in i (gb_kd h a).2) (kk : gb_Ev X d M (pc + 1) L S (gb_sL h a i.toNatClampNeg x) r) : gb_Ev X d M pc L (.long x :: .int i :: .ref a :: S) h r := by
  refine ⟨kk.1, ?_⟩
  intro G p l e R s m args below meth c n0 s0 C h1 h2 h3 h4 H locs ls hR hq hL
  have ha := gb_arr hR (a := a) (by rw [hk]; decide) (by rw [hk]; decide)
  have hlt : a < gb_cn h := hR.lt (by rw [hk]; decide)
  rw [hk] at ha
  have hA := (C.2.2.2.2.2.2.2.2.1.2.1 23 (by decide)).1
  refine W.last C.1 C.2.1 ha (hA _ _) (fun q => by cases q) (by show ¬ (i < 0 ∨ (arrV _ _ _).slots.size ≤ _); rw [arrV_size]; exact hi) rfl rfl hd fun H1 e1 z oq => ?_
  refine kk.2 G p l e R s m args below meth c n0 s0 C h1 h2 h3 h4 H1 _ ls (hR.put hlt (gb_off_L h a _ _) z oq ⟨fun q => ?_, fun _ => ?_⟩) (fun q hq' => ?_) hL
  · have q' : (gb_kd h a).1 < 20 := q
    rw [hk] at q'
    exact absurd q' (by decide)
  · show H1[G.1 + a]? = some (arrV (G.2.2.2.1 (gb_kd h a).1) (gb_kd h a).2 _)
    rw [e1, hk, arrV_store]
    congr 2
    funext j
    have e2 : ∀ h' : gb_H, gb_kd h' = gb_kd h → ∀ j, gb_tv G (gb_av h' a j) = .long (gb_L h' a j) := by
      intro h' hk' j
      unfold gb_av
      rw [hk', hk]
      rfl
    rw [e2 (gb_sL h a i.toNatClampNeg x) rfl j]
    by_cases hj : j = i.toNatClampNeg
    · subst hj
      simp only [updV, if_true]
      show Value.long x = _
      rw [show gb_L (gb_sL h a i.toNatClampNeg x) a i.toNatClampNeg = x from gb_u_s _ _ _ _]
    · rw [updV, if_neg hj, e2 h rfl j]
      rw [show gb_L (gb_sL h a i.toNatClampNeg x) a j = gb_L h a j from gb_u_n _ _ (fun q => hj q.2)]
  · rcases List.mem_append.mp hq' with h5 | h5
    · exact hq q h5
    · rw [List.mem_singleton.mp h5]; exact Nat.le_add_right _ _
theorem gb_aast {X : gb_X} {d : Nat} {M : gb_M} {pc : Nat} {L : List (Option Value)} {S : List Value} {h : gb_H} {r : Option Value × gb_H} {a v ci : Nat} {i : Int32} {C0 : String} {T : u_T} {N : Nat} (hc : gb_cf ci C0 T N) (hd : decode M.2.1 pc = .ok (.aastore, 1)) (hk : (gb_kd h a).1 = 30 + ci) (ht : 30 + ci ∈ gb_aks ∧ gb_aty (30 + ci) = .object C0) (hv : (gb_kd h v).1 = ci) (hi : vp_in i (gb_kd h a).2) (kk : gb_Ev X d M (pc + 1) L S (gb_sR h a i.toNatClampNeg (some v)) r) : gb_Ev X d M pc L (.ref v :: .int i :: .ref a :: S) h r := by
  refine ⟨kk.1, ?_⟩
  intro G p l e R s m args below meth c n0 s0 C h1 h2 h3 h4 H locs ls hR hq hL
  have hci := hc.1
  have ha := gb_arr hR (a := a) (by rw [hk]; omega) (by rw [hk]; omega)
  have hlt : a < gb_cn h := hR.lt (by rw [hk]; omega)
  rw [hk] at ha
  have hin : i.toNatClampNeg < (gb_kd h a).2 := Nat.not_le.mp fun q => hi (Or.inr q)
  have hA := (C.2.2.2.2.2.2.2.2.1.2.1 (30 + ci) ht.1)
  rw [ht.2] at hA
  obtain ⟨kA, comp, k1, k2, k3, -⟩ := hA.2
  obtain ⟨cellV, g1, g2, g3, -⟩ := gb_obj hR hc hv
  have hcls := (C.2.2.2.2.2.2.2.2.1.1.1 ci _ hc.2.1).2
  have hcomp : comp = G.2.2.1.1 ci := Option.some.inj (k3.symm.trans hcls.1)
  subst hcomp
  obtain ⟨kC, hkC, -⟩ := hcls.2
  refine W.aast C.1 C.2.1 ha (fun q h => by cases h) (fun h => by cases h) k1 k2 rfl hkC ⟨fun q => hi (Or.inl q), by show _ < (arrV _ _ _).slots.size; rw [arrV_size]; exact hin⟩ g1 (fun q h => by rw [g3] at h; cases h) (by rw [g2]; exact hkC) (by rw [g2]; exact va_assign hcls) rfl rfl hd fun H1 e1 z oq => ?_
  refine kk.2 G p l e R s m args below meth c n0 s0 C h1 h2 h3 h4 H1 _ ls (hR.put hlt (gb_off_R h a _ _) z oq ⟨fun q => ?_, fun _ => ?_⟩) (fun q hq' => ?_) hL
  · have q' : (gb_kd h a).1 < 20 := q
    rw [hk] at q'
    omega
  · show H1[G.1 + a]? = some (arrV (G.2.2.2.1 (gb_kd h a).1) (gb_kd h a).2 _)
    rw [e1, hk, arrV_store]
    congr 2
    funext j
    have e2 : ∀ h' : gb_H, gb_kd h' = gb_kd h → ∀ j, gb_tv G (gb_av h' a j) = gb_tv G (va_rf (gb_R h' a j)) := by
      intro h' hk' j
      unfold gb_av
      rw [hk', hk, if_neg (by omega), if_pos (by omega)]
    rw [e2 (gb_sR h a i.toNatClampNeg (some v)) rfl j]
    by_cases hj : j = i.toNatClampNeg
    · subst hj
      simp only [updV, if_true]
      rw [show gb_R (gb_sR h a i.toNatClampNeg (some v)) a i.toNatClampNeg = some v from gb_u_s _ _ _ _]
      rfl
    · rw [updV, if_neg hj, e2 h rfl j]
      rw [show gb_R (gb_sR h a i.toNatClampNeg (some v)) a j = gb_R h a j from gb_u_n _ _ (fun q => hj q.2)]
  · rcases List.mem_append.mp hq' with h5 | h5
    · exact hq q h5
    · rw [List.mem_singleton.mp h5]; exact Nat.le_add_right _ _
theorem gb_iret {X : gb_X} {d : Nat} {M : gb_M} {pc : Nat} {L : List (Option Value)} {h : gb_H} {x : Int32} (hd : decode M.2.1 pc = .ok (.ireturn, 1)) (hr : M.2.2.2 = some .int) : gb_Ev X d M pc L [.int x] h (some (.int x), h) := by
  refine ⟨⟨Nat.le_refl _, Nat.le_refl _⟩, ?_⟩
  intro G p l e R s m args below meth c n0 s0 C h1 h2 h3 h4 H locs ls hR hq hL
  exact W.iret C.1 C.2.1 (C.2.2.2.1.trans hr) (fun t ht _ => ⟨rfl, by rw [ht]; exact hR⟩) hq hd (hlocks := C.2.2.2.2.1)
theorem gb_zret {X : gb_X} {d : Nat} {M : gb_M} {pc : Nat} {L : List (Option Value)} {h : gb_H} {x : Int32} (hd : decode M.2.1 pc = .ok (.ireturn, 1)) (hr : M.2.2.2 = some .boolean) (hx : x &&& 1 = x) : gb_Ev X d M pc L [.int x] h (some (.int x), h) := by
  refine ⟨⟨Nat.le_refl _, Nat.le_refl _⟩, ?_⟩
  intro G p l e R s m args below meth c n0 s0 C h1 h2 h3 h4 H locs ls hR hq hL
  exact W.zret C.1 C.2.1 (C.2.2.2.1.trans hr) (by show Value.int (x &&& 1) = _; rw [hx]) (fun t ht _ => ⟨rfl, by rw [ht]; exact hR⟩) hq hd (hlocks := C.2.2.2.2.1)
theorem gb_lret {X : gb_X} {d : Nat} {M : gb_M} {pc : Nat} {L : List (Option Value)} {h : gb_H} {x : Int64} (hd : decode M.2.1 pc = .ok (.lreturn, 1)) (hr : M.2.2.2 = some .long) : gb_Ev X d M pc L [.long x] h (some (.long x), h) := by
  refine ⟨⟨Nat.le_refl _, Nat.le_refl _⟩, ?_⟩
  intro G p l e R s m args below meth c n0 s0 C h1 h2 h3 h4 H locs ls hR hq hL
  exact W.lret C.1 C.2.1 (C.2.2.2.1.trans hr) (fun t ht _ => ⟨rfl, by rw [ht]; exact hR⟩) hq hd (hlocks := C.2.2.2.2.1)
theorem gb_aret {X : gb_X} {d : Nat} {M : gb_M} {pc : Nat} {L : List (Option Value)} {h : gb_H} {x : Nat} {n : String} (hd : decode M.2.1 pc = .ok (.areturn, 1)) (hr : M.2.2.2 = some (.object n)) : gb_Ev X d M pc L [.ref x] h (some (.ref x), h) := by
  refine ⟨⟨Nat.le_refl _, Nat.le_refl _⟩, ?_⟩
  intro G p l e R s m args below meth c n0 s0 C h1 h2 h3 h4 H locs ls hR hq hL
  exact W.aret C.1 C.2.1 (C.2.2.2.1.trans hr) (Or.inl ⟨_, rfl⟩) (Or.inr ⟨_, rfl⟩) (fun t ht _ => ⟨rfl, by rw [ht]; exact hR⟩) hq hd (hlocks := C.2.2.2.2.1)
theorem gb_vret {X : gb_X} {d : Nat} {M : gb_M} {pc : Nat} {L : List (Option Value)} {h : gb_H} (hd : decode M.2.1 pc = .ok (.return_, 1)) (hr : M.2.2.2 = none) : gb_Ev X d M pc L [] h (none, h) := by
  refine ⟨⟨Nat.le_refl _, Nat.le_refl _⟩, ?_⟩
  intro G p l e R s m args below meth c n0 s0 C h1 h2 h3 h4 H locs ls hR hq hL
  exact W.vret C.1 C.2.1 (C.2.2.2.1.trans hr) (fun t ht _ => ⟨rfl, by rw [ht]; exact hR⟩) hq hd (hlocks := C.2.2.2.2.1)
theorem gb_Rel.push {G : gb_W} {h : gb_H} {H H1 : Heap} {k len wd : Nat} (hR : gb_Rel G h H) (hz : H1.size = H.size + 1) (ho : ∀ q, q < H.size → H1[q]? = H[q]?) (hc : gb_cell G (gb_nw h k len wd) (gb_cn h) H1) : gb_Rel G (gb_nw h k len wd) H1 := by
  have hs := hR.1
  have e0 : gb_cn (gb_nw h k len wd) = gb_cn h + 1 := rfl
  refine ⟨by rw [hz, hs, e0]; omega, fun q hq => (ho q (by omega)).trans (hR.2.1 q hq), fun a ha => ?_, fun a ha => ?_⟩
  · by_cases e : a = gb_cn h
    · subst e; exact hc
    · have hlt : a < gb_cn h := by omega
      have hcc := hR.2.2.1 a hlt
      have e1 : gb_kd (gb_nw h k len wd) a = gb_kd h a := if_neg e
      have e2 : ∀ j, gb_I (gb_nw h k len wd) a j = gb_I h a j := fun j => if_neg e
      have e3 : ∀ j, gb_L (gb_nw h k len wd) a j = gb_L h a j := fun j => if_neg e
      have e4 : ∀ j, gb_R (gb_nw h k len wd) a j = gb_R h a j := fun j => if_neg e
      have hq : H1[G.1 + a]? = H[G.1 + a]? := ho _ (by omega)
      have f1 : (fun k' => gb_tv G (gb_fv (gb_nw h k len wd) a k')) = (fun k' => gb_tv G (gb_fv h a k')) := by
        funext k'
        simp only [gb_fv, e1, e2, e3, e4]
      have f2 : (fun k' => gb_tv G (gb_av (gb_nw h k len wd) a k')) = (fun k' => gb_tv G (gb_av h a k')) := by
        funext k'
        simp only [gb_av, e1, e2, e3, e4]
      unfold gb_cell
      rw [f1, f2, e1]
      refine ⟨fun q => ?_, fun q => hq.trans (hcc.2 q)⟩
      obtain ⟨r, h1, h2⟩ := hcc.1 q
      exact ⟨r, h1, h2.kept hq⟩
  · rw [e0] at ha
    have e1 : gb_kd (gb_nw h k len wd) a = gb_kd h a := if_neg (by omega)
    rw [e1]
    exact hR.2.2.2 a (by omega)
theorem gb_new {X : gb_X} {d : Nat} {M : gb_M} {pc : Nat} {L : List (Option Value)} {S : List Value} {h : gb_H} {r : Option Value × gb_H} {idx ci : Nat} {C0 : String} {T : u_T} {N : Nat} (hc : gb_cf ci C0 T N) (hl : Cond.classLink M.1.cls idx C0 ∈ gb_ws) (hdf : ∀ k, k < N → defaultValue (gb_ty ci k) = gb_val (gb_ty ci k) 0 0 none) (hd : decode M.2.1 pc = .ok (.new idx, 3)) (kk : gb_Ev X d M (pc + 3) L (.ref (gb_cn h) :: S) (gb_nw h ci 0 N) r) : gb_Ev X d M pc L S h r := by
  refine ⟨⟨Nat.le_trans (Nat.le_succ _) kk.1.1, Nat.le_trans (Nat.le_add_right _ _) kk.1.2⟩, ?_⟩
  intro G p l e R s m args below meth c n0 s0 C h1 h2 h3 h4 H locs ls hR hq hL
  have e0 : gb_cn (gb_nw h ci 0 N) = gb_cn h + 1 := rfl
  have e9 : gb_sl (gb_nw h ci 0 N) = gb_sl h + N := rfl
  have g1 := kk.1.1
  have g2 := kk.1.2
  rw [e0] at g1
  rw [e9] at g2
  have hts := C.2.2.2.2.2.2.2.1
  have hKn := C.2.2.2.2.2.2.2.2.1.1.1 ci _ hc.2.1
  refine W.newcK C.1 C.2.1 C.2.2.2.2.2.2.1 (hts _ hl) (hts _ hc.2.2.2.2.2.1) (hts _ hc.2.2.2.2.2.2) rfl hd (by omega) (by omega) hKn.2.1 hR.1 fun H1 kC hkC e1 z1 o1 => ?_
  have hR1 : gb_Rel G (gb_nw h ci 0 N) H1 := by
    refine hR.push (by rw [z1, hR.1]) (fun q hq' => o1 q (by rw [← hR.1]; exact hq')) ⟨fun q => ?_, fun q => ?_⟩
    · have ek : gb_kd (gb_nw h ci 0 N) (gb_cn h) = (ci, 0) := if_pos rfl
      rw [ek]
      refine ⟨(C0, T, N), hc.2.1, (u_born (gb_ty ci) hts hc.2.2.1 hKn hkC e1 hc.2.2.2.1).to (fun k hk => ?_)⟩
      rw [gb_fv_k (ci := ci) (by rw [ek])]
      rw [show gb_I (gb_nw h ci 0 N) (gb_cn h) k = 0 from if_pos rfl, show gb_L (gb_nw h ci 0 N) (gb_cn h) k = 0 from if_pos rfl, show gb_R (gb_nw h ci 0 N) (gb_cn h) k = none from if_pos rfl, hdf k hk]
      cases gb_ty ci k <;> rfl
    · have ek : gb_kd (gb_nw h ci 0 N) (gb_cn h) = (ci, 0) := if_pos rfl
      rw [ek] at q
      have := hc.1
      omega
  have k2 := kk.2 G p l e R s m args below meth c n0 s0 C (by rw [e0]; omega) (by rw [e9]; omega) h3 h4 H1 locs ls hR1 hq hL
  rw [e0, e9, show gb_cn h + 1 - n0 = gb_cn h - n0 + 1 by omega, show gb_sl h + N - s0 = gb_sl h - s0 + N by omega] at k2
  exact k2
theorem gb_newa {X : gb_X} {d : Nat} {M : gb_M} {pc : Nat} {L : List (Option Value)} {S : List Value} {h : gb_H} {r : Option Value × gb_H} {at0 : ArrayType} {t : Nat} {n : Int32} (ht : t ∈ gb_aks ∧ 20 ≤ t ∧ t < 30) (hty : newarray.typeOf at0 = gb_aty t) (hw : Cond.arrayClass (gb_aty t) ∈ gb_ws) (hn : ¬ n < 0) (hb : n.toNatClampNeg * componentBytes (gb_aty t) ≤ 536870912) (hd : decode M.2.1 pc = .ok (.newarray at0, 2)) (kk : gb_Ev X d M (pc + 2) L (.ref (gb_cn h) :: S) (gb_nw h t n.toNatClampNeg n.toNatClampNeg) r) : gb_Ev X d M pc L (.int n :: S) h r := by
  refine ⟨⟨Nat.le_trans (Nat.le_succ _) kk.1.1, Nat.le_trans (Nat.le_add_right _ _) kk.1.2⟩, ?_⟩
  intro G p l e R s m args below meth c n0 s0 C h1 h2 h3 h4 H locs ls hR hq hL
  have e0 : gb_cn (gb_nw h t n.toNatClampNeg n.toNatClampNeg) = gb_cn h + 1 := rfl
  have e9 : gb_sl (gb_nw h t n.toNatClampNeg n.toNatClampNeg) = gb_sl h + n.toNatClampNeg := rfl
  have g1 := kk.1.1
  have g2 := kk.1.2
  rw [e0] at g1
  rw [e9] at g2
  have hts := C.2.2.2.2.2.2.2.1
  have hA := (C.2.2.2.2.2.2.2.2.1.2.1 t ht.1)
  refine va_newaK C.1 C.2.1 (by rw [hty]; exact hts _ hw) rfl hd rfl hn rfl (by rw [hty]; exact hb) (by omega) (by omega) hR.1 fun H1 cA e1 z1 o1 hAr hNm => ?_
  rw [hty] at e1 hAr hNm
  have hcA : cA = G.2.2.2.1 t := by
    have h9 : s.vm.findClass ("[" ++ (gb_aty t).toString) = some (G.2.2.2.1 t) := by
      have h8 : t = 20 ∨ t = 21 ∨ t = 22 ∨ t = 23 := by
        have := ht.1
        simp [gb_aks] at this
        omega
      rcases h8 with rfl | rfl | rfl | rfl <;> exact hA.2
    exact Option.some.inj (hNm.symm.trans h9)
  have hR1 : gb_Rel G (gb_nw h t n.toNatClampNeg n.toNatClampNeg) H1 := by
    have ek : gb_kd (gb_nw h t n.toNatClampNeg n.toNatClampNeg) (gb_cn h) = (t, n.toNatClampNeg) := if_pos rfl
    refine hR.push (by rw [z1, hR.1]) (fun q hq' => o1 q (by rw [← hR.1]; exact hq')) ⟨fun q => ?_, fun q => ?_⟩
    · rw [ek] at q
      have q' : t < 20 := q
      omega
    · rw [ek]
      rw [e1, hcA]
      congr 2
      funext j
      unfold gb_av
      rw [ek, show gb_I (gb_nw h t n.toNatClampNeg n.toNatClampNeg) (gb_cn h) j = 0 from if_pos rfl, show gb_L (gb_nw h t n.toNatClampNeg n.toNatClampNeg) (gb_cn h) j = 0 from if_pos rfl]
      have h8 : t = 20 ∨ t = 21 ∨ t = 22 ∨ t = 23 := by
        have := ht.1
        simp [gb_aks] at this
        omega
      rcases h8 with rfl | rfl | rfl | rfl <;> rfl
  have k2 := kk.2 G p l e R s m args below meth c n0 s0 C (by rw [e0]; omega) (by rw [e9]; omega) h3 h4 H1 locs ls hR1 hq hL
  rw [e0, e9, show gb_cn h + 1 - n0 = gb_cn h - n0 + 1 by omega, show gb_sl h + n.toNatClampNeg - s0 = gb_sl h - s0 + n.toNatClampNeg by omega] at k2
  exact k2
theorem gb_anew {X : gb_X} {d : Nat} {M : gb_M} {pc : Nat} {L : List (Option Value)} {S : List Value} {h : gb_H} {r : Option Value × gb_H} {idx t : Nat} {C0 : String} {n : Int32} (ht : t ∈ gb_aks ∧ 30 ≤ t ∧ t < 99) (hty : gb_aty t = .object C0) (hao : C0 ∈ gb_aos) (hl : Cond.classLink M.1.cls idx C0 ∈ gb_ws) (hn : ¬ n < 0) (hb : n.toNatClampNeg * 4 ≤ 536870912) (hd : decode M.2.1 pc = .ok (.anewarray idx, 3)) (kk : gb_Ev X d M (pc + 3) L (.ref (gb_cn h) :: S) (gb_nw h t n.toNatClampNeg n.toNatClampNeg) r) : gb_Ev X d M pc L (.int n :: S) h r := by
  refine ⟨⟨Nat.le_trans (Nat.le_succ _) kk.1.1, Nat.le_trans (Nat.le_add_right _ _) kk.1.2⟩, ?_⟩
  intro G p l e R s m args below meth c n0 s0 C h1 h2 h3 h4 H locs ls hR hq hL
  have e0 : gb_cn (gb_nw h t n.toNatClampNeg n.toNatClampNeg) = gb_cn h + 1 := rfl
  have e9 : gb_sl (gb_nw h t n.toNatClampNeg n.toNatClampNeg) = gb_sl h + n.toNatClampNeg := rfl
  have g1 := kk.1.1
  have g2 := kk.1.2
  rw [e0] at g1
  rw [e9] at g2
  have hts := C.2.2.2.2.2.2.2.1
  have hA := (C.2.2.2.2.2.2.2.2.1.2.1 t ht.1)
  refine W.anew C.1 C.2.1 C.2.2.2.2.2.2.1 (hts _ hl) (va_AO.use (C.2.2.2.2.2.2.2.2.1.2.2.2.1 _ hao)) rfl hd rfl hn hb (by omega) (by omega) fun cA kA comp f1 f2 f3 f4 => ?_
  generalize hH1 : H.push ({ cls := cA, slots := Array.replicate n.toNatClampNeg .null, vm := .none } : Cell) = H1
  have z1 : H1.size = H.size + 1 := by rw [← hH1, Array.size_push]
  have e1 : H1[H.size]? = some (arrV cA n.toNatClampNeg (fun _ => .null)) := by rw [← hH1, Array.getElem?_push_size, ← arrV_new]
  have o1 : ∀ q : Nat, q < H.size → H1[q]? = H[q]? := fun q hq => by rw [← hH1, Array.getElem?_push, if_neg (Nat.ne_of_lt hq)]
  rw [hty] at hA
  obtain ⟨kA', comp', k1, k2', k3, k4⟩ := hA.2
  have hcA : cA = G.2.2.2.1 t := Option.some.inj (f1.symm.trans k4)
  have hR1 : gb_Rel G (gb_nw h t n.toNatClampNeg n.toNatClampNeg) H1 := by
    have ek : gb_kd (gb_nw h t n.toNatClampNeg n.toNatClampNeg) (gb_cn h) = (t, n.toNatClampNeg) := if_pos rfl
    refine hR.push z1 o1 ⟨fun q => ?_, fun q => ?_⟩
    · rw [ek] at q
      have q' : t < 20 := q
      omega
    · rw [ek, ← hR.1, e1, hcA]
      congr 2
      funext j
      unfold gb_av
      have e7 : gb_kd (gb_nw h t n.toNatClampNeg n.toNatClampNeg) (gb_cn h) = (t, n.toNatClampNeg) := if_pos rfl
      rw [e7, show gb_R (gb_nw h t n.toNatClampNeg n.toNatClampNeg) (gb_cn h) j = none from if_pos rfl, if_neg (by show ¬ t = 23; omega), if_pos (by show 30 ≤ t; omega)]
      rfl
  have k2 := kk.2 G p l e R s m args below meth c n0 s0 C (by rw [e0]; omega) (by rw [e9]; omega) h3 h4 H1 locs ls hR1 hq hL
  rw [e0, e9, show gb_cn h + 1 - n0 = gb_cn h - n0 + 1 by omega, show gb_sl h + n.toNatClampNeg - s0 = gb_sl h - s0 + n.toNatClampNeg by omega] at k2
  rw [hR.1]
  exact k2
