section WHOLE2
variable {p : gb_P} {ps : List gb_P} {cs ls g k k0 i : Nat} {F G : Nat → zq} {tb : Nat → List gb_br}
/-- a sum over a list -/
def zLs {α : Type} : List α → (α → zq) → zq
  | [], _ => zZ
  | a :: l, f => zA (f a) (zLs l f)
theorem zLs_congr {α : Type} {f h : α → zq} : ∀ l : List α, (∀ a ∈ l, f a = h a) → zLs l f = zLs l h
  | [], _ => rfl
  | a :: l, e => by
    show zA (f a) (zLs l f) = zA (h a) (zLs l h)
    rw [e a (by simp), zLs_congr l (fun b hb => e b (List.mem_cons_of_mem _ hb))]
theorem zLs_T {α : Type} (f : α → zq) (e : gb_q) : ∀ l : List α, zT (zLs l f) e = qL l (fun a => zT (f a) e)
  | [] => zT_Z e
  | a :: l => by
    show zT (zA (f a) (zLs l f)) e = qA (zT (f a) e) (qL l (fun a => zT (f a) e))
    rw [zT_A, zLs_T f e l]
theorem zLs_0 {α : Type} : ∀ l : List α, zLs l (fun _ => zZ) = zZ
  | [] => rfl
  | a :: l => by
    show zA zZ (zLs l (fun _ => zZ)) = zZ
    rw [zLs_0 l, zZ_A]
theorem zLs_A {α : Type} (f h : α → zq) : ∀ l : List α, zLs l (fun a => zA (f a) (h a)) = zA (zLs l f) (zLs l h)
  | [] => (zA_Z _).symm
  | a :: l => by
    show zA (zA (f a) (h a)) (zLs l (fun a => zA (f a) (h a))) = zA (zA (f a) (zLs l f)) (zA (h a) (zLs l h))
    rw [zLs_A f h l, zA_assoc, zA_assoc, ← zA_assoc (h a), zA_comm (h a), zA_assoc]
theorem zLs_M {α : Type} (x : zq) (f : α → zq) : ∀ l : List α, zLs l (fun a => zM x (f a)) = zM x (zLs l f)
  | [] => (zM_Z _).symm
  | a :: l => by
    show zA (zM x (f a)) (zLs l (fun a => zM x (f a))) = zM x (zA (f a) (zLs l f))
    rw [zLs_M x f l, zM_A]
theorem zLs_M' {α : Type} (x : zq) (f : α → zq) (l : List α) : zLs l (fun a => zM (f a) x) = zM (zLs l f) x := by
  rw [zM_comm, ← zLs_M]
  exact zLs_congr l (fun a _ => zM_comm _ _)
theorem zLs_swap {α β : Type} (f : α → β → zq) (m : List β) : ∀ l : List α, zLs l (fun a => zLs m (fun b => f a b)) = zLs m (fun b => zLs l (fun a => f a b))
  | [] => (zLs_0 m).symm
  | a :: l => by
    show zA (zLs m (fun b => f a b)) (zLs l (fun a => zLs m (fun b => f a b))) = _
    rw [zLs_swap f m l, ← zLs_A]
    rfl
/-- three branches taken, all branches, one part, all parts: as with functionals, in whole numbers -/
def zC (F : Nat → zq) (ex ey ez : gb_br) : zq := zM (zb ((ex.1 * ey.1 * ez.1 : Nat) : Int) (ex.2.1 + ey.2.1 + ez.2.1) (ex.2.2.1 + ey.2.2.1 + ez.2.2.1)) (F (gb_ky ex.2.2.2 ey.2.2.2 ez.2.2.2))
def zG (tb : Nat → List gb_br) (F : Nat → zq) (k : Nat) : zq := zLs (tb (k % 32)) (fun ex => zLs (tb (k / 32 % 32)) (fun ey => zLs (tb (k / 1024)) (fun ez => zC F ex ey ez)))
def zid (p : gb_P) (k : Nat) : Nat := (if k % 32 = 0 then 1 else gb_ba p) * (if k / 32 % 32 = 0 then 1 else gb_ba p) * (if k / 1024 = 0 then 1 else gb_ba p)
def zop (p : gb_P) (F : Nat → zq) (k : Nat) : zq := if gb_ac p k = true then zG (gb_tb p 2) F k else zM (zb (zid p k : Nat) 0 0) (F k)
def zops : List gb_P → (Nat → zq) → Nat → zq
  | [], F => F
  | p :: ps, F => if p.1 = 5 then zops ps F else zop p (zops ps F)
theorem zop_T (e : gb_q) : zT (zop p F k) e = gb_op p (fun k => zT (F k) e) k := by
  unfold zop gb_op
  by_cases a : gb_ac p k = true
  · rw [if_pos a, if_pos a]
    unfold zG gG
    rw [zLs_T]
    refine qL_congr _ (fun ex _ => ?_)
    rw [zLs_T]
    refine qL_congr _ (fun ey _ => ?_)
    rw [zLs_T]
    refine qL_congr _ (fun ez _ => ?_)
    unfold zC gC
    rw [zT_M]
  · rw [if_neg a, if_neg a, zT_M]
    congr 1
    unfold zid gb_id
    rw [← lN_mul, ← lN_mul]
    congr 1
    · congr 1
      · split <;> rfl
      · split <;> rfl
    · split <;> rfl
theorem zops_T (e : gb_q) : ∀ ps : List gb_P, ∀ k, zT (zops ps F k) e = gb_ops ps (fun k => zT (F k) e) k
  | [], _ => rfl
  | p :: ps, k => by
    unfold zops gb_ops
    by_cases a : p.1 = 5
    · rw [if_pos a, if_pos a]
      exact zops_T e ps k
    · rw [if_neg a, if_neg a, zop_T]
      rw [show (fun k => zT (zops ps F k) e) = gb_ops ps (fun k => zT (F k) e) from funext (zops_T e ps)]
/-- the number of a product behind a bench -/
def zpt (k k' : Nat) : zq := if k' = k then z1 else zZ
def zN (ps : List gb_P) (k0 k : Nat) : zq := zops ps (zpt k) k0
theorem zN_c : (gb_ops ps (qpt k i) k0).1 = qc (zL (zN ps k0 k)) i := by
  rw [← zT_e, zN, zops_T]
  congr 1
  congr 1
  funext k'
  unfold qpt zpt
  by_cases e : k' = k
  · rw [if_pos e, if_pos e, zT_1]
  · rw [if_neg e, if_neg e, zT_Z]
/-- how many seats have a grain -/
def zk_nz (k : Nat) : Nat := (if k % 32 = 0 then 0 else 1) + (if k / 32 % 32 = 0 then 0 else 1) + (if k / 1024 = 0 then 0 else 1)
theorem zk_nz_ky {x y z : Nat} (hx : x < 17) (hy : y < 17) (hz : z < 17) : zk_nz (gb_ky x y z) = (if x = 0 then 0 else 1) + (if y = 0 then 0 else 1) + (if z = 0 then 0 else 1) := by
  obtain ⟨a, b, c, d⟩ := gb_ky_s hx hy hz
  unfold zk_nz
  rw [b, c, d]
  unfold gb_mi gb_ma
  repeat' split
  all_goals omega
/-- products with g grains, none in a hidden path of a loss from ls on -/
def zk_ad (g ls k : Nat) : Prop := gb_sk k ∧ zk_nz k = g ∧ k / 1024 < 11 + 2 * ls
theorem gb_tb_n (hw : gb_wp cs ls p) {s : Nat} (hs : 1 ≤ s) (h : s < 11 + 2 * ls) (l3 : ls ≤ 3) : ∀ e ∈ gb_tb p 2 s, 1 ≤ e.2.2.2 ∧ e.2.2.2 < 11 + 2 * gb_nl ls p ∧ e.2.2.2 < 17 := by
  obtain ⟨⟨w1, w2, w3, w4, w5, w6, w7, w8, w9⟩, w10, w11, w12, w13, w14, w15⟩ := hw
  have nl : ls ≤ gb_nl ls p := by unfold gb_nl; split <;> omega
  unfold gb_tb
  rw [if_neg (by omega)]
  split
  · next c =>
    have hit := c.2
    unfold gb_hit at hit
    have hit' := of_decide_eq_true hit
    have x5 : (s - 1) / 2 < 5 := by omega
    have o5 : gb_oth p ((s - 1) / 2) < 5 := by unfold gb_oth; split <;> omega
    unfold gb_hl
    intro e he
    split at he
    · simp only [List.mem_cons, List.not_mem_nil, or_false] at he
      rcases he with z | z <;> (subst z; simp only; omega)
    · split at he
      · simp only [List.mem_cons, List.not_mem_nil, or_false] at he
        rcases he with z | z <;> (subst z; simp only; omega)
      · split at he
        · simp only [List.mem_cons, List.not_mem_nil, or_false] at he
          subst he; simp only; omega
        · split at he
          · simp only [List.mem_cons, List.not_mem_nil, or_false] at he
            subst he; simp only; omega
          · have p4 : p.1 = 4 := by omega
            have := w13 p4
            have nl' : gb_nl ls p = ls + 1 := by unfold gb_nl; rw [if_pos p4]
            simp only [List.mem_cons, List.not_mem_nil, or_false] at he
            rcases he with z | z <;> (subst z; simp only; omega)
  · intro e he
    simp only [List.mem_cons, List.not_mem_nil, or_false] at he
    subst he
    simp only
    omega
theorem gb_tb_z {e : gb_br} (h : e ∈ gb_tb p 2 0) : e = (1, 0, 0, 0) := by
  unfold gb_tb at h
  rw [if_pos rfl] at h
  simpa using h
end WHOLE2
