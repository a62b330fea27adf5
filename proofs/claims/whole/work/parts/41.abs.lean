/-! THE STATE, in plain words, and how the class and the reference hold it -/
/-- a part: act, first, second, kind (0 none), mark (2 both), times, path waited for (5 none), count waited for, number of the loss -/
abbrev gb_P : Type := Nat × Nat × Nat × Nat × Nat × Nat × Nat × Nat × Nat
def gb_m1 (c : Nat) (x : Nat) : Int32 := if x = c then -1 else nI x
def gb_pOK (p : gb_P) : Prop := p.1 ≤ 5 ∧ p.2.1 < 5 ∧ p.2.2.1 < 5 ∧ p.2.2.2.1 ≤ 3 ∧ p.2.2.2.2.1 ≤ 2 ∧ p.2.2.2.2.2.1 ≤ 3 ∧ p.2.2.2.2.2.2.1 ≤ 5 ∧ p.2.2.2.2.2.2.2.1 ≤ 3 ∧ p.2.2.2.2.2.2.2.2 < 3
def xP (r : Nat → Int32) (p : gb_P) : Prop := r 0 = nI p.1 ∧ r 1 = nI p.2.1 ∧ r 2 = nI p.2.2.1 ∧ r 3 = nI p.2.2.2.1 ∧ r 4 = gb_m1 2 p.2.2.2.2.1 ∧ r 5 = nI p.2.2.2.2.2.1 ∧ r 6 = gb_m1 5 p.2.2.2.2.2.2.1 ∧ r 7 = nI p.2.2.2.2.2.2.2.1 ∧ r 8 = nI p.2.2.2.2.2.2.2.2
def mP (r : Nat → Int32) (at0 : Nat) (p : gb_P) : Prop := r at0 = nI p.1 ∧ r (at0 + 1) = nI p.2.1 ∧ r (at0 + 2) = nI (if p.1 = 4 then p.2.2.2.2.2.2.2.2 else p.2.2.1) ∧ r (at0 + 3) = (if p.2.2.2.1 = 0 then -1 else nI (p.2.2.2.1 - 1)) ∧ (p.1 = 2 → r (at0 + 4) = gb_m1 2 p.2.2.2.2.1 ∧ r (at0 + 5) = nI p.2.2.2.2.2.1) ∧ r (at0 + 6) = gb_m1 5 p.2.2.2.2.2.2.1 ∧ (p.2.2.2.2.2.2.1 ≠ 5 → r (at0 + 7) = nI p.2.2.2.2.2.2.2.1)
/-- grains, status, tape, fault, benches, shelf, dark, runs, plan -/
abbrev gb_S : Type := List Nat × Int32 × List Nat × Int32 × (Nat → List gb_P) × List gb_P × (Nat → Nat) × List (Nat × Nat × Nat) × Option (List Nat × Int64 × Int64 × Int64)
/-- what is kept of a bench's odds: a predicate of the kept numbers, the grains and the parts -/
abbrev gb_CP : Type := Int32 → Int64 → (Nat → Int64) → (Nat → Int64) → (Nat → Int64) → (Nat → Int64) → List Nat → List gb_P → Prop
def xG (c : Int32) (r : Nat → Int32) (gs : List Nat) : Prop := gs.length ≤ 3 ∧ (∀ m ∈ gs, m < 10) ∧ c = nI gs.length ∧ ∀ i, i < 3 → r i = nI (match gs[i]? with | some m => m + 1 | none => 0)
def mG (c : Int32) (r : Nat → Int32) (gs : List Nat) : Prop := c = nI gs.length ∧ ∀ i m, gs[i]? = some m → r i = nI m
def xT (c : Int32) (r : Nat → Int32) (bs : List Nat) : Prop := bs.length ≤ 400 ∧ (∀ b ∈ bs, b < 256) ∧ c = nI bs.length ∧ ∀ i b, bs[i]? = some b → r i = nI b
def mT (c : Int32) (r : Nat → Int32) (bs : List Nat) : Prop := c = nI bs.length ∧ ∀ i b, bs[i]? = some b → r i = sb_b b
def xB (I : gb_FI) (bn : Nat → List gb_P) : Prop := ∀ b, b < 4 → (bn b).length ≤ 16 ∧ I (24 + 23 * b) 1 = nI (bn b).length ∧ ∀ i p, (bn b)[i]? = some p → gb_pOK p ∧ xP (I (26 + 23 * b + i)) p
def mB (r4 rp : Nat → Int32) (bn : Nat → List gb_P) : Prop := ∀ b, b < 4 → r4 b = nI (bn b).length ∧ ∀ i p, (bn b)[i]? = some p → mP rp (128 * b + 8 * i) p
def xS (I : gb_FI) (sh : List gb_P) : Prop := sh.length ≤ 8 ∧ I 116 1 = nI sh.length ∧ ∀ i p, sh[i]? = some p → gb_pOK p ∧ p.1 < 4 ∧ p.2.2.2.2.2.2.1 = 5 ∧ xP (I (118 + i)) p
def mS (c : Int32) (r : Nat → Int32) (sh : List gb_P) : Prop := c = nI sh.length ∧ ∀ i p, sh[i]? = some p → mP r (8 * i) p
def xD (r : Nat → Int32) (dk : Nat → Nat) : Prop := ∀ i, i < 5 → dk i < 10 ∧ r i = nI (dk i)
def xR (c : Int32) (r1 r2 r3 : Nat → Int32) (rs : List (Nat × Nat × Nat)) : Prop := rs.length ≤ 200 ∧ c = nI rs.length ∧ ∀ i q, rs[i]? = some q → q.1 < 4 ∧ q.2.1 < 32 ∧ q.2.2 < 1000 ∧ r1 i = nI q.1 ∧ r2 i = nI q.2.1 ∧ r3 i = nI q.2.2
def xL (c : Int32) (r : Nat → Int32) (J : Nat → Int64) (sh : List gb_P) (pl : Option (List Nat × Int64 × Int64 × Int64)) : Prop := match pl with
  | none => c = -1
  | some q => q.1.length ≤ 3 ∧ c = nI q.1.length ∧ (∀ i j, q.1[i]? = some j → j < sh.length ∧ r i = nI j) ∧ J 0 = q.2.1 ∧ J 1 = q.2.2.1 ∧ J 2 = q.2.2.2
def mL (c : Int32) (r rp : Nat → Int32) (J : Nat → Int64) (sh : List gb_P) (pl : Option (List Nat × Int64 × Int64 × Int64)) : Prop := match pl with
  | none => c = -1
  | some q => c = nI q.1.length ∧ (∀ i j, q.1[i]? = some j → r i = nI j ∧ ∀ p, sh[j]? = some p → mP rp (8 * i) p) ∧ J 51 = q.2.1 ∧ J 52 = q.2.2.1 ∧ J 53 = q.2.2.2
def xC (cOK : gb_CP) (I : gb_FI) (J : gb_FJ) (gs : List Nat) (bn : Nat → List gb_P) : Prop := ∀ b, b < 4 → I (42 + 23 * b) 6 = 0 ∨ (I (42 + 23 * b) 6 = 1 ∧ cOK (I (42 + 23 * b) 5) (J (42 + 23 * b) 4) (J (43 + 23 * b)) (J (44 + 23 * b)) (J (45 + 23 * b)) (J (46 + 23 * b)) gs (bn b))
/-- the place of a product of three rising seats, five bits each -/
def gb_kp (k : Nat) : Nat := k % 32 + (k / 32 % 32) * (k / 32 % 32 + 1) / 2 + (k / 1024 % 32) * (k / 1024 % 32 + 1) * (k / 1024 % 32 + 2) / 6
/-- a beam: what is not listed is 0; the list holds each listed place once -/
def gb_bW (sz : Int32) (ks li : Nat → Int32) (a b c d : Nat → Int64) (n : Nat) : Prop := ∃ kl : List Nat, sz = nI kl.length ∧ (∀ (i k : Nat), kl[i]? = some k → ks i = nI k ∧ (k % 32 ≤ k / 32 % 32 ∧ k / 32 % 32 ≤ k / 1024 ∧ k / 1024 < 17) ∧ gb_kp k < n ∧ li (gb_kp k) = 1) ∧ (∀ (i j k k' : Nat), kl[i]? = some k → kl[j]? = some k' → gb_kp k = gb_kp k' → i = j) ∧ ∀ p, p < n → (∃ k ∈ kl, gb_kp k = p) ∨ (li p = 0 ∧ a p = 0 ∧ b p = 0 ∧ c p = 0 ∧ d p = 0)
def gb_beams : List (Nat × Nat) := [(196, 286), (203, 286), (210, 286), (217, 286), (224, 969), (231, 969)]
def xW (I : gb_FI) (J : gb_FJ) : Prop := ∀ q ∈ gb_beams, gb_bW (I q.1 6) (I (q.1 + 1)) (I (q.1 + 2)) (J (q.1 + 3)) (J (q.1 + 4)) (J (q.1 + 5)) (J (q.1 + 6)) q.2
/-- the class holds the state -/
def RX (cOK : gb_CP) (S : gb_S) (I : gb_FI) (J : gb_FJ) : Prop :=
  xG (I 0 13) (I 239) S.1 ∧ I 0 15 = S.2.1 ∧ xT (I 1 1) (I 2) S.2.2.1 ∧ I 0 14 = S.2.2.2.1 ∧ xB I S.2.2.2.2.1 ∧ xS I S.2.2.2.2.2.1 ∧ xD (I 240) S.2.2.2.2.2.2.1 ∧ xR (I 126 3) (I 127) (I 128) (I 129) S.2.2.2.2.2.2.2.1 ∧ xL (I 139 7) (I 145) (J 146) S.2.2.2.2.2.1 S.2.2.2.2.2.2.2.2 ∧ xC cOK I J S.1 S.2.2.2.2.1 ∧ xW I J
/-- the reference holds the state -/
def RM (S : gb_S) (I : gb_FI) (J : gb_FJ) : Prop :=
  mG (I 241 1) (I 242) S.1 ∧ I 241 0 = S.2.1 ∧ mT (I 241 14) (I 248) S.2.2.1 ∧ I 241 18 = S.2.2.2.1 ∧ mB (I 244) (I 243) S.2.2.2.2.1 ∧ mS (I 241 6) (I 245) S.2.2.2.2.2.1 ∧ xD (I 260) S.2.2.2.2.2.2.1 ∧ xR (I 241 37) (I 261) (I 262) (I 263) S.2.2.2.2.2.2.2.1 ∧ mL (I 241 46) (I 268) (I 267) (J 241) S.2.2.2.2.2.1 S.2.2.2.2.2.2.2.2
/-- nothing of the reference's (the class's) cells has moved -/
def gb_fx (I I' : gb_FI) (J J' : gb_FJ) : Prop := ∀ n, 241 ≤ n → I' n = I n ∧ J' n = J n
def gb_fm (I I' : gb_FI) (J J' : gb_FJ) : Prop := ∀ n, n < 241 → I' n = I n ∧ J' n = J n
theorem RM.keep {S : gb_S} {I I' : gb_FI} {J J' : gb_FJ} (h : RM S I J) (f : gb_fx I I' J J') : RM S I' J' := by
  unfold RM at h ⊢
  rw [(f 241 (by decide)).1, (f 242 (by decide)).1, (f 248 (by decide)).1, (f 244 (by decide)).1, (f 243 (by decide)).1, (f 245 (by decide)).1, (f 260 (by decide)).1, (f 261 (by decide)).1, (f 262 (by decide)).1, (f 263 (by decide)).1, (f 268 (by decide)).1, (f 267 (by decide)).1, (f 241 (by decide)).2]
  exact h
theorem RX.keep {cOK : gb_CP} {S : gb_S} {I I' : gb_FI} {J J' : gb_FJ} (h : RX cOK S I J) (f : gb_fm I I' J J') : RX cOK S I' J' := by
  unfold RX at h ⊢
  obtain ⟨h1, h2, h3, h4, h5, h6, h7, h8, h9, h10, h11⟩ := h
  rw [(f 0 (by decide)).1, (f 239 (by decide)).1, (f 1 (by decide)).1, (f 2 (by decide)).1, (f 240 (by decide)).1, (f 126 (by decide)).1, (f 127 (by decide)).1, (f 128 (by decide)).1, (f 129 (by decide)).1, (f 139 (by decide)).1, (f 145 (by decide)).1, (f 146 (by decide)).2]
  refine ⟨h1, h2, h3, h4, ?_, ?_, h7, h8, h9, ?_, ?_⟩
  · intro b hb
    obtain ⟨q1, q2, q3⟩ := h5 b hb
    refine ⟨q1, by rw [(f (24 + 23 * b) (by omega)).1]; exact q2, fun i p hp => ?_⟩
    have hi : i < (S.2.2.2.2.1 b).length := (List.getElem?_eq_some_iff.mp hp).1
    rw [(f (26 + 23 * b + i) (by omega)).1]
    exact q3 i p hp
  · obtain ⟨q1, q2, q3⟩ := h6
    refine ⟨q1, by rw [(f 116 (by decide)).1]; exact q2, fun i p hp => ?_⟩
    have hi : i < S.2.2.2.2.2.1.length := (List.getElem?_eq_some_iff.mp hp).1
    rw [(f (118 + i) (by omega)).1]
    exact q3 i p hp
  · intro b hb
    rw [(f (42 + 23 * b) (by omega)).1, (f (42 + 23 * b) (by omega)).2, (f (43 + 23 * b) (by omega)).2, (f (44 + 23 * b) (by omega)).2, (f (45 + 23 * b) (by omega)).2, (f (46 + 23 * b) (by omega)).2]
    exact h10 b hb
  · intro q hq
    have hl : q.1 ≤ 231 := by
      have : ∀ q ∈ gb_beams, q.1 ≤ 231 := by decide
      exact this q hq
    rw [(f q.1 (by omega)).1, (f (q.1 + 1) (by omega)).1, (f (q.1 + 2) (by omega)).1, (f (q.1 + 3) (by omega)).2, (f (q.1 + 4) (by omega)).2, (f (q.1 + 5) (by omega)).2, (f (q.1 + 6) (by omega)).2]
    exact h11 q hq
