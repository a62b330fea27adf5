section LEX
variable {I I' : gb_FI} {J J' : gb_FJ}
/-- the first place from p on where Q fails, at most f further -/
def gt_wf (Q : Nat → Bool) : Nat → Nat → Nat
  | 0, p => p
  | f + 1, p => if Q p = true then gt_wf Q f (p + 1) else p
def gt_w (Q : Nat → Bool) (n p : Nat) : Nat := gt_wf Q (n - p) p
theorem gt_wf_s (Q : Nat → Bool) : ∀ f p, p ≤ gt_wf Q f p ∧ gt_wf Q f p ≤ p + f ∧ (∀ x, p ≤ x → x < gt_wf Q f p → Q x = true) ∧ (gt_wf Q f p < p + f → Q (gt_wf Q f p) = false)
  | 0, p => ⟨Nat.le_refl _, Nat.le_refl _, fun x h1 h2 => absurd h2 (by show ¬ x < p; omega), fun h => absurd h (by show ¬ p < p + 0; omega)⟩
  | f + 1, p => by
    obtain ⟨a, b, c, d⟩ := gt_wf_s Q f (p + 1)
    rw [gt_wf]
    by_cases q : Q p = true
    · rw [if_pos q]
      refine ⟨by omega, by omega, fun x h1 h2 => ?_, fun h => d (by omega)⟩
      by_cases e : x = p
      · rw [e]; exact q
      · exact c x (by omega) h2
    · rw [if_neg q]
      exact ⟨by omega, by omega, fun x h1 h2 => absurd h2 (by omega), fun _ => by simpa using q⟩
theorem gt_w_s {Q : Nat → Bool} {n p : Nat} (h : p ≤ n) : p ≤ gt_w Q n p ∧ gt_w Q n p ≤ n ∧ (∀ x, p ≤ x → x < gt_w Q n p → Q x = true) ∧ (gt_w Q n p < n → Q (gt_w Q n p) = false) := by
  obtain ⟨a, b, c, d⟩ := gt_wf_s Q (n - p) p
  unfold gt_w
  exact ⟨a, by omega, c, fun q => d (by omega)⟩
theorem gt_w_1 {Q : Nat → Bool} {n p : Nat} (h : p < n) (q : Q p = true) : gt_w Q n p = gt_w Q n (p + 1) := by
  unfold gt_w
  rw [show n - p = (n - (p + 1)) + 1 by omega, gt_wf, if_pos q]
theorem gt_w_0 {Q : Nat → Bool} {n p : Nat} (q : ¬ Q p = true) : gt_w Q n p = p := by
  unfold gt_w
  cases n - p with
  | zero => rfl
  | succ f => rw [gt_wf, if_neg q]
/-- a loop that goes on as long as Q holds -/
theorem gb_whl {σ β : Type} {body : (σ → Option β) → σ → Option β} {out : Option β} (st : Nat → σ) (Q : Nat → Bool) (n s : Nat) (hs : s ≤ n) (hn : n < 1000000) (step : ∀ p k, s ≤ p → p < n → Q p = true → body k (st p) = k (st (p + 1))) (ex : ∀ k, body k (st (gt_w Q n s)) = out) : gb_lp body gb_FU (st s) = out := by
  obtain ⟨a, b, c, d⟩ := gt_w_s (Q := Q) hs
  refine gb_forF (fun i => st (s + i)) (gt_w Q n s - s) (by omega) ?_ ?_
  · intro j hj k
    exact step (s + j) k (by omega) (by omega) (c _ (by omega) (by omega))
  · intro k
    have e := ex k
    rw [← show s + (gt_w Q n s - s) = gt_w Q n s by omega] at e
    exact e
def gt_sp (c : Nat → Nat) (p : Nat) : Bool := decide (c p = 32)
def gt_dg (c : Nat → Nat) (p : Nat) : Bool := decide (48 ≤ c p ∧ c p ≤ 57)
def gt_lt (c : Nat → Nat) (p : Nat) : Bool := decide (97 ≤ c p ∧ c p ≤ 122)
/-- a token's start from p on, its end, the next one's start, its number -/
def gt_s (c : Nat → Nat) (n p : Nat) : Nat := gt_w (gt_sp c) n p
def gt_e (c : Nat → Nat) (n s : Nat) : Nat := if s < n then (if gt_dg c s = true then gt_w (gt_dg c) n s else if gt_lt c s = true then gt_w (gt_lt c) n s else s + 1) else s
def gt_n (c : Nat → Nat) (n s : Nat) : Nat := gt_s c n (gt_e c n s)
def gt_d (c : Nat → Nat) (s : Nat) : Nat → Nat
  | 0 => 0
  | j + 1 => min (gt_d c s j * 10 + (c (s + j) - 48)) 1000
def gt_v (c : Nat → Nat) (n s : Nat) : Int32 := if s < n ∧ gt_dg c s = true then nI (gt_d c s (gt_e c n s - s)) else -1
theorem gt_d_le (c : Nat → Nat) (s : Nat) : ∀ j, gt_d c s j ≤ 1000
  | 0 => Nat.zero_le _
  | j + 1 => Nat.min_le_right _ _
theorem gt_e_s {c : Nat → Nat} {n s : Nat} (h : s ≤ n) : s ≤ gt_e c n s ∧ gt_e c n s ≤ n ∧ (s < n → s < gt_e c n s) := by
  unfold gt_e
  by_cases a : s < n
  · rw [if_pos a]
    by_cases b : gt_dg c s = true
    · rw [if_pos b, gt_w_1 a b]
      have := gt_w_s (Q := gt_dg c) (show s + 1 ≤ n from a)
      omega
    · rw [if_neg b]
      by_cases d : gt_lt c s = true
      · rw [if_pos d, gt_w_1 a d]
        have := gt_w_s (Q := gt_lt c) (show s + 1 ≤ n from a)
        omega
      · rw [if_neg d]; omega
  · rw [if_neg a]; omega
theorem gt_n_s {c : Nat → Nat} {n s : Nat} (h : s ≤ n) : gt_n c n s ≤ n := (gt_w_s (gt_e_s h).2.1).2.1
/-- the tape and the reader, at the token that starts at s -/
def xTp (I : gb_FI) (c : Nat → Nat) (n : Nat) : Prop := n ≤ 400 ∧ I 1 1 = nI n ∧ ∀ i, i < n → c i < 256 ∧ I 2 i = nI (c i)
def xRd (I : gb_FI) (c : Nat → Nat) (n s : Nat) : Prop := xTp I c n ∧ s ≤ n ∧ I 3 2 = nI s ∧ I 3 3 = nI (gt_e c n s) ∧ I 3 4 = gt_v c n s
theorem x_isDigit {v : Nat} (hv : v < 256) (h : gb_H) : fnX7_isDigit (nI v) h = some (if 48 ≤ v ∧ v ≤ 57 then 1 else 0, h) := by
  simp only [fnX7_isDigit, fbX7_isDigit_16, fbX7_isDigit_17]
  by_cases a : v < 48
  · rw [if_pos (show nI v < 48 from nI_lt (a := v) (b := 48) a (by omega)), if_neg (by omega)]
    rfl
  · rw [if_neg (show ¬ nI v < 48 from nI_nlt (a := v) (b := 48) (by omega) (by omega))]
    by_cases b : 57 < v
    · rw [if_pos (show (57 : Int32) < nI v from nI_lt (a := 57) (b := v) b (by omega)), if_neg (by omega)]
      rfl
    · rw [if_neg (show ¬ (57 : Int32) < nI v from nI_nlt (a := 57) (b := v) (by omega) (by omega)), if_pos (by omega)]
      rfl
theorem x_isLetter {v : Nat} (hv : v < 256) (h : gb_H) : fnX7_isLetter (nI v) h = some (if 97 ≤ v ∧ v ≤ 122 then 1 else 0, h) := by
  simp only [fnX7_isLetter, fbX7_isLetter_16, fbX7_isLetter_17]
  by_cases a : v < 97
  · rw [if_pos (show nI v < 97 from nI_lt (a := v) (b := 97) a (by omega)), if_neg (by omega)]
    rfl
  · rw [if_neg (show ¬ nI v < 97 from nI_nlt (a := v) (b := 97) (by omega) (by omega))]
    by_cases b : 122 < v
    · rw [if_pos (show (122 : Int32) < nI v from nI_lt (a := 122) (b := v) b (by omega)), if_neg (by omega)]
      rfl
    · rw [if_neg (show ¬ (122 : Int32) < nI v from nI_nlt (a := 122) (b := v) (by omega) (by omega)), if_pos (by omega)]
      rfl
end LEX
