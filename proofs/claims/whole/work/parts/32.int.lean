/-! ints: a number below a bound, or not -/
def gb_rg (v : Int32) (n : Nat) : Bool := decide (¬ v < 0) && decide (v.toNatClampNeg < n)
theorem gb_rgT {v : Int32} {n : Nat} (h : gb_rg v n = true) : ∃ j, j < n ∧ j < 2 ^ 31 ∧ v = nI j := by
  simp only [gb_rg, Bool.and_eq_true, decide_eq_true_eq] at h
  obtain ⟨j, hj, rfl⟩ := nI_of h.1
  rw [nI_clamp hj] at h
  exact ⟨j, h.2, hj, rfl⟩
theorem gb_rg_nI {j n : Nat} (hj : j < 2 ^ 31) : gb_rg (nI j) n = decide (j < n) := by
  simp only [gb_rg, nI_clamp hj, nI_pos hj, not_false_eq_true, decide_true, Bool.true_and]
theorem gb_rg_neg {v : Int32} {n : Nat} (h : v < 0) : gb_rg v n = false := by simp [gb_rg, h]
theorem gb_lit (n : Nat) : (OfNat.ofNat n : Int32) = nI n := rfl
theorem gb_litL (n : Nat) : (OfNat.ofNat n : Int64) = lN n := rfl
theorem gb_rgC {β : Type} (v : Int32) (n : Nat) (hn : n < 2 ^ 31) {L : Int32} (hL : L = nI n) (A B : β) : (if v < 0 then A else if v < L then B else A) = if gb_rg v n = true then B else A := by
  subst hL
  by_cases h0 : v < 0
  · rw [if_pos h0, gb_rg_neg h0, if_neg (by decide)]
  · rw [if_neg h0]
    obtain ⟨j, hj, rfl⟩ := nI_of h0
    rw [gb_rg_nI hj]
    by_cases h1 : j < n
    · rw [if_pos (nI_lt h1 hn), if_pos (by simpa using h1)]
    · rw [if_neg (nI_nlt (by omega) hj), if_neg (by simpa using h1)]
theorem gb_rgM {β : Type} (v : Int32) (n : Nat) (hn : n + 1 < 2 ^ 31) {L : Int32} (hL : L = nI n) (A B : β) : (if v < 0 then A else if L < v then A else B) = if gb_rg v (n + 1) = true then B else A := by
  subst hL
  by_cases h0 : v < 0
  · rw [if_pos h0, gb_rg_neg h0, if_neg (by decide)]
  · rw [if_neg h0]
    obtain ⟨j, hj, rfl⟩ := nI_of h0
    rw [gb_rg_nI hj]
    by_cases h1 : j < n + 1
    · rw [if_neg (nI_nlt (by omega) (by omega)), if_pos (by simpa using h1)]
    · rw [if_pos (nI_lt (by omega) hj), if_neg (by simpa using h1)]
theorem gb_rgD {β : Type} (v : Int32) (n : Nat) (hn : n < 2 ^ 31) {L : Int32} (hL : L = nI n) (A B : β) : (if v < 0 then A else if L ≤ v then A else B) = if gb_rg v n = true then B else A := by
  subst hL
  by_cases h0 : v < 0
  · rw [if_pos h0, gb_rg_neg h0, if_neg (by decide)]
  · rw [if_neg h0]
    obtain ⟨j, hj, rfl⟩ := nI_of h0
    rw [gb_rg_nI hj]
    by_cases h1 : j < n
    · rw [if_neg (nI_ge h1 hn), if_pos (by simpa using h1)]
    · rw [if_pos (nI_le (by omega) hj), if_neg (by simpa using h1)]
theorem gb_u1 {α : Type} (f : Nat → Nat → α) (n k : Nat) (x : α) (a j : Nat) : gb_u f n k x a j = if a = n ∧ j = k then x else f a j := rfl
theorem gb_u_ne {α : Type} (f : Nat → Nat → α) {n k a j : Nat} (x : α) (h : a ≠ n) : gb_u f n k x a j = f a j := if_neg (fun q => h q.1)
theorem gb_u_nk {α : Type} (f : Nat → Nat → α) {n k a j : Nat} (x : α) (h : j ≠ k) : gb_u f n k x a j = f a j := if_neg (fun q => h q.2)
theorem gb_uu {α : Type} (f : Nat → Nat → α) (n k : Nat) (x y : α) : gb_u (gb_u f n k x) n k y = gb_u f n k y := by
  funext a j
  simp only [gb_u]
  split <;> rfl
theorem gb_u_row {α : Type} (f : Nat → Nat → α) {n k a : Nat} (x : α) (h : a ≠ n) : gb_u f n k x a = f a := by
  funext j
  exact gb_u_ne f x h
/-! families of cells -/
section FAM
variable {I : gb_FI} {J : gb_FJ}
theorem gx_ch {j : Nat} (h : j < 4) : gb_R (gb_mk I J) 23 j = some (42 + 23 * j) := by
  match j, h with
  | 0, _ => exact gr23_0
  | 1, _ => exact gr23_1
  | 2, _ => exact gr23_2
  | 3, _ => exact gr23_3
theorem gx_ly {j : Nat} (h : j < 4) : gb_R (gb_mk I J) 22 j = some (24 + 23 * j) := by
  match j, h with
  | 0, _ => exact gr22_0
  | 1, _ => exact gr22_1
  | 2, _ => exact gr22_2
  | 3, _ => exact gr22_3
theorem gx_chk {j : Nat} (h : j < 4) : gb_k (gb_mk I J) (42 + 23 * j) 1 = true := by
  match j, h with
  | 0, _ => exact gk42
  | 1, _ => exact gk65
  | 2, _ => exact gk88
  | 3, _ => exact gk111
theorem gx_lyk {j : Nat} (h : j < 4) : gb_k (gb_mk I J) (24 + 23 * j) 2 = true := by
  match j, h with
  | 0, _ => exact gk24
  | 1, _ => exact gk47
  | 2, _ => exact gk70
  | 3, _ => exact gk93
theorem gi2 {j : Nat} (h : j < 400) : gb_in (gb_mk I J) 2 (nI j) = true := gb_in_of kd2 h (by decide)
theorem gi5 {j : Nat} (h : j < 16) : gb_in (gb_mk I J) 5 (nI j) = true := gb_in_of kd5 h (by decide)
theorem gi22 {j : Nat} (h : j < 4) : gb_in (gb_mk I J) 22 (nI j) = true := gb_in_of kd22 h (by decide)
theorem gi23 {j : Nat} (h : j < 4) : gb_in (gb_mk I J) 23 (nI j) = true := gb_in_of kd23 h (by decide)
theorem gi25 {j : Nat} (h : j < 16) : gb_in (gb_mk I J) 25 (nI j) = true := gb_in_of kd25 h (by decide)
theorem gi43 {j : Nat} (h : j < 56) : gb_in (gb_mk I J) 43 (nI j) = true := gb_in_of kd43 h (by decide)
theorem gi44 {j : Nat} (h : j < 56) : gb_in (gb_mk I J) 44 (nI j) = true := gb_in_of kd44 h (by decide)
theorem gi45 {j : Nat} (h : j < 32) : gb_in (gb_mk I J) 45 (nI j) = true := gb_in_of kd45 h (by decide)
theorem gi46 {j : Nat} (h : j < 32) : gb_in (gb_mk I J) 46 (nI j) = true := gb_in_of kd46 h (by decide)
theorem gi48 {j : Nat} (h : j < 16) : gb_in (gb_mk I J) 48 (nI j) = true := gb_in_of kd48 h (by decide)
theorem gi66 {j : Nat} (h : j < 56) : gb_in (gb_mk I J) 66 (nI j) = true := gb_in_of kd66 h (by decide)
theorem gi67 {j : Nat} (h : j < 56) : gb_in (gb_mk I J) 67 (nI j) = true := gb_in_of kd67 h (by decide)
theorem gi68 {j : Nat} (h : j < 32) : gb_in (gb_mk I J) 68 (nI j) = true := gb_in_of kd68 h (by decide)
theorem gi69 {j : Nat} (h : j < 32) : gb_in (gb_mk I J) 69 (nI j) = true := gb_in_of kd69 h (by decide)
theorem gi71 {j : Nat} (h : j < 16) : gb_in (gb_mk I J) 71 (nI j) = true := gb_in_of kd71 h (by decide)
theorem gi89 {j : Nat} (h : j < 56) : gb_in (gb_mk I J) 89 (nI j) = true := gb_in_of kd89 h (by decide)
theorem gi90 {j : Nat} (h : j < 56) : gb_in (gb_mk I J) 90 (nI j) = true := gb_in_of kd90 h (by decide)
theorem gi91 {j : Nat} (h : j < 32) : gb_in (gb_mk I J) 91 (nI j) = true := gb_in_of kd91 h (by decide)
theorem gi92 {j : Nat} (h : j < 32) : gb_in (gb_mk I J) 92 (nI j) = true := gb_in_of kd92 h (by decide)
theorem gi94 {j : Nat} (h : j < 16) : gb_in (gb_mk I J) 94 (nI j) = true := gb_in_of kd94 h (by decide)
theorem gi112 {j : Nat} (h : j < 56) : gb_in (gb_mk I J) 112 (nI j) = true := gb_in_of kd112 h (by decide)
theorem gi113 {j : Nat} (h : j < 56) : gb_in (gb_mk I J) 113 (nI j) = true := gb_in_of kd113 h (by decide)
theorem gi114 {j : Nat} (h : j < 32) : gb_in (gb_mk I J) 114 (nI j) = true := gb_in_of kd114 h (by decide)
theorem gi115 {j : Nat} (h : j < 32) : gb_in (gb_mk I J) 115 (nI j) = true := gb_in_of kd115 h (by decide)
theorem gi117 {j : Nat} (h : j < 8) : gb_in (gb_mk I J) 117 (nI j) = true := gb_in_of kd117 h (by decide)
theorem gi127 {j : Nat} (h : j < 200) : gb_in (gb_mk I J) 127 (nI j) = true := gb_in_of kd127 h (by decide)
theorem gi128 {j : Nat} (h : j < 200) : gb_in (gb_mk I J) 128 (nI j) = true := gb_in_of kd128 h (by decide)
theorem gi129 {j : Nat} (h : j < 200) : gb_in (gb_mk I J) 129 (nI j) = true := gb_in_of kd129 h (by decide)
theorem gi130 {j : Nat} (h : j < 32) : gb_in (gb_mk I J) 130 (nI j) = true := gb_in_of kd130 h (by decide)
theorem gi131 {j : Nat} (h : j < 4) : gb_in (gb_mk I J) 131 (nI j) = true := gb_in_of kd131 h (by decide)
theorem gi132 {j : Nat} (h : j < 4) : gb_in (gb_mk I J) 132 (nI j) = true := gb_in_of kd132 h (by decide)
theorem gi134 {j : Nat} (h : j < 17) : gb_in (gb_mk I J) 134 (nI j) = true := gb_in_of kd134 h (by decide)
theorem gi135 {j : Nat} (h : j < 34) : gb_in (gb_mk I J) 135 (nI j) = true := gb_in_of kd135 h (by decide)
theorem gi136 {j : Nat} (h : j < 34) : gb_in (gb_mk I J) 136 (nI j) = true := gb_in_of kd136 h (by decide)
theorem gi137 {j : Nat} (h : j < 34) : gb_in (gb_mk I J) 137 (nI j) = true := gb_in_of kd137 h (by decide)
theorem gi138 {j : Nat} (h : j < 34) : gb_in (gb_mk I J) 138 (nI j) = true := gb_in_of kd138 h (by decide)
theorem gi140 {j : Nat} (h : j < 8) : gb_in (gb_mk I J) 140 (nI j) = true := gb_in_of kd140 h (by decide)
theorem gi141 {j : Nat} (h : j < 4) : gb_in (gb_mk I J) 141 (nI j) = true := gb_in_of kd141 h (by decide)
theorem gi142 {j : Nat} (h : j < 4) : gb_in (gb_mk I J) 142 (nI j) = true := gb_in_of kd142 h (by decide)
theorem gi143 {j : Nat} (h : j < 4) : gb_in (gb_mk I J) 143 (nI j) = true := gb_in_of kd143 h (by decide)
theorem gi144 {j : Nat} (h : j < 4) : gb_in (gb_mk I J) 144 (nI j) = true := gb_in_of kd144 h (by decide)
theorem gi145 {j : Nat} (h : j < 3) : gb_in (gb_mk I J) 145 (nI j) = true := gb_in_of kd145 h (by decide)
theorem gi149 {j : Nat} (h : j < 17) : gb_in (gb_mk I J) 149 (nI j) = true := gb_in_of kd149 h (by decide)
theorem gi150 {j : Nat} (h : j < 34) : gb_in (gb_mk I J) 150 (nI j) = true := gb_in_of kd150 h (by decide)
theorem gi151 {j : Nat} (h : j < 34) : gb_in (gb_mk I J) 151 (nI j) = true := gb_in_of kd151 h (by decide)
theorem gi152 {j : Nat} (h : j < 34) : gb_in (gb_mk I J) 152 (nI j) = true := gb_in_of kd152 h (by decide)
theorem gi153 {j : Nat} (h : j < 34) : gb_in (gb_mk I J) 153 (nI j) = true := gb_in_of kd153 h (by decide)
theorem gi155 {j : Nat} (h : j < 17) : gb_in (gb_mk I J) 155 (nI j) = true := gb_in_of kd155 h (by decide)
theorem gi156 {j : Nat} (h : j < 34) : gb_in (gb_mk I J) 156 (nI j) = true := gb_in_of kd156 h (by decide)
theorem gi157 {j : Nat} (h : j < 34) : gb_in (gb_mk I J) 157 (nI j) = true := gb_in_of kd157 h (by decide)
theorem gi158 {j : Nat} (h : j < 34) : gb_in (gb_mk I J) 158 (nI j) = true := gb_in_of kd158 h (by decide)
theorem gi159 {j : Nat} (h : j < 34) : gb_in (gb_mk I J) 159 (nI j) = true := gb_in_of kd159 h (by decide)
theorem gi161 {j : Nat} (h : j < 17) : gb_in (gb_mk I J) 161 (nI j) = true := gb_in_of kd161 h (by decide)
theorem gi162 {j : Nat} (h : j < 34) : gb_in (gb_mk I J) 162 (nI j) = true := gb_in_of kd162 h (by decide)
theorem gi163 {j : Nat} (h : j < 34) : gb_in (gb_mk I J) 163 (nI j) = true := gb_in_of kd163 h (by decide)
theorem gi164 {j : Nat} (h : j < 34) : gb_in (gb_mk I J) 164 (nI j) = true := gb_in_of kd164 h (by decide)
theorem gi165 {j : Nat} (h : j < 34) : gb_in (gb_mk I J) 165 (nI j) = true := gb_in_of kd165 h (by decide)
theorem gi167 {j : Nat} (h : j < 17) : gb_in (gb_mk I J) 167 (nI j) = true := gb_in_of kd167 h (by decide)
theorem gi168 {j : Nat} (h : j < 34) : gb_in (gb_mk I J) 168 (nI j) = true := gb_in_of kd168 h (by decide)
theorem gi169 {j : Nat} (h : j < 34) : gb_in (gb_mk I J) 169 (nI j) = true := gb_in_of kd169 h (by decide)
theorem gi170 {j : Nat} (h : j < 34) : gb_in (gb_mk I J) 170 (nI j) = true := gb_in_of kd170 h (by decide)
theorem gi171 {j : Nat} (h : j < 34) : gb_in (gb_mk I J) 171 (nI j) = true := gb_in_of kd171 h (by decide)
theorem gi173 {j : Nat} (h : j < 17) : gb_in (gb_mk I J) 173 (nI j) = true := gb_in_of kd173 h (by decide)
theorem gi174 {j : Nat} (h : j < 34) : gb_in (gb_mk I J) 174 (nI j) = true := gb_in_of kd174 h (by decide)
theorem gi175 {j : Nat} (h : j < 34) : gb_in (gb_mk I J) 175 (nI j) = true := gb_in_of kd175 h (by decide)
theorem gi176 {j : Nat} (h : j < 34) : gb_in (gb_mk I J) 176 (nI j) = true := gb_in_of kd176 h (by decide)
theorem gi177 {j : Nat} (h : j < 34) : gb_in (gb_mk I J) 177 (nI j) = true := gb_in_of kd177 h (by decide)
theorem gi179 {j : Nat} (h : j < 17) : gb_in (gb_mk I J) 179 (nI j) = true := gb_in_of kd179 h (by decide)
theorem gi180 {j : Nat} (h : j < 34) : gb_in (gb_mk I J) 180 (nI j) = true := gb_in_of kd180 h (by decide)
theorem gi181 {j : Nat} (h : j < 34) : gb_in (gb_mk I J) 181 (nI j) = true := gb_in_of kd181 h (by decide)
theorem gi182 {j : Nat} (h : j < 34) : gb_in (gb_mk I J) 182 (nI j) = true := gb_in_of kd182 h (by decide)
theorem gi183 {j : Nat} (h : j < 34) : gb_in (gb_mk I J) 183 (nI j) = true := gb_in_of kd183 h (by decide)
theorem gi185 {j : Nat} (h : j < 17) : gb_in (gb_mk I J) 185 (nI j) = true := gb_in_of kd185 h (by decide)
theorem gi186 {j : Nat} (h : j < 34) : gb_in (gb_mk I J) 186 (nI j) = true := gb_in_of kd186 h (by decide)
theorem gi187 {j : Nat} (h : j < 34) : gb_in (gb_mk I J) 187 (nI j) = true := gb_in_of kd187 h (by decide)
theorem gi188 {j : Nat} (h : j < 34) : gb_in (gb_mk I J) 188 (nI j) = true := gb_in_of kd188 h (by decide)
theorem gi189 {j : Nat} (h : j < 34) : gb_in (gb_mk I J) 189 (nI j) = true := gb_in_of kd189 h (by decide)
theorem gi191 {j : Nat} (h : j < 17) : gb_in (gb_mk I J) 191 (nI j) = true := gb_in_of kd191 h (by decide)
theorem gi192 {j : Nat} (h : j < 34) : gb_in (gb_mk I J) 192 (nI j) = true := gb_in_of kd192 h (by decide)
theorem gi193 {j : Nat} (h : j < 34) : gb_in (gb_mk I J) 193 (nI j) = true := gb_in_of kd193 h (by decide)
theorem gi194 {j : Nat} (h : j < 34) : gb_in (gb_mk I J) 194 (nI j) = true := gb_in_of kd194 h (by decide)
theorem gi195 {j : Nat} (h : j < 34) : gb_in (gb_mk I J) 195 (nI j) = true := gb_in_of kd195 h (by decide)
theorem gi197 {j : Nat} (h : j < 286) : gb_in (gb_mk I J) 197 (nI j) = true := gb_in_of kd197 h (by decide)
theorem gi198 {j : Nat} (h : j < 286) : gb_in (gb_mk I J) 198 (nI j) = true := gb_in_of kd198 h (by decide)
theorem gi199 {j : Nat} (h : j < 286) : gb_in (gb_mk I J) 199 (nI j) = true := gb_in_of kd199 h (by decide)
theorem gi200 {j : Nat} (h : j < 286) : gb_in (gb_mk I J) 200 (nI j) = true := gb_in_of kd200 h (by decide)
theorem gi201 {j : Nat} (h : j < 286) : gb_in (gb_mk I J) 201 (nI j) = true := gb_in_of kd201 h (by decide)
theorem gi202 {j : Nat} (h : j < 286) : gb_in (gb_mk I J) 202 (nI j) = true := gb_in_of kd202 h (by decide)
theorem gi204 {j : Nat} (h : j < 286) : gb_in (gb_mk I J) 204 (nI j) = true := gb_in_of kd204 h (by decide)
theorem gi205 {j : Nat} (h : j < 286) : gb_in (gb_mk I J) 205 (nI j) = true := gb_in_of kd205 h (by decide)
theorem gi206 {j : Nat} (h : j < 286) : gb_in (gb_mk I J) 206 (nI j) = true := gb_in_of kd206 h (by decide)
theorem gi207 {j : Nat} (h : j < 286) : gb_in (gb_mk I J) 207 (nI j) = true := gb_in_of kd207 h (by decide)
theorem gi208 {j : Nat} (h : j < 286) : gb_in (gb_mk I J) 208 (nI j) = true := gb_in_of kd208 h (by decide)
theorem gi209 {j : Nat} (h : j < 286) : gb_in (gb_mk I J) 209 (nI j) = true := gb_in_of kd209 h (by decide)
theorem gi211 {j : Nat} (h : j < 286) : gb_in (gb_mk I J) 211 (nI j) = true := gb_in_of kd211 h (by decide)
theorem gi212 {j : Nat} (h : j < 286) : gb_in (gb_mk I J) 212 (nI j) = true := gb_in_of kd212 h (by decide)
theorem gi213 {j : Nat} (h : j < 286) : gb_in (gb_mk I J) 213 (nI j) = true := gb_in_of kd213 h (by decide)
theorem gi214 {j : Nat} (h : j < 286) : gb_in (gb_mk I J) 214 (nI j) = true := gb_in_of kd214 h (by decide)
theorem gi215 {j : Nat} (h : j < 286) : gb_in (gb_mk I J) 215 (nI j) = true := gb_in_of kd215 h (by decide)
theorem gi216 {j : Nat} (h : j < 286) : gb_in (gb_mk I J) 216 (nI j) = true := gb_in_of kd216 h (by decide)
theorem gi218 {j : Nat} (h : j < 286) : gb_in (gb_mk I J) 218 (nI j) = true := gb_in_of kd218 h (by decide)
theorem gi219 {j : Nat} (h : j < 286) : gb_in (gb_mk I J) 219 (nI j) = true := gb_in_of kd219 h (by decide)
theorem gi220 {j : Nat} (h : j < 286) : gb_in (gb_mk I J) 220 (nI j) = true := gb_in_of kd220 h (by decide)
theorem gi221 {j : Nat} (h : j < 286) : gb_in (gb_mk I J) 221 (nI j) = true := gb_in_of kd221 h (by decide)
theorem gi222 {j : Nat} (h : j < 286) : gb_in (gb_mk I J) 222 (nI j) = true := gb_in_of kd222 h (by decide)
theorem gi223 {j : Nat} (h : j < 286) : gb_in (gb_mk I J) 223 (nI j) = true := gb_in_of kd223 h (by decide)
theorem gi225 {j : Nat} (h : j < 969) : gb_in (gb_mk I J) 225 (nI j) = true := gb_in_of kd225 h (by decide)
theorem gi226 {j : Nat} (h : j < 969) : gb_in (gb_mk I J) 226 (nI j) = true := gb_in_of kd226 h (by decide)
theorem gi227 {j : Nat} (h : j < 969) : gb_in (gb_mk I J) 227 (nI j) = true := gb_in_of kd227 h (by decide)
theorem gi228 {j : Nat} (h : j < 969) : gb_in (gb_mk I J) 228 (nI j) = true := gb_in_of kd228 h (by decide)
theorem gi229 {j : Nat} (h : j < 969) : gb_in (gb_mk I J) 229 (nI j) = true := gb_in_of kd229 h (by decide)
theorem gi230 {j : Nat} (h : j < 969) : gb_in (gb_mk I J) 230 (nI j) = true := gb_in_of kd230 h (by decide)
theorem gi232 {j : Nat} (h : j < 969) : gb_in (gb_mk I J) 232 (nI j) = true := gb_in_of kd232 h (by decide)
theorem gi233 {j : Nat} (h : j < 969) : gb_in (gb_mk I J) 233 (nI j) = true := gb_in_of kd233 h (by decide)
theorem gi234 {j : Nat} (h : j < 969) : gb_in (gb_mk I J) 234 (nI j) = true := gb_in_of kd234 h (by decide)
theorem gi235 {j : Nat} (h : j < 969) : gb_in (gb_mk I J) 235 (nI j) = true := gb_in_of kd235 h (by decide)
theorem gi236 {j : Nat} (h : j < 969) : gb_in (gb_mk I J) 236 (nI j) = true := gb_in_of kd236 h (by decide)
theorem gi237 {j : Nat} (h : j < 969) : gb_in (gb_mk I J) 237 (nI j) = true := gb_in_of kd237 h (by decide)
theorem gi239 {j : Nat} (h : j < 3) : gb_in (gb_mk I J) 239 (nI j) = true := gb_in_of kd239 h (by decide)
theorem gi240 {j : Nat} (h : j < 5) : gb_in (gb_mk I J) 240 (nI j) = true := gb_in_of kd240 h (by decide)
theorem gi242 {j : Nat} (h : j < 3) : gb_in (gb_mk I J) 242 (nI j) = true := gb_in_of kd242 h (by decide)
theorem gi243 {j : Nat} (h : j < 512) : gb_in (gb_mk I J) 243 (nI j) = true := gb_in_of kd243 h (by decide)
theorem gi244 {j : Nat} (h : j < 4) : gb_in (gb_mk I J) 244 (nI j) = true := gb_in_of kd244 h (by decide)
theorem gi245 {j : Nat} (h : j < 64) : gb_in (gb_mk I J) 245 (nI j) = true := gb_in_of kd245 h (by decide)
theorem gi246 {j : Nat} (h : j < 128) : gb_in (gb_mk I J) 246 (nI j) = true := gb_in_of kd246 h (by decide)
theorem gi247 {j : Nat} (h : j < 5) : gb_in (gb_mk I J) 247 (nI j) = true := gb_in_of kd247 h (by decide)
theorem gi248 {j : Nat} (h : j < 400) : gb_in (gb_mk I J) 248 (nI j) = true := gb_in_of kd248 h (by decide)
theorem gi249 {j : Nat} (h : j < 400) : gb_in (gb_mk I J) 249 (nI j) = true := gb_in_of kd249 h (by decide)
theorem gi250 {j : Nat} (h : j < 5) : gb_in (gb_mk I J) 250 (nI j) = true := gb_in_of kd250 h (by decide)
theorem gi251 {j : Nat} (h : j < 16384) : gb_in (gb_mk I J) 251 (nI j) = true := gb_in_of kd251 h (by decide)
theorem gi252 {j : Nat} (h : j < 16384) : gb_in (gb_mk I J) 252 (nI j) = true := gb_in_of kd252 h (by decide)
theorem gi253 {j : Nat} (h : j < 16384) : gb_in (gb_mk I J) 253 (nI j) = true := gb_in_of kd253 h (by decide)
theorem gi254 {j : Nat} (h : j < 4) : gb_in (gb_mk I J) 254 (nI j) = true := gb_in_of kd254 h (by decide)
theorem gi255 {j : Nat} (h : j < 4) : gb_in (gb_mk I J) 255 (nI j) = true := gb_in_of kd255 h (by decide)
theorem gi256 {j : Nat} (h : j < 1024) : gb_in (gb_mk I J) 256 (nI j) = true := gb_in_of kd256 h (by decide)
theorem gi257 {j : Nat} (h : j < 1024) : gb_in (gb_mk I J) 257 (nI j) = true := gb_in_of kd257 h (by decide)
theorem gi258 {j : Nat} (h : j < 4) : gb_in (gb_mk I J) 258 (nI j) = true := gb_in_of kd258 h (by decide)
theorem gi259 {j : Nat} (h : j < 6) : gb_in (gb_mk I J) 259 (nI j) = true := gb_in_of kd259 h (by decide)
theorem gi260 {j : Nat} (h : j < 5) : gb_in (gb_mk I J) 260 (nI j) = true := gb_in_of kd260 h (by decide)
theorem gi261 {j : Nat} (h : j < 200) : gb_in (gb_mk I J) 261 (nI j) = true := gb_in_of kd261 h (by decide)
theorem gi262 {j : Nat} (h : j < 200) : gb_in (gb_mk I J) 262 (nI j) = true := gb_in_of kd262 h (by decide)
theorem gi263 {j : Nat} (h : j < 200) : gb_in (gb_mk I J) 263 (nI j) = true := gb_in_of kd263 h (by decide)
theorem gi264 {j : Nat} (h : j < 24) : gb_in (gb_mk I J) 264 (nI j) = true := gb_in_of kd264 h (by decide)
theorem gi265 {j : Nat} (h : j < 3) : gb_in (gb_mk I J) 265 (nI j) = true := gb_in_of kd265 h (by decide)
theorem gi266 {j : Nat} (h : j < 3) : gb_in (gb_mk I J) 266 (nI j) = true := gb_in_of kd266 h (by decide)
theorem gi267 {j : Nat} (h : j < 24) : gb_in (gb_mk I J) 267 (nI j) = true := gb_in_of kd267 h (by decide)
theorem gi268 {j : Nat} (h : j < 3) : gb_in (gb_mk I J) 268 (nI j) = true := gb_in_of kd268 h (by decide)
end FAM
