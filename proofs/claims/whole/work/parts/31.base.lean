abbrev gb_FI : Type := Nat → Nat → Int32
abbrev gb_FJ : Type := Nat → Nat → Int64
/-- every store behind the constructors -/
noncomputable def gb_mk (I : gb_FI) (J : gb_FJ) : gb_H := (gb_cn gb_H1, gb_sl gb_H1, gb_kd gb_H1, I, J, gb_R gb_H1)
section MK
variable {I : gb_FI} {J : gb_FJ}
theorem gb_cn_mk : gb_cn (gb_mk I J) = gb_cn gb_H1 := rfl
theorem gb_sl_mk : gb_sl (gb_mk I J) = gb_sl gb_H1 := rfl
theorem gb_kd_mk : gb_kd (gb_mk I J) = gb_kd gb_H1 := rfl
theorem gb_R_mk : gb_R (gb_mk I J) = gb_R gb_H1 := rfl
theorem gb_I_mk : gb_I (gb_mk I J) = I := rfl
theorem gb_L_mk : gb_L (gb_mk I J) = J := rfl
theorem gb_sI_mk (n k : Nat) (v : Int32) : gb_sI (gb_mk I J) n k v = gb_mk (gb_u I n k v) J := rfl
theorem gb_sL_mk (n k : Nat) (v : Int64) : gb_sL (gb_mk I J) n k v = gb_mk I (gb_u J n k v) := rfl
theorem gb_lt_d {α β : Type} (e : α) (f : α → Option β) : gb_lt e f = f e := rfl
theorem gb_gd_t {β : Type} (A : Option β) : gb_gd true A = A := rfl
theorem gb_rd_s {β : Type} (a : Nat) (f : Nat → Option β) : gb_rd (some a) f = f a := rfl
theorem gb_bd_s {α β : Type} (v : α) (h : gb_H) (f : α → gb_H → Option β) : gb_bd (some (v, h)) f = f v h := rfl
theorem gb_in_k {h : gb_H} {a j n : Nat} (hk : (gb_kd h a).2 = n) (hj : j < n) (hn : n < 2 ^ 31) : gb_in h a (nI j) = true := by
  simp only [gb_in, hk, nI_clamp (Nat.lt_trans hj hn), Bool.and_eq_true, decide_eq_true_eq]
  exact ⟨nI_pos (Nat.lt_trans hj hn), hj⟩
theorem gb_k_of {n c l : Nat} (h : gb_kd gb_H1 n = (c, l)) : gb_k (gb_mk I J) n c = true := by
  simp [gb_k, gb_kd_mk, h]
theorem gb_in_of {n c l j : Nat} (h : gb_kd gb_H1 n = (c, l)) (hj : j < l) (hl : l < 2 ^ 31) : gb_in (gb_mk I J) n (nI j) = true := gb_in_k (by rw [gb_kd_mk, h]) hj hl
theorem gb_nz_2 : gb_nz 2 = true := by decide
theorem gb_nz_of {y : Int32} (h : ¬ y = 0) : gb_nz y = true := by simp [gb_nz, h]
theorem gb_nzL_of {y : Int64} (h : ¬ y = 0) : gb_nzL y = true := by simp [gb_nzL, h]
theorem gb_b_0 : gb_b 0 = true := by decide
theorem gb_b_1 : gb_b 1 = true := by decide
end MK
/-- a loop that takes n turns, then ends; st i is what it holds at the head before turn i -/
theorem gb_for {σ β : Type} {body : (σ → Option β) → σ → Option β} {out : Option β} (st : Nat → σ) (n : Nat) : ∀ (m i : Nat), (∀ j, i ≤ j → j < i + n → ∀ k, body k (st j) = k (st (j + 1))) → (∀ k, body k (st (i + n)) = out) → gb_lp body (n + 1 + m) (st i) = out := by
  induction n with
  | zero =>
    intro m i _ he
    rw [show 0 + 1 + m = m + 1 by omega]
    show body (gb_lp body m) (st i) = out
    exact he _
  | succ n ih =>
    intro m i hs he
    rw [show n + 1 + 1 + m = (n + 1 + m) + 1 by omega]
    show body (gb_lp body (n + 1 + m)) (st i) = out
    rw [hs i (Nat.le_refl i) (by omega)]
    exact ih m (i + 1) (fun j h1 h2 => hs j (by omega) (by omega)) (by rw [show i + 1 + n = i + (n + 1) by omega]; exact he)
theorem gb_forF {σ β : Type} {body : (σ → Option β) → σ → Option β} {out : Option β} (st : Nat → σ) (n : Nat) (hn : n < 1000000) (hs : ∀ j, j < n → ∀ k, body k (st j) = k (st (j + 1))) (he : ∀ k, body k (st n) = out) : gb_lp body gb_FU (st 0) = out := by
  rw [show gb_FU = n + 1 + (1000000 - n - 1) by show 1000000 = _; omega]
  exact gb_for st n _ 0 (fun j _ h => hs j (by omega)) (by rw [Nat.zero_add]; exact he)
theorem kd0 : gb_kd gb_H1 0 = (10, 0) := gb_H1_kd 0 (by decide)
theorem kd1 : gb_kd gb_H1 1 = (9, 0) := gb_H1_kd 1 (by decide)
theorem kd2 : gb_kd gb_H1 2 = (20, 400) := gb_H1_kd 2 (by decide)
theorem kd3 : gb_kd gb_H1 3 = (7, 0) := gb_H1_kd 3 (by decide)
theorem kd4 : gb_kd gb_H1 4 = (2, 0) := gb_H1_kd 4 (by decide)
theorem kd5 : gb_kd gb_H1 5 = (35, 16) := gb_H1_kd 5 (by decide)
theorem kd6 : gb_kd gb_H1 6 = (5, 0) := gb_H1_kd 6 (by decide)
theorem kd7 : gb_kd gb_H1 7 = (5, 0) := gb_H1_kd 7 (by decide)
theorem kd8 : gb_kd gb_H1 8 = (5, 0) := gb_H1_kd 8 (by decide)
theorem kd9 : gb_kd gb_H1 9 = (5, 0) := gb_H1_kd 9 (by decide)
theorem kd10 : gb_kd gb_H1 10 = (5, 0) := gb_H1_kd 10 (by decide)
theorem kd11 : gb_kd gb_H1 11 = (5, 0) := gb_H1_kd 11 (by decide)
theorem kd12 : gb_kd gb_H1 12 = (5, 0) := gb_H1_kd 12 (by decide)
theorem kd13 : gb_kd gb_H1 13 = (5, 0) := gb_H1_kd 13 (by decide)
theorem kd14 : gb_kd gb_H1 14 = (5, 0) := gb_H1_kd 14 (by decide)
theorem kd15 : gb_kd gb_H1 15 = (5, 0) := gb_H1_kd 15 (by decide)
theorem kd16 : gb_kd gb_H1 16 = (5, 0) := gb_H1_kd 16 (by decide)
theorem kd17 : gb_kd gb_H1 17 = (5, 0) := gb_H1_kd 17 (by decide)
theorem kd18 : gb_kd gb_H1 18 = (5, 0) := gb_H1_kd 18 (by decide)
theorem kd19 : gb_kd gb_H1 19 = (5, 0) := gb_H1_kd 19 (by decide)
theorem kd20 : gb_kd gb_H1 20 = (5, 0) := gb_H1_kd 20 (by decide)
theorem kd21 : gb_kd gb_H1 21 = (5, 0) := gb_H1_kd 21 (by decide)
theorem kd22 : gb_kd gb_H1 22 = (32, 4) := gb_H1_kd 22 (by decide)
theorem kd23 : gb_kd gb_H1 23 = (31, 4) := gb_H1_kd 23 (by decide)
theorem kd24 : gb_kd gb_H1 24 = (2, 0) := gb_H1_kd 24 (by decide)
theorem kd25 : gb_kd gb_H1 25 = (35, 16) := gb_H1_kd 25 (by decide)
theorem kd26 : gb_kd gb_H1 26 = (5, 0) := gb_H1_kd 26 (by decide)
theorem kd27 : gb_kd gb_H1 27 = (5, 0) := gb_H1_kd 27 (by decide)
theorem kd28 : gb_kd gb_H1 28 = (5, 0) := gb_H1_kd 28 (by decide)
theorem kd29 : gb_kd gb_H1 29 = (5, 0) := gb_H1_kd 29 (by decide)
theorem kd30 : gb_kd gb_H1 30 = (5, 0) := gb_H1_kd 30 (by decide)
theorem kd31 : gb_kd gb_H1 31 = (5, 0) := gb_H1_kd 31 (by decide)
theorem kd32 : gb_kd gb_H1 32 = (5, 0) := gb_H1_kd 32 (by decide)
theorem kd33 : gb_kd gb_H1 33 = (5, 0) := gb_H1_kd 33 (by decide)
theorem kd34 : gb_kd gb_H1 34 = (5, 0) := gb_H1_kd 34 (by decide)
theorem kd35 : gb_kd gb_H1 35 = (5, 0) := gb_H1_kd 35 (by decide)
theorem kd36 : gb_kd gb_H1 36 = (5, 0) := gb_H1_kd 36 (by decide)
theorem kd37 : gb_kd gb_H1 37 = (5, 0) := gb_H1_kd 37 (by decide)
theorem kd38 : gb_kd gb_H1 38 = (5, 0) := gb_H1_kd 38 (by decide)
theorem kd39 : gb_kd gb_H1 39 = (5, 0) := gb_H1_kd 39 (by decide)
theorem kd40 : gb_kd gb_H1 40 = (5, 0) := gb_H1_kd 40 (by decide)
theorem kd41 : gb_kd gb_H1 41 = (5, 0) := gb_H1_kd 41 (by decide)
theorem kd42 : gb_kd gb_H1 42 = (1, 0) := gb_H1_kd 42 (by decide)
theorem kd43 : gb_kd gb_H1 43 = (23, 56) := gb_H1_kd 43 (by decide)
theorem kd44 : gb_kd gb_H1 44 = (23, 56) := gb_H1_kd 44 (by decide)
theorem kd45 : gb_kd gb_H1 45 = (23, 32) := gb_H1_kd 45 (by decide)
theorem kd46 : gb_kd gb_H1 46 = (23, 32) := gb_H1_kd 46 (by decide)
theorem kd47 : gb_kd gb_H1 47 = (2, 0) := gb_H1_kd 47 (by decide)
theorem kd48 : gb_kd gb_H1 48 = (35, 16) := gb_H1_kd 48 (by decide)
theorem kd49 : gb_kd gb_H1 49 = (5, 0) := gb_H1_kd 49 (by decide)
theorem kd50 : gb_kd gb_H1 50 = (5, 0) := gb_H1_kd 50 (by decide)
theorem kd51 : gb_kd gb_H1 51 = (5, 0) := gb_H1_kd 51 (by decide)
theorem kd52 : gb_kd gb_H1 52 = (5, 0) := gb_H1_kd 52 (by decide)
theorem kd53 : gb_kd gb_H1 53 = (5, 0) := gb_H1_kd 53 (by decide)
theorem kd54 : gb_kd gb_H1 54 = (5, 0) := gb_H1_kd 54 (by decide)
theorem kd55 : gb_kd gb_H1 55 = (5, 0) := gb_H1_kd 55 (by decide)
theorem kd56 : gb_kd gb_H1 56 = (5, 0) := gb_H1_kd 56 (by decide)
theorem kd57 : gb_kd gb_H1 57 = (5, 0) := gb_H1_kd 57 (by decide)
theorem kd58 : gb_kd gb_H1 58 = (5, 0) := gb_H1_kd 58 (by decide)
theorem kd59 : gb_kd gb_H1 59 = (5, 0) := gb_H1_kd 59 (by decide)
theorem kd60 : gb_kd gb_H1 60 = (5, 0) := gb_H1_kd 60 (by decide)
theorem kd61 : gb_kd gb_H1 61 = (5, 0) := gb_H1_kd 61 (by decide)
theorem kd62 : gb_kd gb_H1 62 = (5, 0) := gb_H1_kd 62 (by decide)
theorem kd63 : gb_kd gb_H1 63 = (5, 0) := gb_H1_kd 63 (by decide)
theorem kd64 : gb_kd gb_H1 64 = (5, 0) := gb_H1_kd 64 (by decide)
theorem kd65 : gb_kd gb_H1 65 = (1, 0) := gb_H1_kd 65 (by decide)
theorem kd66 : gb_kd gb_H1 66 = (23, 56) := gb_H1_kd 66 (by decide)
theorem kd67 : gb_kd gb_H1 67 = (23, 56) := gb_H1_kd 67 (by decide)
theorem kd68 : gb_kd gb_H1 68 = (23, 32) := gb_H1_kd 68 (by decide)
theorem kd69 : gb_kd gb_H1 69 = (23, 32) := gb_H1_kd 69 (by decide)
theorem kd70 : gb_kd gb_H1 70 = (2, 0) := gb_H1_kd 70 (by decide)
theorem kd71 : gb_kd gb_H1 71 = (35, 16) := gb_H1_kd 71 (by decide)
theorem kd72 : gb_kd gb_H1 72 = (5, 0) := gb_H1_kd 72 (by decide)
theorem kd73 : gb_kd gb_H1 73 = (5, 0) := gb_H1_kd 73 (by decide)
theorem kd74 : gb_kd gb_H1 74 = (5, 0) := gb_H1_kd 74 (by decide)
theorem kd75 : gb_kd gb_H1 75 = (5, 0) := gb_H1_kd 75 (by decide)
theorem kd76 : gb_kd gb_H1 76 = (5, 0) := gb_H1_kd 76 (by decide)
theorem kd77 : gb_kd gb_H1 77 = (5, 0) := gb_H1_kd 77 (by decide)
theorem kd78 : gb_kd gb_H1 78 = (5, 0) := gb_H1_kd 78 (by decide)
theorem kd79 : gb_kd gb_H1 79 = (5, 0) := gb_H1_kd 79 (by decide)
theorem kd80 : gb_kd gb_H1 80 = (5, 0) := gb_H1_kd 80 (by decide)
theorem kd81 : gb_kd gb_H1 81 = (5, 0) := gb_H1_kd 81 (by decide)
theorem kd82 : gb_kd gb_H1 82 = (5, 0) := gb_H1_kd 82 (by decide)
theorem kd83 : gb_kd gb_H1 83 = (5, 0) := gb_H1_kd 83 (by decide)
theorem kd84 : gb_kd gb_H1 84 = (5, 0) := gb_H1_kd 84 (by decide)
theorem kd85 : gb_kd gb_H1 85 = (5, 0) := gb_H1_kd 85 (by decide)
theorem kd86 : gb_kd gb_H1 86 = (5, 0) := gb_H1_kd 86 (by decide)
theorem kd87 : gb_kd gb_H1 87 = (5, 0) := gb_H1_kd 87 (by decide)
theorem kd88 : gb_kd gb_H1 88 = (1, 0) := gb_H1_kd 88 (by decide)
theorem kd89 : gb_kd gb_H1 89 = (23, 56) := gb_H1_kd 89 (by decide)
theorem kd90 : gb_kd gb_H1 90 = (23, 56) := gb_H1_kd 90 (by decide)
theorem kd91 : gb_kd gb_H1 91 = (23, 32) := gb_H1_kd 91 (by decide)
theorem kd92 : gb_kd gb_H1 92 = (23, 32) := gb_H1_kd 92 (by decide)
theorem kd93 : gb_kd gb_H1 93 = (2, 0) := gb_H1_kd 93 (by decide)
theorem kd94 : gb_kd gb_H1 94 = (35, 16) := gb_H1_kd 94 (by decide)
theorem kd95 : gb_kd gb_H1 95 = (5, 0) := gb_H1_kd 95 (by decide)
theorem kd96 : gb_kd gb_H1 96 = (5, 0) := gb_H1_kd 96 (by decide)
theorem kd97 : gb_kd gb_H1 97 = (5, 0) := gb_H1_kd 97 (by decide)
theorem kd98 : gb_kd gb_H1 98 = (5, 0) := gb_H1_kd 98 (by decide)
theorem kd99 : gb_kd gb_H1 99 = (5, 0) := gb_H1_kd 99 (by decide)
theorem kd100 : gb_kd gb_H1 100 = (5, 0) := gb_H1_kd 100 (by decide)
theorem kd101 : gb_kd gb_H1 101 = (5, 0) := gb_H1_kd 101 (by decide)
theorem kd102 : gb_kd gb_H1 102 = (5, 0) := gb_H1_kd 102 (by decide)
theorem kd103 : gb_kd gb_H1 103 = (5, 0) := gb_H1_kd 103 (by decide)
theorem kd104 : gb_kd gb_H1 104 = (5, 0) := gb_H1_kd 104 (by decide)
theorem kd105 : gb_kd gb_H1 105 = (5, 0) := gb_H1_kd 105 (by decide)
theorem kd106 : gb_kd gb_H1 106 = (5, 0) := gb_H1_kd 106 (by decide)
theorem kd107 : gb_kd gb_H1 107 = (5, 0) := gb_H1_kd 107 (by decide)
theorem kd108 : gb_kd gb_H1 108 = (5, 0) := gb_H1_kd 108 (by decide)
theorem kd109 : gb_kd gb_H1 109 = (5, 0) := gb_H1_kd 109 (by decide)
theorem kd110 : gb_kd gb_H1 110 = (5, 0) := gb_H1_kd 110 (by decide)
theorem kd111 : gb_kd gb_H1 111 = (1, 0) := gb_H1_kd 111 (by decide)
theorem kd112 : gb_kd gb_H1 112 = (23, 56) := gb_H1_kd 112 (by decide)
theorem kd113 : gb_kd gb_H1 113 = (23, 56) := gb_H1_kd 113 (by decide)
theorem kd114 : gb_kd gb_H1 114 = (23, 32) := gb_H1_kd 114 (by decide)
theorem kd115 : gb_kd gb_H1 115 = (23, 32) := gb_H1_kd 115 (by decide)
theorem kd116 : gb_kd gb_H1 116 = (2, 0) := gb_H1_kd 116 (by decide)
theorem kd117 : gb_kd gb_H1 117 = (35, 8) := gb_H1_kd 117 (by decide)
theorem kd118 : gb_kd gb_H1 118 = (5, 0) := gb_H1_kd 118 (by decide)
theorem kd119 : gb_kd gb_H1 119 = (5, 0) := gb_H1_kd 119 (by decide)
theorem kd120 : gb_kd gb_H1 120 = (5, 0) := gb_H1_kd 120 (by decide)
theorem kd121 : gb_kd gb_H1 121 = (5, 0) := gb_H1_kd 121 (by decide)
theorem kd122 : gb_kd gb_H1 122 = (5, 0) := gb_H1_kd 122 (by decide)
theorem kd123 : gb_kd gb_H1 123 = (5, 0) := gb_H1_kd 123 (by decide)
theorem kd124 : gb_kd gb_H1 124 = (5, 0) := gb_H1_kd 124 (by decide)
theorem kd125 : gb_kd gb_H1 125 = (5, 0) := gb_H1_kd 125 (by decide)
theorem kd126 : gb_kd gb_H1 126 = (3, 0) := gb_H1_kd 126 (by decide)
theorem kd127 : gb_kd gb_H1 127 = (20, 200) := gb_H1_kd 127 (by decide)
theorem kd128 : gb_kd gb_H1 128 = (20, 200) := gb_H1_kd 128 (by decide)
theorem kd129 : gb_kd gb_H1 129 = (20, 200) := gb_H1_kd 129 (by decide)
theorem kd130 : gb_kd gb_H1 130 = (20, 32) := gb_H1_kd 130 (by decide)
theorem kd131 : gb_kd gb_H1 131 = (20, 4) := gb_H1_kd 131 (by decide)
theorem kd132 : gb_kd gb_H1 132 = (20, 4) := gb_H1_kd 132 (by decide)
theorem kd133 : gb_kd gb_H1 133 = (4, 0) := gb_H1_kd 133 (by decide)
theorem kd134 : gb_kd gb_H1 134 = (20, 17) := gb_H1_kd 134 (by decide)
theorem kd135 : gb_kd gb_H1 135 = (20, 34) := gb_H1_kd 135 (by decide)
theorem kd136 : gb_kd gb_H1 136 = (20, 34) := gb_H1_kd 136 (by decide)
theorem kd137 : gb_kd gb_H1 137 = (20, 34) := gb_H1_kd 137 (by decide)
theorem kd138 : gb_kd gb_H1 138 = (20, 34) := gb_H1_kd 138 (by decide)
theorem kd139 : gb_kd gb_H1 139 = (6, 0) := gb_H1_kd 139 (by decide)
theorem kd140 : gb_kd gb_H1 140 = (34, 8) := gb_H1_kd 140 (by decide)
theorem kd141 : gb_kd gb_H1 141 = (30, 4) := gb_H1_kd 141 (by decide)
theorem kd142 : gb_kd gb_H1 142 = (20, 4) := gb_H1_kd 142 (by decide)
theorem kd143 : gb_kd gb_H1 143 = (20, 4) := gb_H1_kd 143 (by decide)
theorem kd144 : gb_kd gb_H1 144 = (20, 4) := gb_H1_kd 144 (by decide)
theorem kd145 : gb_kd gb_H1 145 = (20, 3) := gb_H1_kd 145 (by decide)
theorem kd146 : gb_kd gb_H1 146 = (8, 0) := gb_H1_kd 146 (by decide)
theorem kd147 : gb_kd gb_H1 147 = (8, 0) := gb_H1_kd 147 (by decide)
theorem kd148 : gb_kd gb_H1 148 = (4, 0) := gb_H1_kd 148 (by decide)
theorem kd149 : gb_kd gb_H1 149 = (20, 17) := gb_H1_kd 149 (by decide)
theorem kd150 : gb_kd gb_H1 150 = (20, 34) := gb_H1_kd 150 (by decide)
theorem kd151 : gb_kd gb_H1 151 = (20, 34) := gb_H1_kd 151 (by decide)
theorem kd152 : gb_kd gb_H1 152 = (20, 34) := gb_H1_kd 152 (by decide)
theorem kd153 : gb_kd gb_H1 153 = (20, 34) := gb_H1_kd 153 (by decide)
theorem kd154 : gb_kd gb_H1 154 = (4, 0) := gb_H1_kd 154 (by decide)
theorem kd155 : gb_kd gb_H1 155 = (20, 17) := gb_H1_kd 155 (by decide)
theorem kd156 : gb_kd gb_H1 156 = (20, 34) := gb_H1_kd 156 (by decide)
theorem kd157 : gb_kd gb_H1 157 = (20, 34) := gb_H1_kd 157 (by decide)
theorem kd158 : gb_kd gb_H1 158 = (20, 34) := gb_H1_kd 158 (by decide)
theorem kd159 : gb_kd gb_H1 159 = (20, 34) := gb_H1_kd 159 (by decide)
theorem kd160 : gb_kd gb_H1 160 = (4, 0) := gb_H1_kd 160 (by decide)
theorem kd161 : gb_kd gb_H1 161 = (20, 17) := gb_H1_kd 161 (by decide)
theorem kd162 : gb_kd gb_H1 162 = (20, 34) := gb_H1_kd 162 (by decide)
theorem kd163 : gb_kd gb_H1 163 = (20, 34) := gb_H1_kd 163 (by decide)
theorem kd164 : gb_kd gb_H1 164 = (20, 34) := gb_H1_kd 164 (by decide)
theorem kd165 : gb_kd gb_H1 165 = (20, 34) := gb_H1_kd 165 (by decide)
theorem kd166 : gb_kd gb_H1 166 = (4, 0) := gb_H1_kd 166 (by decide)
theorem kd167 : gb_kd gb_H1 167 = (20, 17) := gb_H1_kd 167 (by decide)
theorem kd168 : gb_kd gb_H1 168 = (20, 34) := gb_H1_kd 168 (by decide)
theorem kd169 : gb_kd gb_H1 169 = (20, 34) := gb_H1_kd 169 (by decide)
theorem kd170 : gb_kd gb_H1 170 = (20, 34) := gb_H1_kd 170 (by decide)
theorem kd171 : gb_kd gb_H1 171 = (20, 34) := gb_H1_kd 171 (by decide)
theorem kd172 : gb_kd gb_H1 172 = (4, 0) := gb_H1_kd 172 (by decide)
theorem kd173 : gb_kd gb_H1 173 = (20, 17) := gb_H1_kd 173 (by decide)
theorem kd174 : gb_kd gb_H1 174 = (20, 34) := gb_H1_kd 174 (by decide)
theorem kd175 : gb_kd gb_H1 175 = (20, 34) := gb_H1_kd 175 (by decide)
theorem kd176 : gb_kd gb_H1 176 = (20, 34) := gb_H1_kd 176 (by decide)
theorem kd177 : gb_kd gb_H1 177 = (20, 34) := gb_H1_kd 177 (by decide)
theorem kd178 : gb_kd gb_H1 178 = (4, 0) := gb_H1_kd 178 (by decide)
theorem kd179 : gb_kd gb_H1 179 = (20, 17) := gb_H1_kd 179 (by decide)
theorem kd180 : gb_kd gb_H1 180 = (20, 34) := gb_H1_kd 180 (by decide)
theorem kd181 : gb_kd gb_H1 181 = (20, 34) := gb_H1_kd 181 (by decide)
theorem kd182 : gb_kd gb_H1 182 = (20, 34) := gb_H1_kd 182 (by decide)
theorem kd183 : gb_kd gb_H1 183 = (20, 34) := gb_H1_kd 183 (by decide)
theorem kd184 : gb_kd gb_H1 184 = (4, 0) := gb_H1_kd 184 (by decide)
theorem kd185 : gb_kd gb_H1 185 = (20, 17) := gb_H1_kd 185 (by decide)
theorem kd186 : gb_kd gb_H1 186 = (20, 34) := gb_H1_kd 186 (by decide)
theorem kd187 : gb_kd gb_H1 187 = (20, 34) := gb_H1_kd 187 (by decide)
theorem kd188 : gb_kd gb_H1 188 = (20, 34) := gb_H1_kd 188 (by decide)
theorem kd189 : gb_kd gb_H1 189 = (20, 34) := gb_H1_kd 189 (by decide)
theorem kd190 : gb_kd gb_H1 190 = (4, 0) := gb_H1_kd 190 (by decide)
theorem kd191 : gb_kd gb_H1 191 = (20, 17) := gb_H1_kd 191 (by decide)
theorem kd192 : gb_kd gb_H1 192 = (20, 34) := gb_H1_kd 192 (by decide)
theorem kd193 : gb_kd gb_H1 193 = (20, 34) := gb_H1_kd 193 (by decide)
theorem kd194 : gb_kd gb_H1 194 = (20, 34) := gb_H1_kd 194 (by decide)
theorem kd195 : gb_kd gb_H1 195 = (20, 34) := gb_H1_kd 195 (by decide)
theorem kd196 : gb_kd gb_H1 196 = (0, 0) := gb_H1_kd 196 (by decide)
theorem kd197 : gb_kd gb_H1 197 = (20, 286) := gb_H1_kd 197 (by decide)
theorem kd198 : gb_kd gb_H1 198 = (21, 286) := gb_H1_kd 198 (by decide)
theorem kd199 : gb_kd gb_H1 199 = (23, 286) := gb_H1_kd 199 (by decide)
theorem kd200 : gb_kd gb_H1 200 = (23, 286) := gb_H1_kd 200 (by decide)
theorem kd201 : gb_kd gb_H1 201 = (23, 286) := gb_H1_kd 201 (by decide)
theorem kd202 : gb_kd gb_H1 202 = (23, 286) := gb_H1_kd 202 (by decide)
theorem kd203 : gb_kd gb_H1 203 = (0, 0) := gb_H1_kd 203 (by decide)
theorem kd204 : gb_kd gb_H1 204 = (20, 286) := gb_H1_kd 204 (by decide)
theorem kd205 : gb_kd gb_H1 205 = (21, 286) := gb_H1_kd 205 (by decide)
theorem kd206 : gb_kd gb_H1 206 = (23, 286) := gb_H1_kd 206 (by decide)
theorem kd207 : gb_kd gb_H1 207 = (23, 286) := gb_H1_kd 207 (by decide)
theorem kd208 : gb_kd gb_H1 208 = (23, 286) := gb_H1_kd 208 (by decide)
theorem kd209 : gb_kd gb_H1 209 = (23, 286) := gb_H1_kd 209 (by decide)
theorem kd210 : gb_kd gb_H1 210 = (0, 0) := gb_H1_kd 210 (by decide)
theorem kd211 : gb_kd gb_H1 211 = (20, 286) := gb_H1_kd 211 (by decide)
theorem kd212 : gb_kd gb_H1 212 = (21, 286) := gb_H1_kd 212 (by decide)
theorem kd213 : gb_kd gb_H1 213 = (23, 286) := gb_H1_kd 213 (by decide)
theorem kd214 : gb_kd gb_H1 214 = (23, 286) := gb_H1_kd 214 (by decide)
theorem kd215 : gb_kd gb_H1 215 = (23, 286) := gb_H1_kd 215 (by decide)
theorem kd216 : gb_kd gb_H1 216 = (23, 286) := gb_H1_kd 216 (by decide)
theorem kd217 : gb_kd gb_H1 217 = (0, 0) := gb_H1_kd 217 (by decide)
theorem kd218 : gb_kd gb_H1 218 = (20, 286) := gb_H1_kd 218 (by decide)
theorem kd219 : gb_kd gb_H1 219 = (21, 286) := gb_H1_kd 219 (by decide)
theorem kd220 : gb_kd gb_H1 220 = (23, 286) := gb_H1_kd 220 (by decide)
theorem kd221 : gb_kd gb_H1 221 = (23, 286) := gb_H1_kd 221 (by decide)
theorem kd222 : gb_kd gb_H1 222 = (23, 286) := gb_H1_kd 222 (by decide)
theorem kd223 : gb_kd gb_H1 223 = (23, 286) := gb_H1_kd 223 (by decide)
theorem kd224 : gb_kd gb_H1 224 = (0, 0) := gb_H1_kd 224 (by decide)
theorem kd225 : gb_kd gb_H1 225 = (20, 969) := gb_H1_kd 225 (by decide)
theorem kd226 : gb_kd gb_H1 226 = (21, 969) := gb_H1_kd 226 (by decide)
theorem kd227 : gb_kd gb_H1 227 = (23, 969) := gb_H1_kd 227 (by decide)
theorem kd228 : gb_kd gb_H1 228 = (23, 969) := gb_H1_kd 228 (by decide)
theorem kd229 : gb_kd gb_H1 229 = (23, 969) := gb_H1_kd 229 (by decide)
theorem kd230 : gb_kd gb_H1 230 = (23, 969) := gb_H1_kd 230 (by decide)
theorem kd231 : gb_kd gb_H1 231 = (0, 0) := gb_H1_kd 231 (by decide)
theorem kd232 : gb_kd gb_H1 232 = (20, 969) := gb_H1_kd 232 (by decide)
theorem kd233 : gb_kd gb_H1 233 = (21, 969) := gb_H1_kd 233 (by decide)
theorem kd234 : gb_kd gb_H1 234 = (23, 969) := gb_H1_kd 234 (by decide)
theorem kd235 : gb_kd gb_H1 235 = (23, 969) := gb_H1_kd 235 (by decide)
theorem kd236 : gb_kd gb_H1 236 = (23, 969) := gb_H1_kd 236 (by decide)
theorem kd237 : gb_kd gb_H1 237 = (23, 969) := gb_H1_kd 237 (by decide)
theorem kd238 : gb_kd gb_H1 238 = (8, 0) := gb_H1_kd 238 (by decide)
theorem kd239 : gb_kd gb_H1 239 = (20, 3) := gb_H1_kd 239 (by decide)
theorem kd240 : gb_kd gb_H1 240 = (20, 5) := gb_H1_kd 240 (by decide)
theorem kd241 : gb_kd gb_H1 241 = (11, 0) := gb_H1_kd 241 (by decide)
theorem kd242 : gb_kd gb_H1 242 = (20, 3) := gb_H1_kd 242 (by decide)
theorem kd243 : gb_kd gb_H1 243 = (20, 512) := gb_H1_kd 243 (by decide)
theorem kd244 : gb_kd gb_H1 244 = (20, 4) := gb_H1_kd 244 (by decide)
theorem kd245 : gb_kd gb_H1 245 = (20, 64) := gb_H1_kd 245 (by decide)
theorem kd246 : gb_kd gb_H1 246 = (20, 128) := gb_H1_kd 246 (by decide)
theorem kd247 : gb_kd gb_H1 247 = (21, 5) := gb_H1_kd 247 (by decide)
theorem kd248 : gb_kd gb_H1 248 = (22, 400) := gb_H1_kd 248 (by decide)
theorem kd249 : gb_kd gb_H1 249 = (22, 400) := gb_H1_kd 249 (by decide)
theorem kd250 : gb_kd gb_H1 250 = (20, 5) := gb_H1_kd 250 (by decide)
theorem kd251 : gb_kd gb_H1 251 = (23, 16384) := gb_H1_kd 251 (by decide)
theorem kd252 : gb_kd gb_H1 252 = (23, 16384) := gb_H1_kd 252 (by decide)
theorem kd253 : gb_kd gb_H1 253 = (23, 16384) := gb_H1_kd 253 (by decide)
theorem kd254 : gb_kd gb_H1 254 = (23, 4) := gb_H1_kd 254 (by decide)
theorem kd255 : gb_kd gb_H1 255 = (23, 4) := gb_H1_kd 255 (by decide)
theorem kd256 : gb_kd gb_H1 256 = (23, 1024) := gb_H1_kd 256 (by decide)
theorem kd257 : gb_kd gb_H1 257 = (23, 1024) := gb_H1_kd 257 (by decide)
theorem kd258 : gb_kd gb_H1 258 = (23, 4) := gb_H1_kd 258 (by decide)
theorem kd259 : gb_kd gb_H1 259 = (20, 6) := gb_H1_kd 259 (by decide)
theorem kd260 : gb_kd gb_H1 260 = (20, 5) := gb_H1_kd 260 (by decide)
theorem kd261 : gb_kd gb_H1 261 = (20, 200) := gb_H1_kd 261 (by decide)
theorem kd262 : gb_kd gb_H1 262 = (20, 200) := gb_H1_kd 262 (by decide)
theorem kd263 : gb_kd gb_H1 263 = (20, 200) := gb_H1_kd 263 (by decide)
theorem kd264 : gb_kd gb_H1 264 = (20, 24) := gb_H1_kd 264 (by decide)
theorem kd265 : gb_kd gb_H1 265 = (20, 3) := gb_H1_kd 265 (by decide)
theorem kd266 : gb_kd gb_H1 266 = (20, 3) := gb_H1_kd 266 (by decide)
theorem kd267 : gb_kd gb_H1 267 = (20, 24) := gb_H1_kd 267 (by decide)
theorem kd268 : gb_kd gb_H1 268 = (20, 3) := gb_H1_kd 268 (by decide)
theorem rf0_0 : gb_R gb_H1 0 0 = some 1 := gb_H1_R (0, 0, 1) (List.mem_of_getElem? (i := 0) rfl)
theorem rf0_1 : gb_R gb_H1 0 1 = some 3 := gb_H1_R (0, 1, 3) (List.mem_of_getElem? (i := 1) rfl)
theorem rf0_2 : gb_R gb_H1 0 2 = some 22 := gb_H1_R (0, 2, 22) (List.mem_of_getElem? (i := 2) rfl)
theorem rf0_3 : gb_R gb_H1 0 3 = some 116 := gb_H1_R (0, 3, 116) (List.mem_of_getElem? (i := 3) rfl)
theorem rf0_4 : gb_R gb_H1 0 4 = some 23 := gb_H1_R (0, 4, 23) (List.mem_of_getElem? (i := 4) rfl)
theorem rf0_5 : gb_R gb_H1 0 5 = some 126 := gb_H1_R (0, 5, 126) (List.mem_of_getElem? (i := 5) rfl)
theorem rf0_6 : gb_R gb_H1 0 6 = some 139 := gb_H1_R (0, 6, 139) (List.mem_of_getElem? (i := 6) rfl)
theorem rf0_7 : gb_R gb_H1 0 7 = some 133 := gb_H1_R (0, 7, 133) (List.mem_of_getElem? (i := 7) rfl)
theorem rf0_8 : gb_R gb_H1 0 8 = some 224 := gb_H1_R (0, 8, 224) (List.mem_of_getElem? (i := 8) rfl)
theorem rf0_9 : gb_R gb_H1 0 9 = some 231 := gb_H1_R (0, 9, 231) (List.mem_of_getElem? (i := 9) rfl)
theorem rf0_10 : gb_R gb_H1 0 10 = some 238 := gb_H1_R (0, 10, 238) (List.mem_of_getElem? (i := 10) rfl)
theorem rf0_11 : gb_R gb_H1 0 11 = some 239 := gb_H1_R (0, 11, 239) (List.mem_of_getElem? (i := 11) rfl)
theorem rf0_12 : gb_R gb_H1 0 12 = some 240 := gb_H1_R (0, 12, 240) (List.mem_of_getElem? (i := 12) rfl)
theorem rf1_0 : gb_R gb_H1 1 0 = some 2 := gb_H1_R (1, 0, 2) (List.mem_of_getElem? (i := 13) rfl)
theorem rf3_0 : gb_R gb_H1 3 0 = some 1 := gb_H1_R (3, 0, 1) (List.mem_of_getElem? (i := 14) rfl)
theorem rf3_1 : gb_R gb_H1 3 1 = some 4 := gb_H1_R (3, 1, 4) (List.mem_of_getElem? (i := 15) rfl)
theorem rf4_0 : gb_R gb_H1 4 0 = some 5 := gb_H1_R (4, 0, 5) (List.mem_of_getElem? (i := 16) rfl)
theorem rf5_0 : gb_R gb_H1 5 0 = some 6 := gb_H1_R (5, 0, 6) (List.mem_of_getElem? (i := 17) rfl)
theorem rf5_1 : gb_R gb_H1 5 1 = some 7 := gb_H1_R (5, 1, 7) (List.mem_of_getElem? (i := 18) rfl)
theorem rf5_2 : gb_R gb_H1 5 2 = some 8 := gb_H1_R (5, 2, 8) (List.mem_of_getElem? (i := 19) rfl)
theorem rf5_3 : gb_R gb_H1 5 3 = some 9 := gb_H1_R (5, 3, 9) (List.mem_of_getElem? (i := 20) rfl)
theorem rf5_4 : gb_R gb_H1 5 4 = some 10 := gb_H1_R (5, 4, 10) (List.mem_of_getElem? (i := 21) rfl)
theorem rf5_5 : gb_R gb_H1 5 5 = some 11 := gb_H1_R (5, 5, 11) (List.mem_of_getElem? (i := 22) rfl)
theorem rf5_6 : gb_R gb_H1 5 6 = some 12 := gb_H1_R (5, 6, 12) (List.mem_of_getElem? (i := 23) rfl)
theorem rf5_7 : gb_R gb_H1 5 7 = some 13 := gb_H1_R (5, 7, 13) (List.mem_of_getElem? (i := 24) rfl)
theorem rf5_8 : gb_R gb_H1 5 8 = some 14 := gb_H1_R (5, 8, 14) (List.mem_of_getElem? (i := 25) rfl)
theorem rf5_9 : gb_R gb_H1 5 9 = some 15 := gb_H1_R (5, 9, 15) (List.mem_of_getElem? (i := 26) rfl)
theorem rf5_10 : gb_R gb_H1 5 10 = some 16 := gb_H1_R (5, 10, 16) (List.mem_of_getElem? (i := 27) rfl)
theorem rf5_11 : gb_R gb_H1 5 11 = some 17 := gb_H1_R (5, 11, 17) (List.mem_of_getElem? (i := 28) rfl)
theorem rf5_12 : gb_R gb_H1 5 12 = some 18 := gb_H1_R (5, 12, 18) (List.mem_of_getElem? (i := 29) rfl)
theorem rf5_13 : gb_R gb_H1 5 13 = some 19 := gb_H1_R (5, 13, 19) (List.mem_of_getElem? (i := 30) rfl)
theorem rf5_14 : gb_R gb_H1 5 14 = some 20 := gb_H1_R (5, 14, 20) (List.mem_of_getElem? (i := 31) rfl)
theorem rf5_15 : gb_R gb_H1 5 15 = some 21 := gb_H1_R (5, 15, 21) (List.mem_of_getElem? (i := 32) rfl)
theorem rf22_0 : gb_R gb_H1 22 0 = some 24 := gb_H1_R (22, 0, 24) (List.mem_of_getElem? (i := 33) rfl)
theorem rf22_1 : gb_R gb_H1 22 1 = some 47 := gb_H1_R (22, 1, 47) (List.mem_of_getElem? (i := 34) rfl)
theorem rf22_2 : gb_R gb_H1 22 2 = some 70 := gb_H1_R (22, 2, 70) (List.mem_of_getElem? (i := 35) rfl)
theorem rf22_3 : gb_R gb_H1 22 3 = some 93 := gb_H1_R (22, 3, 93) (List.mem_of_getElem? (i := 36) rfl)
theorem rf23_0 : gb_R gb_H1 23 0 = some 42 := gb_H1_R (23, 0, 42) (List.mem_of_getElem? (i := 37) rfl)
theorem rf23_1 : gb_R gb_H1 23 1 = some 65 := gb_H1_R (23, 1, 65) (List.mem_of_getElem? (i := 38) rfl)
theorem rf23_2 : gb_R gb_H1 23 2 = some 88 := gb_H1_R (23, 2, 88) (List.mem_of_getElem? (i := 39) rfl)
theorem rf23_3 : gb_R gb_H1 23 3 = some 111 := gb_H1_R (23, 3, 111) (List.mem_of_getElem? (i := 40) rfl)
theorem rf24_0 : gb_R gb_H1 24 0 = some 25 := gb_H1_R (24, 0, 25) (List.mem_of_getElem? (i := 41) rfl)
theorem rf25_0 : gb_R gb_H1 25 0 = some 26 := gb_H1_R (25, 0, 26) (List.mem_of_getElem? (i := 42) rfl)
theorem rf25_1 : gb_R gb_H1 25 1 = some 27 := gb_H1_R (25, 1, 27) (List.mem_of_getElem? (i := 43) rfl)
theorem rf25_2 : gb_R gb_H1 25 2 = some 28 := gb_H1_R (25, 2, 28) (List.mem_of_getElem? (i := 44) rfl)
theorem rf25_3 : gb_R gb_H1 25 3 = some 29 := gb_H1_R (25, 3, 29) (List.mem_of_getElem? (i := 45) rfl)
theorem rf25_4 : gb_R gb_H1 25 4 = some 30 := gb_H1_R (25, 4, 30) (List.mem_of_getElem? (i := 46) rfl)
theorem rf25_5 : gb_R gb_H1 25 5 = some 31 := gb_H1_R (25, 5, 31) (List.mem_of_getElem? (i := 47) rfl)
theorem rf25_6 : gb_R gb_H1 25 6 = some 32 := gb_H1_R (25, 6, 32) (List.mem_of_getElem? (i := 48) rfl)
theorem rf25_7 : gb_R gb_H1 25 7 = some 33 := gb_H1_R (25, 7, 33) (List.mem_of_getElem? (i := 49) rfl)
theorem rf25_8 : gb_R gb_H1 25 8 = some 34 := gb_H1_R (25, 8, 34) (List.mem_of_getElem? (i := 50) rfl)
theorem rf25_9 : gb_R gb_H1 25 9 = some 35 := gb_H1_R (25, 9, 35) (List.mem_of_getElem? (i := 51) rfl)
theorem rf25_10 : gb_R gb_H1 25 10 = some 36 := gb_H1_R (25, 10, 36) (List.mem_of_getElem? (i := 52) rfl)
theorem rf25_11 : gb_R gb_H1 25 11 = some 37 := gb_H1_R (25, 11, 37) (List.mem_of_getElem? (i := 53) rfl)
theorem rf25_12 : gb_R gb_H1 25 12 = some 38 := gb_H1_R (25, 12, 38) (List.mem_of_getElem? (i := 54) rfl)
theorem rf25_13 : gb_R gb_H1 25 13 = some 39 := gb_H1_R (25, 13, 39) (List.mem_of_getElem? (i := 55) rfl)
theorem rf25_14 : gb_R gb_H1 25 14 = some 40 := gb_H1_R (25, 14, 40) (List.mem_of_getElem? (i := 56) rfl)
theorem rf25_15 : gb_R gb_H1 25 15 = some 41 := gb_H1_R (25, 15, 41) (List.mem_of_getElem? (i := 57) rfl)
theorem rf42_0 : gb_R gb_H1 42 0 = some 43 := gb_H1_R (42, 0, 43) (List.mem_of_getElem? (i := 58) rfl)
theorem rf42_1 : gb_R gb_H1 42 1 = some 44 := gb_H1_R (42, 1, 44) (List.mem_of_getElem? (i := 59) rfl)
theorem rf42_2 : gb_R gb_H1 42 2 = some 45 := gb_H1_R (42, 2, 45) (List.mem_of_getElem? (i := 60) rfl)
theorem rf42_3 : gb_R gb_H1 42 3 = some 46 := gb_H1_R (42, 3, 46) (List.mem_of_getElem? (i := 61) rfl)
theorem rf47_0 : gb_R gb_H1 47 0 = some 48 := gb_H1_R (47, 0, 48) (List.mem_of_getElem? (i := 62) rfl)
theorem rf48_0 : gb_R gb_H1 48 0 = some 49 := gb_H1_R (48, 0, 49) (List.mem_of_getElem? (i := 63) rfl)
theorem rf48_1 : gb_R gb_H1 48 1 = some 50 := gb_H1_R (48, 1, 50) (List.mem_of_getElem? (i := 64) rfl)
theorem rf48_2 : gb_R gb_H1 48 2 = some 51 := gb_H1_R (48, 2, 51) (List.mem_of_getElem? (i := 65) rfl)
theorem rf48_3 : gb_R gb_H1 48 3 = some 52 := gb_H1_R (48, 3, 52) (List.mem_of_getElem? (i := 66) rfl)
theorem rf48_4 : gb_R gb_H1 48 4 = some 53 := gb_H1_R (48, 4, 53) (List.mem_of_getElem? (i := 67) rfl)
theorem rf48_5 : gb_R gb_H1 48 5 = some 54 := gb_H1_R (48, 5, 54) (List.mem_of_getElem? (i := 68) rfl)
theorem rf48_6 : gb_R gb_H1 48 6 = some 55 := gb_H1_R (48, 6, 55) (List.mem_of_getElem? (i := 69) rfl)
theorem rf48_7 : gb_R gb_H1 48 7 = some 56 := gb_H1_R (48, 7, 56) (List.mem_of_getElem? (i := 70) rfl)
theorem rf48_8 : gb_R gb_H1 48 8 = some 57 := gb_H1_R (48, 8, 57) (List.mem_of_getElem? (i := 71) rfl)
theorem rf48_9 : gb_R gb_H1 48 9 = some 58 := gb_H1_R (48, 9, 58) (List.mem_of_getElem? (i := 72) rfl)
theorem rf48_10 : gb_R gb_H1 48 10 = some 59 := gb_H1_R (48, 10, 59) (List.mem_of_getElem? (i := 73) rfl)
theorem rf48_11 : gb_R gb_H1 48 11 = some 60 := gb_H1_R (48, 11, 60) (List.mem_of_getElem? (i := 74) rfl)
theorem rf48_12 : gb_R gb_H1 48 12 = some 61 := gb_H1_R (48, 12, 61) (List.mem_of_getElem? (i := 75) rfl)
theorem rf48_13 : gb_R gb_H1 48 13 = some 62 := gb_H1_R (48, 13, 62) (List.mem_of_getElem? (i := 76) rfl)
theorem rf48_14 : gb_R gb_H1 48 14 = some 63 := gb_H1_R (48, 14, 63) (List.mem_of_getElem? (i := 77) rfl)
theorem rf48_15 : gb_R gb_H1 48 15 = some 64 := gb_H1_R (48, 15, 64) (List.mem_of_getElem? (i := 78) rfl)
theorem rf65_0 : gb_R gb_H1 65 0 = some 66 := gb_H1_R (65, 0, 66) (List.mem_of_getElem? (i := 79) rfl)
theorem rf65_1 : gb_R gb_H1 65 1 = some 67 := gb_H1_R (65, 1, 67) (List.mem_of_getElem? (i := 80) rfl)
theorem rf65_2 : gb_R gb_H1 65 2 = some 68 := gb_H1_R (65, 2, 68) (List.mem_of_getElem? (i := 81) rfl)
theorem rf65_3 : gb_R gb_H1 65 3 = some 69 := gb_H1_R (65, 3, 69) (List.mem_of_getElem? (i := 82) rfl)
theorem rf70_0 : gb_R gb_H1 70 0 = some 71 := gb_H1_R (70, 0, 71) (List.mem_of_getElem? (i := 83) rfl)
theorem rf71_0 : gb_R gb_H1 71 0 = some 72 := gb_H1_R (71, 0, 72) (List.mem_of_getElem? (i := 84) rfl)
theorem rf71_1 : gb_R gb_H1 71 1 = some 73 := gb_H1_R (71, 1, 73) (List.mem_of_getElem? (i := 85) rfl)
theorem rf71_2 : gb_R gb_H1 71 2 = some 74 := gb_H1_R (71, 2, 74) (List.mem_of_getElem? (i := 86) rfl)
theorem rf71_3 : gb_R gb_H1 71 3 = some 75 := gb_H1_R (71, 3, 75) (List.mem_of_getElem? (i := 87) rfl)
theorem rf71_4 : gb_R gb_H1 71 4 = some 76 := gb_H1_R (71, 4, 76) (List.mem_of_getElem? (i := 88) rfl)
theorem rf71_5 : gb_R gb_H1 71 5 = some 77 := gb_H1_R (71, 5, 77) (List.mem_of_getElem? (i := 89) rfl)
theorem rf71_6 : gb_R gb_H1 71 6 = some 78 := gb_H1_R (71, 6, 78) (List.mem_of_getElem? (i := 90) rfl)
theorem rf71_7 : gb_R gb_H1 71 7 = some 79 := gb_H1_R (71, 7, 79) (List.mem_of_getElem? (i := 91) rfl)
theorem rf71_8 : gb_R gb_H1 71 8 = some 80 := gb_H1_R (71, 8, 80) (List.mem_of_getElem? (i := 92) rfl)
theorem rf71_9 : gb_R gb_H1 71 9 = some 81 := gb_H1_R (71, 9, 81) (List.mem_of_getElem? (i := 93) rfl)
theorem rf71_10 : gb_R gb_H1 71 10 = some 82 := gb_H1_R (71, 10, 82) (List.mem_of_getElem? (i := 94) rfl)
theorem rf71_11 : gb_R gb_H1 71 11 = some 83 := gb_H1_R (71, 11, 83) (List.mem_of_getElem? (i := 95) rfl)
theorem rf71_12 : gb_R gb_H1 71 12 = some 84 := gb_H1_R (71, 12, 84) (List.mem_of_getElem? (i := 96) rfl)
theorem rf71_13 : gb_R gb_H1 71 13 = some 85 := gb_H1_R (71, 13, 85) (List.mem_of_getElem? (i := 97) rfl)
theorem rf71_14 : gb_R gb_H1 71 14 = some 86 := gb_H1_R (71, 14, 86) (List.mem_of_getElem? (i := 98) rfl)
theorem rf71_15 : gb_R gb_H1 71 15 = some 87 := gb_H1_R (71, 15, 87) (List.mem_of_getElem? (i := 99) rfl)
theorem rf88_0 : gb_R gb_H1 88 0 = some 89 := gb_H1_R (88, 0, 89) (List.mem_of_getElem? (i := 100) rfl)
theorem rf88_1 : gb_R gb_H1 88 1 = some 90 := gb_H1_R (88, 1, 90) (List.mem_of_getElem? (i := 101) rfl)
theorem rf88_2 : gb_R gb_H1 88 2 = some 91 := gb_H1_R (88, 2, 91) (List.mem_of_getElem? (i := 102) rfl)
theorem rf88_3 : gb_R gb_H1 88 3 = some 92 := gb_H1_R (88, 3, 92) (List.mem_of_getElem? (i := 103) rfl)
theorem rf93_0 : gb_R gb_H1 93 0 = some 94 := gb_H1_R (93, 0, 94) (List.mem_of_getElem? (i := 104) rfl)
theorem rf94_0 : gb_R gb_H1 94 0 = some 95 := gb_H1_R (94, 0, 95) (List.mem_of_getElem? (i := 105) rfl)
theorem rf94_1 : gb_R gb_H1 94 1 = some 96 := gb_H1_R (94, 1, 96) (List.mem_of_getElem? (i := 106) rfl)
theorem rf94_2 : gb_R gb_H1 94 2 = some 97 := gb_H1_R (94, 2, 97) (List.mem_of_getElem? (i := 107) rfl)
theorem rf94_3 : gb_R gb_H1 94 3 = some 98 := gb_H1_R (94, 3, 98) (List.mem_of_getElem? (i := 108) rfl)
theorem rf94_4 : gb_R gb_H1 94 4 = some 99 := gb_H1_R (94, 4, 99) (List.mem_of_getElem? (i := 109) rfl)
theorem rf94_5 : gb_R gb_H1 94 5 = some 100 := gb_H1_R (94, 5, 100) (List.mem_of_getElem? (i := 110) rfl)
theorem rf94_6 : gb_R gb_H1 94 6 = some 101 := gb_H1_R (94, 6, 101) (List.mem_of_getElem? (i := 111) rfl)
theorem rf94_7 : gb_R gb_H1 94 7 = some 102 := gb_H1_R (94, 7, 102) (List.mem_of_getElem? (i := 112) rfl)
theorem rf94_8 : gb_R gb_H1 94 8 = some 103 := gb_H1_R (94, 8, 103) (List.mem_of_getElem? (i := 113) rfl)
theorem rf94_9 : gb_R gb_H1 94 9 = some 104 := gb_H1_R (94, 9, 104) (List.mem_of_getElem? (i := 114) rfl)
theorem rf94_10 : gb_R gb_H1 94 10 = some 105 := gb_H1_R (94, 10, 105) (List.mem_of_getElem? (i := 115) rfl)
theorem rf94_11 : gb_R gb_H1 94 11 = some 106 := gb_H1_R (94, 11, 106) (List.mem_of_getElem? (i := 116) rfl)
theorem rf94_12 : gb_R gb_H1 94 12 = some 107 := gb_H1_R (94, 12, 107) (List.mem_of_getElem? (i := 117) rfl)
theorem rf94_13 : gb_R gb_H1 94 13 = some 108 := gb_H1_R (94, 13, 108) (List.mem_of_getElem? (i := 118) rfl)
theorem rf94_14 : gb_R gb_H1 94 14 = some 109 := gb_H1_R (94, 14, 109) (List.mem_of_getElem? (i := 119) rfl)
theorem rf94_15 : gb_R gb_H1 94 15 = some 110 := gb_H1_R (94, 15, 110) (List.mem_of_getElem? (i := 120) rfl)
theorem rf111_0 : gb_R gb_H1 111 0 = some 112 := gb_H1_R (111, 0, 112) (List.mem_of_getElem? (i := 121) rfl)
theorem rf111_1 : gb_R gb_H1 111 1 = some 113 := gb_H1_R (111, 1, 113) (List.mem_of_getElem? (i := 122) rfl)
theorem rf111_2 : gb_R gb_H1 111 2 = some 114 := gb_H1_R (111, 2, 114) (List.mem_of_getElem? (i := 123) rfl)
theorem rf111_3 : gb_R gb_H1 111 3 = some 115 := gb_H1_R (111, 3, 115) (List.mem_of_getElem? (i := 124) rfl)
theorem rf116_0 : gb_R gb_H1 116 0 = some 117 := gb_H1_R (116, 0, 117) (List.mem_of_getElem? (i := 125) rfl)
theorem rf117_0 : gb_R gb_H1 117 0 = some 118 := gb_H1_R (117, 0, 118) (List.mem_of_getElem? (i := 126) rfl)
theorem rf117_1 : gb_R gb_H1 117 1 = some 119 := gb_H1_R (117, 1, 119) (List.mem_of_getElem? (i := 127) rfl)
theorem rf117_2 : gb_R gb_H1 117 2 = some 120 := gb_H1_R (117, 2, 120) (List.mem_of_getElem? (i := 128) rfl)
theorem rf117_3 : gb_R gb_H1 117 3 = some 121 := gb_H1_R (117, 3, 121) (List.mem_of_getElem? (i := 129) rfl)
theorem rf117_4 : gb_R gb_H1 117 4 = some 122 := gb_H1_R (117, 4, 122) (List.mem_of_getElem? (i := 130) rfl)
theorem rf117_5 : gb_R gb_H1 117 5 = some 123 := gb_H1_R (117, 5, 123) (List.mem_of_getElem? (i := 131) rfl)
theorem rf117_6 : gb_R gb_H1 117 6 = some 124 := gb_H1_R (117, 6, 124) (List.mem_of_getElem? (i := 132) rfl)
theorem rf117_7 : gb_R gb_H1 117 7 = some 125 := gb_H1_R (117, 7, 125) (List.mem_of_getElem? (i := 133) rfl)
theorem rf126_0 : gb_R gb_H1 126 0 = some 127 := gb_H1_R (126, 0, 127) (List.mem_of_getElem? (i := 134) rfl)
theorem rf126_1 : gb_R gb_H1 126 1 = some 128 := gb_H1_R (126, 1, 128) (List.mem_of_getElem? (i := 135) rfl)
theorem rf126_2 : gb_R gb_H1 126 2 = some 129 := gb_H1_R (126, 2, 129) (List.mem_of_getElem? (i := 136) rfl)
theorem rf126_4 : gb_R gb_H1 126 4 = some 130 := gb_H1_R (126, 4, 130) (List.mem_of_getElem? (i := 137) rfl)
theorem rf126_6 : gb_R gb_H1 126 6 = some 131 := gb_H1_R (126, 6, 131) (List.mem_of_getElem? (i := 138) rfl)
theorem rf126_7 : gb_R gb_H1 126 7 = some 132 := gb_H1_R (126, 7, 132) (List.mem_of_getElem? (i := 139) rfl)
theorem rf133_0 : gb_R gb_H1 133 0 = some 134 := gb_H1_R (133, 0, 134) (List.mem_of_getElem? (i := 140) rfl)
theorem rf133_1 : gb_R gb_H1 133 1 = some 135 := gb_H1_R (133, 1, 135) (List.mem_of_getElem? (i := 141) rfl)
theorem rf133_2 : gb_R gb_H1 133 2 = some 136 := gb_H1_R (133, 2, 136) (List.mem_of_getElem? (i := 142) rfl)
theorem rf133_3 : gb_R gb_H1 133 3 = some 137 := gb_H1_R (133, 3, 137) (List.mem_of_getElem? (i := 143) rfl)
theorem rf133_4 : gb_R gb_H1 133 4 = some 138 := gb_H1_R (133, 4, 138) (List.mem_of_getElem? (i := 144) rfl)
theorem rf139_0 : gb_R gb_H1 139 0 = some 116 := gb_H1_R (139, 0, 116) (List.mem_of_getElem? (i := 145) rfl)
theorem rf139_1 : gb_R gb_H1 139 1 = some 140 := gb_H1_R (139, 1, 140) (List.mem_of_getElem? (i := 146) rfl)
theorem rf139_2 : gb_R gb_H1 139 2 = some 141 := gb_H1_R (139, 2, 141) (List.mem_of_getElem? (i := 147) rfl)
theorem rf139_3 : gb_R gb_H1 139 3 = some 142 := gb_H1_R (139, 3, 142) (List.mem_of_getElem? (i := 148) rfl)
theorem rf139_4 : gb_R gb_H1 139 4 = some 143 := gb_H1_R (139, 4, 143) (List.mem_of_getElem? (i := 149) rfl)
theorem rf139_5 : gb_R gb_H1 139 5 = some 144 := gb_H1_R (139, 5, 144) (List.mem_of_getElem? (i := 150) rfl)
theorem rf139_6 : gb_R gb_H1 139 6 = some 145 := gb_H1_R (139, 6, 145) (List.mem_of_getElem? (i := 151) rfl)
theorem rf139_8 : gb_R gb_H1 139 8 = some 146 := gb_H1_R (139, 8, 146) (List.mem_of_getElem? (i := 152) rfl)
theorem rf139_9 : gb_R gb_H1 139 9 = some 147 := gb_H1_R (139, 9, 147) (List.mem_of_getElem? (i := 153) rfl)
theorem rf140_0 : gb_R gb_H1 140 0 = some 148 := gb_H1_R (140, 0, 148) (List.mem_of_getElem? (i := 154) rfl)
theorem rf140_1 : gb_R gb_H1 140 1 = some 154 := gb_H1_R (140, 1, 154) (List.mem_of_getElem? (i := 155) rfl)
theorem rf140_2 : gb_R gb_H1 140 2 = some 160 := gb_H1_R (140, 2, 160) (List.mem_of_getElem? (i := 156) rfl)
theorem rf140_3 : gb_R gb_H1 140 3 = some 166 := gb_H1_R (140, 3, 166) (List.mem_of_getElem? (i := 157) rfl)
theorem rf140_4 : gb_R gb_H1 140 4 = some 172 := gb_H1_R (140, 4, 172) (List.mem_of_getElem? (i := 158) rfl)
theorem rf140_5 : gb_R gb_H1 140 5 = some 178 := gb_H1_R (140, 5, 178) (List.mem_of_getElem? (i := 159) rfl)
theorem rf140_6 : gb_R gb_H1 140 6 = some 184 := gb_H1_R (140, 6, 184) (List.mem_of_getElem? (i := 160) rfl)
theorem rf140_7 : gb_R gb_H1 140 7 = some 190 := gb_H1_R (140, 7, 190) (List.mem_of_getElem? (i := 161) rfl)
theorem rf141_0 : gb_R gb_H1 141 0 = some 196 := gb_H1_R (141, 0, 196) (List.mem_of_getElem? (i := 162) rfl)
theorem rf141_1 : gb_R gb_H1 141 1 = some 203 := gb_H1_R (141, 1, 203) (List.mem_of_getElem? (i := 163) rfl)
theorem rf141_2 : gb_R gb_H1 141 2 = some 210 := gb_H1_R (141, 2, 210) (List.mem_of_getElem? (i := 164) rfl)
theorem rf141_3 : gb_R gb_H1 141 3 = some 217 := gb_H1_R (141, 3, 217) (List.mem_of_getElem? (i := 165) rfl)
theorem rf148_0 : gb_R gb_H1 148 0 = some 149 := gb_H1_R (148, 0, 149) (List.mem_of_getElem? (i := 166) rfl)
theorem rf148_1 : gb_R gb_H1 148 1 = some 150 := gb_H1_R (148, 1, 150) (List.mem_of_getElem? (i := 167) rfl)
theorem rf148_2 : gb_R gb_H1 148 2 = some 151 := gb_H1_R (148, 2, 151) (List.mem_of_getElem? (i := 168) rfl)
theorem rf148_3 : gb_R gb_H1 148 3 = some 152 := gb_H1_R (148, 3, 152) (List.mem_of_getElem? (i := 169) rfl)
theorem rf148_4 : gb_R gb_H1 148 4 = some 153 := gb_H1_R (148, 4, 153) (List.mem_of_getElem? (i := 170) rfl)
theorem rf154_0 : gb_R gb_H1 154 0 = some 155 := gb_H1_R (154, 0, 155) (List.mem_of_getElem? (i := 171) rfl)
theorem rf154_1 : gb_R gb_H1 154 1 = some 156 := gb_H1_R (154, 1, 156) (List.mem_of_getElem? (i := 172) rfl)
theorem rf154_2 : gb_R gb_H1 154 2 = some 157 := gb_H1_R (154, 2, 157) (List.mem_of_getElem? (i := 173) rfl)
theorem rf154_3 : gb_R gb_H1 154 3 = some 158 := gb_H1_R (154, 3, 158) (List.mem_of_getElem? (i := 174) rfl)
theorem rf154_4 : gb_R gb_H1 154 4 = some 159 := gb_H1_R (154, 4, 159) (List.mem_of_getElem? (i := 175) rfl)
theorem rf160_0 : gb_R gb_H1 160 0 = some 161 := gb_H1_R (160, 0, 161) (List.mem_of_getElem? (i := 176) rfl)
theorem rf160_1 : gb_R gb_H1 160 1 = some 162 := gb_H1_R (160, 1, 162) (List.mem_of_getElem? (i := 177) rfl)
theorem rf160_2 : gb_R gb_H1 160 2 = some 163 := gb_H1_R (160, 2, 163) (List.mem_of_getElem? (i := 178) rfl)
theorem rf160_3 : gb_R gb_H1 160 3 = some 164 := gb_H1_R (160, 3, 164) (List.mem_of_getElem? (i := 179) rfl)
theorem rf160_4 : gb_R gb_H1 160 4 = some 165 := gb_H1_R (160, 4, 165) (List.mem_of_getElem? (i := 180) rfl)
theorem rf166_0 : gb_R gb_H1 166 0 = some 167 := gb_H1_R (166, 0, 167) (List.mem_of_getElem? (i := 181) rfl)
theorem rf166_1 : gb_R gb_H1 166 1 = some 168 := gb_H1_R (166, 1, 168) (List.mem_of_getElem? (i := 182) rfl)
theorem rf166_2 : gb_R gb_H1 166 2 = some 169 := gb_H1_R (166, 2, 169) (List.mem_of_getElem? (i := 183) rfl)
theorem rf166_3 : gb_R gb_H1 166 3 = some 170 := gb_H1_R (166, 3, 170) (List.mem_of_getElem? (i := 184) rfl)
theorem rf166_4 : gb_R gb_H1 166 4 = some 171 := gb_H1_R (166, 4, 171) (List.mem_of_getElem? (i := 185) rfl)
theorem rf172_0 : gb_R gb_H1 172 0 = some 173 := gb_H1_R (172, 0, 173) (List.mem_of_getElem? (i := 186) rfl)
theorem rf172_1 : gb_R gb_H1 172 1 = some 174 := gb_H1_R (172, 1, 174) (List.mem_of_getElem? (i := 187) rfl)
theorem rf172_2 : gb_R gb_H1 172 2 = some 175 := gb_H1_R (172, 2, 175) (List.mem_of_getElem? (i := 188) rfl)
theorem rf172_3 : gb_R gb_H1 172 3 = some 176 := gb_H1_R (172, 3, 176) (List.mem_of_getElem? (i := 189) rfl)
theorem rf172_4 : gb_R gb_H1 172 4 = some 177 := gb_H1_R (172, 4, 177) (List.mem_of_getElem? (i := 190) rfl)
theorem rf178_0 : gb_R gb_H1 178 0 = some 179 := gb_H1_R (178, 0, 179) (List.mem_of_getElem? (i := 191) rfl)
theorem rf178_1 : gb_R gb_H1 178 1 = some 180 := gb_H1_R (178, 1, 180) (List.mem_of_getElem? (i := 192) rfl)
theorem rf178_2 : gb_R gb_H1 178 2 = some 181 := gb_H1_R (178, 2, 181) (List.mem_of_getElem? (i := 193) rfl)
theorem rf178_3 : gb_R gb_H1 178 3 = some 182 := gb_H1_R (178, 3, 182) (List.mem_of_getElem? (i := 194) rfl)
theorem rf178_4 : gb_R gb_H1 178 4 = some 183 := gb_H1_R (178, 4, 183) (List.mem_of_getElem? (i := 195) rfl)
theorem rf184_0 : gb_R gb_H1 184 0 = some 185 := gb_H1_R (184, 0, 185) (List.mem_of_getElem? (i := 196) rfl)
theorem rf184_1 : gb_R gb_H1 184 1 = some 186 := gb_H1_R (184, 1, 186) (List.mem_of_getElem? (i := 197) rfl)
theorem rf184_2 : gb_R gb_H1 184 2 = some 187 := gb_H1_R (184, 2, 187) (List.mem_of_getElem? (i := 198) rfl)
theorem rf184_3 : gb_R gb_H1 184 3 = some 188 := gb_H1_R (184, 3, 188) (List.mem_of_getElem? (i := 199) rfl)
theorem rf184_4 : gb_R gb_H1 184 4 = some 189 := gb_H1_R (184, 4, 189) (List.mem_of_getElem? (i := 200) rfl)
theorem rf190_0 : gb_R gb_H1 190 0 = some 191 := gb_H1_R (190, 0, 191) (List.mem_of_getElem? (i := 201) rfl)
theorem rf190_1 : gb_R gb_H1 190 1 = some 192 := gb_H1_R (190, 1, 192) (List.mem_of_getElem? (i := 202) rfl)
theorem rf190_2 : gb_R gb_H1 190 2 = some 193 := gb_H1_R (190, 2, 193) (List.mem_of_getElem? (i := 203) rfl)
theorem rf190_3 : gb_R gb_H1 190 3 = some 194 := gb_H1_R (190, 3, 194) (List.mem_of_getElem? (i := 204) rfl)
theorem rf190_4 : gb_R gb_H1 190 4 = some 195 := gb_H1_R (190, 4, 195) (List.mem_of_getElem? (i := 205) rfl)
theorem rf196_0 : gb_R gb_H1 196 0 = some 197 := gb_H1_R (196, 0, 197) (List.mem_of_getElem? (i := 206) rfl)
theorem rf196_1 : gb_R gb_H1 196 1 = some 198 := gb_H1_R (196, 1, 198) (List.mem_of_getElem? (i := 207) rfl)
theorem rf196_2 : gb_R gb_H1 196 2 = some 199 := gb_H1_R (196, 2, 199) (List.mem_of_getElem? (i := 208) rfl)
theorem rf196_3 : gb_R gb_H1 196 3 = some 200 := gb_H1_R (196, 3, 200) (List.mem_of_getElem? (i := 209) rfl)
theorem rf196_4 : gb_R gb_H1 196 4 = some 201 := gb_H1_R (196, 4, 201) (List.mem_of_getElem? (i := 210) rfl)
theorem rf196_5 : gb_R gb_H1 196 5 = some 202 := gb_H1_R (196, 5, 202) (List.mem_of_getElem? (i := 211) rfl)
theorem rf203_0 : gb_R gb_H1 203 0 = some 204 := gb_H1_R (203, 0, 204) (List.mem_of_getElem? (i := 212) rfl)
theorem rf203_1 : gb_R gb_H1 203 1 = some 205 := gb_H1_R (203, 1, 205) (List.mem_of_getElem? (i := 213) rfl)
theorem rf203_2 : gb_R gb_H1 203 2 = some 206 := gb_H1_R (203, 2, 206) (List.mem_of_getElem? (i := 214) rfl)
theorem rf203_3 : gb_R gb_H1 203 3 = some 207 := gb_H1_R (203, 3, 207) (List.mem_of_getElem? (i := 215) rfl)
theorem rf203_4 : gb_R gb_H1 203 4 = some 208 := gb_H1_R (203, 4, 208) (List.mem_of_getElem? (i := 216) rfl)
theorem rf203_5 : gb_R gb_H1 203 5 = some 209 := gb_H1_R (203, 5, 209) (List.mem_of_getElem? (i := 217) rfl)
theorem rf210_0 : gb_R gb_H1 210 0 = some 211 := gb_H1_R (210, 0, 211) (List.mem_of_getElem? (i := 218) rfl)
theorem rf210_1 : gb_R gb_H1 210 1 = some 212 := gb_H1_R (210, 1, 212) (List.mem_of_getElem? (i := 219) rfl)
theorem rf210_2 : gb_R gb_H1 210 2 = some 213 := gb_H1_R (210, 2, 213) (List.mem_of_getElem? (i := 220) rfl)
theorem rf210_3 : gb_R gb_H1 210 3 = some 214 := gb_H1_R (210, 3, 214) (List.mem_of_getElem? (i := 221) rfl)
theorem rf210_4 : gb_R gb_H1 210 4 = some 215 := gb_H1_R (210, 4, 215) (List.mem_of_getElem? (i := 222) rfl)
theorem rf210_5 : gb_R gb_H1 210 5 = some 216 := gb_H1_R (210, 5, 216) (List.mem_of_getElem? (i := 223) rfl)
theorem rf217_0 : gb_R gb_H1 217 0 = some 218 := gb_H1_R (217, 0, 218) (List.mem_of_getElem? (i := 224) rfl)
theorem rf217_1 : gb_R gb_H1 217 1 = some 219 := gb_H1_R (217, 1, 219) (List.mem_of_getElem? (i := 225) rfl)
theorem rf217_2 : gb_R gb_H1 217 2 = some 220 := gb_H1_R (217, 2, 220) (List.mem_of_getElem? (i := 226) rfl)
theorem rf217_3 : gb_R gb_H1 217 3 = some 221 := gb_H1_R (217, 3, 221) (List.mem_of_getElem? (i := 227) rfl)
theorem rf217_4 : gb_R gb_H1 217 4 = some 222 := gb_H1_R (217, 4, 222) (List.mem_of_getElem? (i := 228) rfl)
theorem rf217_5 : gb_R gb_H1 217 5 = some 223 := gb_H1_R (217, 5, 223) (List.mem_of_getElem? (i := 229) rfl)
theorem rf224_0 : gb_R gb_H1 224 0 = some 225 := gb_H1_R (224, 0, 225) (List.mem_of_getElem? (i := 230) rfl)
theorem rf224_1 : gb_R gb_H1 224 1 = some 226 := gb_H1_R (224, 1, 226) (List.mem_of_getElem? (i := 231) rfl)
theorem rf224_2 : gb_R gb_H1 224 2 = some 227 := gb_H1_R (224, 2, 227) (List.mem_of_getElem? (i := 232) rfl)
theorem rf224_3 : gb_R gb_H1 224 3 = some 228 := gb_H1_R (224, 3, 228) (List.mem_of_getElem? (i := 233) rfl)
theorem rf224_4 : gb_R gb_H1 224 4 = some 229 := gb_H1_R (224, 4, 229) (List.mem_of_getElem? (i := 234) rfl)
theorem rf224_5 : gb_R gb_H1 224 5 = some 230 := gb_H1_R (224, 5, 230) (List.mem_of_getElem? (i := 235) rfl)
theorem rf231_0 : gb_R gb_H1 231 0 = some 232 := gb_H1_R (231, 0, 232) (List.mem_of_getElem? (i := 236) rfl)
theorem rf231_1 : gb_R gb_H1 231 1 = some 233 := gb_H1_R (231, 1, 233) (List.mem_of_getElem? (i := 237) rfl)
theorem rf231_2 : gb_R gb_H1 231 2 = some 234 := gb_H1_R (231, 2, 234) (List.mem_of_getElem? (i := 238) rfl)
theorem rf231_3 : gb_R gb_H1 231 3 = some 235 := gb_H1_R (231, 3, 235) (List.mem_of_getElem? (i := 239) rfl)
theorem rf231_4 : gb_R gb_H1 231 4 = some 236 := gb_H1_R (231, 4, 236) (List.mem_of_getElem? (i := 240) rfl)
theorem rf231_5 : gb_R gb_H1 231 5 = some 237 := gb_H1_R (231, 5, 237) (List.mem_of_getElem? (i := 241) rfl)
theorem rf241_2 : gb_R gb_H1 241 2 = some 242 := gb_H1_R (241, 2, 242) (List.mem_of_getElem? (i := 242) rfl)
theorem rf241_3 : gb_R gb_H1 241 3 = some 243 := gb_H1_R (241, 3, 243) (List.mem_of_getElem? (i := 243) rfl)
theorem rf241_4 : gb_R gb_H1 241 4 = some 244 := gb_H1_R (241, 4, 244) (List.mem_of_getElem? (i := 244) rfl)
theorem rf241_5 : gb_R gb_H1 241 5 = some 245 := gb_H1_R (241, 5, 245) (List.mem_of_getElem? (i := 245) rfl)
theorem rf241_7 : gb_R gb_H1 241 7 = some 246 := gb_H1_R (241, 7, 246) (List.mem_of_getElem? (i := 246) rfl)
theorem rf241_8 : gb_R gb_H1 241 8 = some 247 := gb_H1_R (241, 8, 247) (List.mem_of_getElem? (i := 247) rfl)
theorem rf241_11 : gb_R gb_H1 241 11 = some 248 := gb_H1_R (241, 11, 248) (List.mem_of_getElem? (i := 248) rfl)
theorem rf241_12 : gb_R gb_H1 241 12 = some 249 := gb_H1_R (241, 12, 249) (List.mem_of_getElem? (i := 249) rfl)
theorem rf241_13 : gb_R gb_H1 241 13 = some 250 := gb_H1_R (241, 13, 250) (List.mem_of_getElem? (i := 250) rfl)
theorem rf241_20 : gb_R gb_H1 241 20 = some 251 := gb_H1_R (241, 20, 251) (List.mem_of_getElem? (i := 251) rfl)
theorem rf241_21 : gb_R gb_H1 241 21 = some 252 := gb_H1_R (241, 21, 252) (List.mem_of_getElem? (i := 252) rfl)
theorem rf241_22 : gb_R gb_H1 241 22 = some 253 := gb_H1_R (241, 22, 253) (List.mem_of_getElem? (i := 253) rfl)
theorem rf241_26 : gb_R gb_H1 241 26 = some 254 := gb_H1_R (241, 26, 254) (List.mem_of_getElem? (i := 254) rfl)
theorem rf241_27 : gb_R gb_H1 241 27 = some 255 := gb_H1_R (241, 27, 255) (List.mem_of_getElem? (i := 255) rfl)
theorem rf241_28 : gb_R gb_H1 241 28 = some 256 := gb_H1_R (241, 28, 256) (List.mem_of_getElem? (i := 256) rfl)
theorem rf241_29 : gb_R gb_H1 241 29 = some 257 := gb_H1_R (241, 29, 257) (List.mem_of_getElem? (i := 257) rfl)
theorem rf241_31 : gb_R gb_H1 241 31 = some 258 := gb_H1_R (241, 31, 258) (List.mem_of_getElem? (i := 258) rfl)
theorem rf241_32 : gb_R gb_H1 241 32 = some 259 := gb_H1_R (241, 32, 259) (List.mem_of_getElem? (i := 259) rfl)
theorem rf241_33 : gb_R gb_H1 241 33 = some 260 := gb_H1_R (241, 33, 260) (List.mem_of_getElem? (i := 260) rfl)
theorem rf241_38 : gb_R gb_H1 241 38 = some 261 := gb_H1_R (241, 38, 261) (List.mem_of_getElem? (i := 261) rfl)
theorem rf241_39 : gb_R gb_H1 241 39 = some 262 := gb_H1_R (241, 39, 262) (List.mem_of_getElem? (i := 262) rfl)
theorem rf241_40 : gb_R gb_H1 241 40 = some 263 := gb_H1_R (241, 40, 263) (List.mem_of_getElem? (i := 263) rfl)
theorem rf241_41 : gb_R gb_H1 241 41 = some 264 := gb_H1_R (241, 41, 264) (List.mem_of_getElem? (i := 264) rfl)
theorem rf241_42 : gb_R gb_H1 241 42 = some 265 := gb_H1_R (241, 42, 265) (List.mem_of_getElem? (i := 265) rfl)
theorem rf241_43 : gb_R gb_H1 241 43 = some 266 := gb_H1_R (241, 43, 266) (List.mem_of_getElem? (i := 266) rfl)
theorem rf241_44 : gb_R gb_H1 241 44 = some 267 := gb_H1_R (241, 44, 267) (List.mem_of_getElem? (i := 267) rfl)
theorem rf241_45 : gb_R gb_H1 241 45 = some 268 := gb_H1_R (241, 45, 268) (List.mem_of_getElem? (i := 268) rfl)
theorem gk0 {I : gb_FI} {J : gb_FJ} : gb_k (gb_mk I J) 0 10 = true := gb_k_of kd0
theorem gk1 {I : gb_FI} {J : gb_FJ} : gb_k (gb_mk I J) 1 9 = true := gb_k_of kd1
theorem gk2 {I : gb_FI} {J : gb_FJ} : gb_k (gb_mk I J) 2 20 = true := gb_k_of kd2
theorem gk3 {I : gb_FI} {J : gb_FJ} : gb_k (gb_mk I J) 3 7 = true := gb_k_of kd3
theorem gk4 {I : gb_FI} {J : gb_FJ} : gb_k (gb_mk I J) 4 2 = true := gb_k_of kd4
theorem gk5 {I : gb_FI} {J : gb_FJ} : gb_k (gb_mk I J) 5 35 = true := gb_k_of kd5
theorem gk6 {I : gb_FI} {J : gb_FJ} : gb_k (gb_mk I J) 6 5 = true := gb_k_of kd6
theorem gk7 {I : gb_FI} {J : gb_FJ} : gb_k (gb_mk I J) 7 5 = true := gb_k_of kd7
theorem gk8 {I : gb_FI} {J : gb_FJ} : gb_k (gb_mk I J) 8 5 = true := gb_k_of kd8
theorem gk9 {I : gb_FI} {J : gb_FJ} : gb_k (gb_mk I J) 9 5 = true := gb_k_of kd9
theorem gk10 {I : gb_FI} {J : gb_FJ} : gb_k (gb_mk I J) 10 5 = true := gb_k_of kd10
theorem gk11 {I : gb_FI} {J : gb_FJ} : gb_k (gb_mk I J) 11 5 = true := gb_k_of kd11
theorem gk12 {I : gb_FI} {J : gb_FJ} : gb_k (gb_mk I J) 12 5 = true := gb_k_of kd12
theorem gk13 {I : gb_FI} {J : gb_FJ} : gb_k (gb_mk I J) 13 5 = true := gb_k_of kd13
theorem gk14 {I : gb_FI} {J : gb_FJ} : gb_k (gb_mk I J) 14 5 = true := gb_k_of kd14
theorem gk15 {I : gb_FI} {J : gb_FJ} : gb_k (gb_mk I J) 15 5 = true := gb_k_of kd15
theorem gk16 {I : gb_FI} {J : gb_FJ} : gb_k (gb_mk I J) 16 5 = true := gb_k_of kd16
theorem gk17 {I : gb_FI} {J : gb_FJ} : gb_k (gb_mk I J) 17 5 = true := gb_k_of kd17
theorem gk18 {I : gb_FI} {J : gb_FJ} : gb_k (gb_mk I J) 18 5 = true := gb_k_of kd18
theorem gk19 {I : gb_FI} {J : gb_FJ} : gb_k (gb_mk I J) 19 5 = true := gb_k_of kd19
theorem gk20 {I : gb_FI} {J : gb_FJ} : gb_k (gb_mk I J) 20 5 = true := gb_k_of kd20
theorem gk21 {I : gb_FI} {J : gb_FJ} : gb_k (gb_mk I J) 21 5 = true := gb_k_of kd21
theorem gk22 {I : gb_FI} {J : gb_FJ} : gb_k (gb_mk I J) 22 32 = true := gb_k_of kd22
theorem gk23 {I : gb_FI} {J : gb_FJ} : gb_k (gb_mk I J) 23 31 = true := gb_k_of kd23
theorem gk24 {I : gb_FI} {J : gb_FJ} : gb_k (gb_mk I J) 24 2 = true := gb_k_of kd24
theorem gk25 {I : gb_FI} {J : gb_FJ} : gb_k (gb_mk I J) 25 35 = true := gb_k_of kd25
theorem gk26 {I : gb_FI} {J : gb_FJ} : gb_k (gb_mk I J) 26 5 = true := gb_k_of kd26
theorem gk27 {I : gb_FI} {J : gb_FJ} : gb_k (gb_mk I J) 27 5 = true := gb_k_of kd27
theorem gk28 {I : gb_FI} {J : gb_FJ} : gb_k (gb_mk I J) 28 5 = true := gb_k_of kd28
theorem gk29 {I : gb_FI} {J : gb_FJ} : gb_k (gb_mk I J) 29 5 = true := gb_k_of kd29
theorem gk30 {I : gb_FI} {J : gb_FJ} : gb_k (gb_mk I J) 30 5 = true := gb_k_of kd30
theorem gk31 {I : gb_FI} {J : gb_FJ} : gb_k (gb_mk I J) 31 5 = true := gb_k_of kd31
theorem gk32 {I : gb_FI} {J : gb_FJ} : gb_k (gb_mk I J) 32 5 = true := gb_k_of kd32
theorem gk33 {I : gb_FI} {J : gb_FJ} : gb_k (gb_mk I J) 33 5 = true := gb_k_of kd33
theorem gk34 {I : gb_FI} {J : gb_FJ} : gb_k (gb_mk I J) 34 5 = true := gb_k_of kd34
theorem gk35 {I : gb_FI} {J : gb_FJ} : gb_k (gb_mk I J) 35 5 = true := gb_k_of kd35
theorem gk36 {I : gb_FI} {J : gb_FJ} : gb_k (gb_mk I J) 36 5 = true := gb_k_of kd36
theorem gk37 {I : gb_FI} {J : gb_FJ} : gb_k (gb_mk I J) 37 5 = true := gb_k_of kd37
theorem gk38 {I : gb_FI} {J : gb_FJ} : gb_k (gb_mk I J) 38 5 = true := gb_k_of kd38
theorem gk39 {I : gb_FI} {J : gb_FJ} : gb_k (gb_mk I J) 39 5 = true := gb_k_of kd39
theorem gk40 {I : gb_FI} {J : gb_FJ} : gb_k (gb_mk I J) 40 5 = true := gb_k_of kd40
theorem gk41 {I : gb_FI} {J : gb_FJ} : gb_k (gb_mk I J) 41 5 = true := gb_k_of kd41
theorem gk42 {I : gb_FI} {J : gb_FJ} : gb_k (gb_mk I J) 42 1 = true := gb_k_of kd42
theorem gk43 {I : gb_FI} {J : gb_FJ} : gb_k (gb_mk I J) 43 23 = true := gb_k_of kd43
theorem gk44 {I : gb_FI} {J : gb_FJ} : gb_k (gb_mk I J) 44 23 = true := gb_k_of kd44
theorem gk45 {I : gb_FI} {J : gb_FJ} : gb_k (gb_mk I J) 45 23 = true := gb_k_of kd45
theorem gk46 {I : gb_FI} {J : gb_FJ} : gb_k (gb_mk I J) 46 23 = true := gb_k_of kd46
theorem gk47 {I : gb_FI} {J : gb_FJ} : gb_k (gb_mk I J) 47 2 = true := gb_k_of kd47
theorem gk48 {I : gb_FI} {J : gb_FJ} : gb_k (gb_mk I J) 48 35 = true := gb_k_of kd48
theorem gk49 {I : gb_FI} {J : gb_FJ} : gb_k (gb_mk I J) 49 5 = true := gb_k_of kd49
theorem gk50 {I : gb_FI} {J : gb_FJ} : gb_k (gb_mk I J) 50 5 = true := gb_k_of kd50
theorem gk51 {I : gb_FI} {J : gb_FJ} : gb_k (gb_mk I J) 51 5 = true := gb_k_of kd51
theorem gk52 {I : gb_FI} {J : gb_FJ} : gb_k (gb_mk I J) 52 5 = true := gb_k_of kd52
theorem gk53 {I : gb_FI} {J : gb_FJ} : gb_k (gb_mk I J) 53 5 = true := gb_k_of kd53
theorem gk54 {I : gb_FI} {J : gb_FJ} : gb_k (gb_mk I J) 54 5 = true := gb_k_of kd54
theorem gk55 {I : gb_FI} {J : gb_FJ} : gb_k (gb_mk I J) 55 5 = true := gb_k_of kd55
theorem gk56 {I : gb_FI} {J : gb_FJ} : gb_k (gb_mk I J) 56 5 = true := gb_k_of kd56
theorem gk57 {I : gb_FI} {J : gb_FJ} : gb_k (gb_mk I J) 57 5 = true := gb_k_of kd57
theorem gk58 {I : gb_FI} {J : gb_FJ} : gb_k (gb_mk I J) 58 5 = true := gb_k_of kd58
theorem gk59 {I : gb_FI} {J : gb_FJ} : gb_k (gb_mk I J) 59 5 = true := gb_k_of kd59
theorem gk60 {I : gb_FI} {J : gb_FJ} : gb_k (gb_mk I J) 60 5 = true := gb_k_of kd60
theorem gk61 {I : gb_FI} {J : gb_FJ} : gb_k (gb_mk I J) 61 5 = true := gb_k_of kd61
theorem gk62 {I : gb_FI} {J : gb_FJ} : gb_k (gb_mk I J) 62 5 = true := gb_k_of kd62
theorem gk63 {I : gb_FI} {J : gb_FJ} : gb_k (gb_mk I J) 63 5 = true := gb_k_of kd63
theorem gk64 {I : gb_FI} {J : gb_FJ} : gb_k (gb_mk I J) 64 5 = true := gb_k_of kd64
theorem gk65 {I : gb_FI} {J : gb_FJ} : gb_k (gb_mk I J) 65 1 = true := gb_k_of kd65
theorem gk66 {I : gb_FI} {J : gb_FJ} : gb_k (gb_mk I J) 66 23 = true := gb_k_of kd66
theorem gk67 {I : gb_FI} {J : gb_FJ} : gb_k (gb_mk I J) 67 23 = true := gb_k_of kd67
theorem gk68 {I : gb_FI} {J : gb_FJ} : gb_k (gb_mk I J) 68 23 = true := gb_k_of kd68
theorem gk69 {I : gb_FI} {J : gb_FJ} : gb_k (gb_mk I J) 69 23 = true := gb_k_of kd69
theorem gk70 {I : gb_FI} {J : gb_FJ} : gb_k (gb_mk I J) 70 2 = true := gb_k_of kd70
theorem gk71 {I : gb_FI} {J : gb_FJ} : gb_k (gb_mk I J) 71 35 = true := gb_k_of kd71
theorem gk72 {I : gb_FI} {J : gb_FJ} : gb_k (gb_mk I J) 72 5 = true := gb_k_of kd72
theorem gk73 {I : gb_FI} {J : gb_FJ} : gb_k (gb_mk I J) 73 5 = true := gb_k_of kd73
theorem gk74 {I : gb_FI} {J : gb_FJ} : gb_k (gb_mk I J) 74 5 = true := gb_k_of kd74
theorem gk75 {I : gb_FI} {J : gb_FJ} : gb_k (gb_mk I J) 75 5 = true := gb_k_of kd75
theorem gk76 {I : gb_FI} {J : gb_FJ} : gb_k (gb_mk I J) 76 5 = true := gb_k_of kd76
theorem gk77 {I : gb_FI} {J : gb_FJ} : gb_k (gb_mk I J) 77 5 = true := gb_k_of kd77
theorem gk78 {I : gb_FI} {J : gb_FJ} : gb_k (gb_mk I J) 78 5 = true := gb_k_of kd78
theorem gk79 {I : gb_FI} {J : gb_FJ} : gb_k (gb_mk I J) 79 5 = true := gb_k_of kd79
theorem gk80 {I : gb_FI} {J : gb_FJ} : gb_k (gb_mk I J) 80 5 = true := gb_k_of kd80
theorem gk81 {I : gb_FI} {J : gb_FJ} : gb_k (gb_mk I J) 81 5 = true := gb_k_of kd81
theorem gk82 {I : gb_FI} {J : gb_FJ} : gb_k (gb_mk I J) 82 5 = true := gb_k_of kd82
theorem gk83 {I : gb_FI} {J : gb_FJ} : gb_k (gb_mk I J) 83 5 = true := gb_k_of kd83
theorem gk84 {I : gb_FI} {J : gb_FJ} : gb_k (gb_mk I J) 84 5 = true := gb_k_of kd84
theorem gk85 {I : gb_FI} {J : gb_FJ} : gb_k (gb_mk I J) 85 5 = true := gb_k_of kd85
theorem gk86 {I : gb_FI} {J : gb_FJ} : gb_k (gb_mk I J) 86 5 = true := gb_k_of kd86
theorem gk87 {I : gb_FI} {J : gb_FJ} : gb_k (gb_mk I J) 87 5 = true := gb_k_of kd87
theorem gk88 {I : gb_FI} {J : gb_FJ} : gb_k (gb_mk I J) 88 1 = true := gb_k_of kd88
theorem gk89 {I : gb_FI} {J : gb_FJ} : gb_k (gb_mk I J) 89 23 = true := gb_k_of kd89
theorem gk90 {I : gb_FI} {J : gb_FJ} : gb_k (gb_mk I J) 90 23 = true := gb_k_of kd90
theorem gk91 {I : gb_FI} {J : gb_FJ} : gb_k (gb_mk I J) 91 23 = true := gb_k_of kd91
theorem gk92 {I : gb_FI} {J : gb_FJ} : gb_k (gb_mk I J) 92 23 = true := gb_k_of kd92
theorem gk93 {I : gb_FI} {J : gb_FJ} : gb_k (gb_mk I J) 93 2 = true := gb_k_of kd93
theorem gk94 {I : gb_FI} {J : gb_FJ} : gb_k (gb_mk I J) 94 35 = true := gb_k_of kd94
theorem gk95 {I : gb_FI} {J : gb_FJ} : gb_k (gb_mk I J) 95 5 = true := gb_k_of kd95
theorem gk96 {I : gb_FI} {J : gb_FJ} : gb_k (gb_mk I J) 96 5 = true := gb_k_of kd96
theorem gk97 {I : gb_FI} {J : gb_FJ} : gb_k (gb_mk I J) 97 5 = true := gb_k_of kd97
theorem gk98 {I : gb_FI} {J : gb_FJ} : gb_k (gb_mk I J) 98 5 = true := gb_k_of kd98
theorem gk99 {I : gb_FI} {J : gb_FJ} : gb_k (gb_mk I J) 99 5 = true := gb_k_of kd99
theorem gk100 {I : gb_FI} {J : gb_FJ} : gb_k (gb_mk I J) 100 5 = true := gb_k_of kd100
theorem gk101 {I : gb_FI} {J : gb_FJ} : gb_k (gb_mk I J) 101 5 = true := gb_k_of kd101
theorem gk102 {I : gb_FI} {J : gb_FJ} : gb_k (gb_mk I J) 102 5 = true := gb_k_of kd102
theorem gk103 {I : gb_FI} {J : gb_FJ} : gb_k (gb_mk I J) 103 5 = true := gb_k_of kd103
theorem gk104 {I : gb_FI} {J : gb_FJ} : gb_k (gb_mk I J) 104 5 = true := gb_k_of kd104
theorem gk105 {I : gb_FI} {J : gb_FJ} : gb_k (gb_mk I J) 105 5 = true := gb_k_of kd105
theorem gk106 {I : gb_FI} {J : gb_FJ} : gb_k (gb_mk I J) 106 5 = true := gb_k_of kd106
theorem gk107 {I : gb_FI} {J : gb_FJ} : gb_k (gb_mk I J) 107 5 = true := gb_k_of kd107
theorem gk108 {I : gb_FI} {J : gb_FJ} : gb_k (gb_mk I J) 108 5 = true := gb_k_of kd108
theorem gk109 {I : gb_FI} {J : gb_FJ} : gb_k (gb_mk I J) 109 5 = true := gb_k_of kd109
theorem gk110 {I : gb_FI} {J : gb_FJ} : gb_k (gb_mk I J) 110 5 = true := gb_k_of kd110
theorem gk111 {I : gb_FI} {J : gb_FJ} : gb_k (gb_mk I J) 111 1 = true := gb_k_of kd111
theorem gk112 {I : gb_FI} {J : gb_FJ} : gb_k (gb_mk I J) 112 23 = true := gb_k_of kd112
theorem gk113 {I : gb_FI} {J : gb_FJ} : gb_k (gb_mk I J) 113 23 = true := gb_k_of kd113
theorem gk114 {I : gb_FI} {J : gb_FJ} : gb_k (gb_mk I J) 114 23 = true := gb_k_of kd114
theorem gk115 {I : gb_FI} {J : gb_FJ} : gb_k (gb_mk I J) 115 23 = true := gb_k_of kd115
theorem gk116 {I : gb_FI} {J : gb_FJ} : gb_k (gb_mk I J) 116 2 = true := gb_k_of kd116
theorem gk117 {I : gb_FI} {J : gb_FJ} : gb_k (gb_mk I J) 117 35 = true := gb_k_of kd117
theorem gk118 {I : gb_FI} {J : gb_FJ} : gb_k (gb_mk I J) 118 5 = true := gb_k_of kd118
theorem gk119 {I : gb_FI} {J : gb_FJ} : gb_k (gb_mk I J) 119 5 = true := gb_k_of kd119
theorem gk120 {I : gb_FI} {J : gb_FJ} : gb_k (gb_mk I J) 120 5 = true := gb_k_of kd120
theorem gk121 {I : gb_FI} {J : gb_FJ} : gb_k (gb_mk I J) 121 5 = true := gb_k_of kd121
theorem gk122 {I : gb_FI} {J : gb_FJ} : gb_k (gb_mk I J) 122 5 = true := gb_k_of kd122
theorem gk123 {I : gb_FI} {J : gb_FJ} : gb_k (gb_mk I J) 123 5 = true := gb_k_of kd123
theorem gk124 {I : gb_FI} {J : gb_FJ} : gb_k (gb_mk I J) 124 5 = true := gb_k_of kd124
theorem gk125 {I : gb_FI} {J : gb_FJ} : gb_k (gb_mk I J) 125 5 = true := gb_k_of kd125
theorem gk126 {I : gb_FI} {J : gb_FJ} : gb_k (gb_mk I J) 126 3 = true := gb_k_of kd126
theorem gk127 {I : gb_FI} {J : gb_FJ} : gb_k (gb_mk I J) 127 20 = true := gb_k_of kd127
theorem gk128 {I : gb_FI} {J : gb_FJ} : gb_k (gb_mk I J) 128 20 = true := gb_k_of kd128
theorem gk129 {I : gb_FI} {J : gb_FJ} : gb_k (gb_mk I J) 129 20 = true := gb_k_of kd129
theorem gk130 {I : gb_FI} {J : gb_FJ} : gb_k (gb_mk I J) 130 20 = true := gb_k_of kd130
theorem gk131 {I : gb_FI} {J : gb_FJ} : gb_k (gb_mk I J) 131 20 = true := gb_k_of kd131
theorem gk132 {I : gb_FI} {J : gb_FJ} : gb_k (gb_mk I J) 132 20 = true := gb_k_of kd132
theorem gk133 {I : gb_FI} {J : gb_FJ} : gb_k (gb_mk I J) 133 4 = true := gb_k_of kd133
theorem gk134 {I : gb_FI} {J : gb_FJ} : gb_k (gb_mk I J) 134 20 = true := gb_k_of kd134
theorem gk135 {I : gb_FI} {J : gb_FJ} : gb_k (gb_mk I J) 135 20 = true := gb_k_of kd135
theorem gk136 {I : gb_FI} {J : gb_FJ} : gb_k (gb_mk I J) 136 20 = true := gb_k_of kd136
theorem gk137 {I : gb_FI} {J : gb_FJ} : gb_k (gb_mk I J) 137 20 = true := gb_k_of kd137
theorem gk138 {I : gb_FI} {J : gb_FJ} : gb_k (gb_mk I J) 138 20 = true := gb_k_of kd138
theorem gk139 {I : gb_FI} {J : gb_FJ} : gb_k (gb_mk I J) 139 6 = true := gb_k_of kd139
theorem gk140 {I : gb_FI} {J : gb_FJ} : gb_k (gb_mk I J) 140 34 = true := gb_k_of kd140
theorem gk141 {I : gb_FI} {J : gb_FJ} : gb_k (gb_mk I J) 141 30 = true := gb_k_of kd141
theorem gk142 {I : gb_FI} {J : gb_FJ} : gb_k (gb_mk I J) 142 20 = true := gb_k_of kd142
theorem gk143 {I : gb_FI} {J : gb_FJ} : gb_k (gb_mk I J) 143 20 = true := gb_k_of kd143
theorem gk144 {I : gb_FI} {J : gb_FJ} : gb_k (gb_mk I J) 144 20 = true := gb_k_of kd144
theorem gk145 {I : gb_FI} {J : gb_FJ} : gb_k (gb_mk I J) 145 20 = true := gb_k_of kd145
theorem gk146 {I : gb_FI} {J : gb_FJ} : gb_k (gb_mk I J) 146 8 = true := gb_k_of kd146
theorem gk147 {I : gb_FI} {J : gb_FJ} : gb_k (gb_mk I J) 147 8 = true := gb_k_of kd147
theorem gk148 {I : gb_FI} {J : gb_FJ} : gb_k (gb_mk I J) 148 4 = true := gb_k_of kd148
theorem gk149 {I : gb_FI} {J : gb_FJ} : gb_k (gb_mk I J) 149 20 = true := gb_k_of kd149
theorem gk150 {I : gb_FI} {J : gb_FJ} : gb_k (gb_mk I J) 150 20 = true := gb_k_of kd150
theorem gk151 {I : gb_FI} {J : gb_FJ} : gb_k (gb_mk I J) 151 20 = true := gb_k_of kd151
theorem gk152 {I : gb_FI} {J : gb_FJ} : gb_k (gb_mk I J) 152 20 = true := gb_k_of kd152
theorem gk153 {I : gb_FI} {J : gb_FJ} : gb_k (gb_mk I J) 153 20 = true := gb_k_of kd153
theorem gk154 {I : gb_FI} {J : gb_FJ} : gb_k (gb_mk I J) 154 4 = true := gb_k_of kd154
theorem gk155 {I : gb_FI} {J : gb_FJ} : gb_k (gb_mk I J) 155 20 = true := gb_k_of kd155
theorem gk156 {I : gb_FI} {J : gb_FJ} : gb_k (gb_mk I J) 156 20 = true := gb_k_of kd156
theorem gk157 {I : gb_FI} {J : gb_FJ} : gb_k (gb_mk I J) 157 20 = true := gb_k_of kd157
theorem gk158 {I : gb_FI} {J : gb_FJ} : gb_k (gb_mk I J) 158 20 = true := gb_k_of kd158
theorem gk159 {I : gb_FI} {J : gb_FJ} : gb_k (gb_mk I J) 159 20 = true := gb_k_of kd159
theorem gk160 {I : gb_FI} {J : gb_FJ} : gb_k (gb_mk I J) 160 4 = true := gb_k_of kd160
theorem gk161 {I : gb_FI} {J : gb_FJ} : gb_k (gb_mk I J) 161 20 = true := gb_k_of kd161
theorem gk162 {I : gb_FI} {J : gb_FJ} : gb_k (gb_mk I J) 162 20 = true := gb_k_of kd162
theorem gk163 {I : gb_FI} {J : gb_FJ} : gb_k (gb_mk I J) 163 20 = true := gb_k_of kd163
theorem gk164 {I : gb_FI} {J : gb_FJ} : gb_k (gb_mk I J) 164 20 = true := gb_k_of kd164
theorem gk165 {I : gb_FI} {J : gb_FJ} : gb_k (gb_mk I J) 165 20 = true := gb_k_of kd165
theorem gk166 {I : gb_FI} {J : gb_FJ} : gb_k (gb_mk I J) 166 4 = true := gb_k_of kd166
theorem gk167 {I : gb_FI} {J : gb_FJ} : gb_k (gb_mk I J) 167 20 = true := gb_k_of kd167
theorem gk168 {I : gb_FI} {J : gb_FJ} : gb_k (gb_mk I J) 168 20 = true := gb_k_of kd168
theorem gk169 {I : gb_FI} {J : gb_FJ} : gb_k (gb_mk I J) 169 20 = true := gb_k_of kd169
theorem gk170 {I : gb_FI} {J : gb_FJ} : gb_k (gb_mk I J) 170 20 = true := gb_k_of kd170
theorem gk171 {I : gb_FI} {J : gb_FJ} : gb_k (gb_mk I J) 171 20 = true := gb_k_of kd171
theorem gk172 {I : gb_FI} {J : gb_FJ} : gb_k (gb_mk I J) 172 4 = true := gb_k_of kd172
theorem gk173 {I : gb_FI} {J : gb_FJ} : gb_k (gb_mk I J) 173 20 = true := gb_k_of kd173
theorem gk174 {I : gb_FI} {J : gb_FJ} : gb_k (gb_mk I J) 174 20 = true := gb_k_of kd174
theorem gk175 {I : gb_FI} {J : gb_FJ} : gb_k (gb_mk I J) 175 20 = true := gb_k_of kd175
theorem gk176 {I : gb_FI} {J : gb_FJ} : gb_k (gb_mk I J) 176 20 = true := gb_k_of kd176
theorem gk177 {I : gb_FI} {J : gb_FJ} : gb_k (gb_mk I J) 177 20 = true := gb_k_of kd177
theorem gk178 {I : gb_FI} {J : gb_FJ} : gb_k (gb_mk I J) 178 4 = true := gb_k_of kd178
theorem gk179 {I : gb_FI} {J : gb_FJ} : gb_k (gb_mk I J) 179 20 = true := gb_k_of kd179
theorem gk180 {I : gb_FI} {J : gb_FJ} : gb_k (gb_mk I J) 180 20 = true := gb_k_of kd180
theorem gk181 {I : gb_FI} {J : gb_FJ} : gb_k (gb_mk I J) 181 20 = true := gb_k_of kd181
theorem gk182 {I : gb_FI} {J : gb_FJ} : gb_k (gb_mk I J) 182 20 = true := gb_k_of kd182
theorem gk183 {I : gb_FI} {J : gb_FJ} : gb_k (gb_mk I J) 183 20 = true := gb_k_of kd183
theorem gk184 {I : gb_FI} {J : gb_FJ} : gb_k (gb_mk I J) 184 4 = true := gb_k_of kd184
theorem gk185 {I : gb_FI} {J : gb_FJ} : gb_k (gb_mk I J) 185 20 = true := gb_k_of kd185
theorem gk186 {I : gb_FI} {J : gb_FJ} : gb_k (gb_mk I J) 186 20 = true := gb_k_of kd186
theorem gk187 {I : gb_FI} {J : gb_FJ} : gb_k (gb_mk I J) 187 20 = true := gb_k_of kd187
theorem gk188 {I : gb_FI} {J : gb_FJ} : gb_k (gb_mk I J) 188 20 = true := gb_k_of kd188
theorem gk189 {I : gb_FI} {J : gb_FJ} : gb_k (gb_mk I J) 189 20 = true := gb_k_of kd189
theorem gk190 {I : gb_FI} {J : gb_FJ} : gb_k (gb_mk I J) 190 4 = true := gb_k_of kd190
theorem gk191 {I : gb_FI} {J : gb_FJ} : gb_k (gb_mk I J) 191 20 = true := gb_k_of kd191
theorem gk192 {I : gb_FI} {J : gb_FJ} : gb_k (gb_mk I J) 192 20 = true := gb_k_of kd192
theorem gk193 {I : gb_FI} {J : gb_FJ} : gb_k (gb_mk I J) 193 20 = true := gb_k_of kd193
theorem gk194 {I : gb_FI} {J : gb_FJ} : gb_k (gb_mk I J) 194 20 = true := gb_k_of kd194
theorem gk195 {I : gb_FI} {J : gb_FJ} : gb_k (gb_mk I J) 195 20 = true := gb_k_of kd195
theorem gk196 {I : gb_FI} {J : gb_FJ} : gb_k (gb_mk I J) 196 0 = true := gb_k_of kd196
theorem gk197 {I : gb_FI} {J : gb_FJ} : gb_k (gb_mk I J) 197 20 = true := gb_k_of kd197
theorem gk198 {I : gb_FI} {J : gb_FJ} : gb_k (gb_mk I J) 198 21 = true := gb_k_of kd198
theorem gk199 {I : gb_FI} {J : gb_FJ} : gb_k (gb_mk I J) 199 23 = true := gb_k_of kd199
theorem gk200 {I : gb_FI} {J : gb_FJ} : gb_k (gb_mk I J) 200 23 = true := gb_k_of kd200
theorem gk201 {I : gb_FI} {J : gb_FJ} : gb_k (gb_mk I J) 201 23 = true := gb_k_of kd201
theorem gk202 {I : gb_FI} {J : gb_FJ} : gb_k (gb_mk I J) 202 23 = true := gb_k_of kd202
theorem gk203 {I : gb_FI} {J : gb_FJ} : gb_k (gb_mk I J) 203 0 = true := gb_k_of kd203
theorem gk204 {I : gb_FI} {J : gb_FJ} : gb_k (gb_mk I J) 204 20 = true := gb_k_of kd204
theorem gk205 {I : gb_FI} {J : gb_FJ} : gb_k (gb_mk I J) 205 21 = true := gb_k_of kd205
theorem gk206 {I : gb_FI} {J : gb_FJ} : gb_k (gb_mk I J) 206 23 = true := gb_k_of kd206
theorem gk207 {I : gb_FI} {J : gb_FJ} : gb_k (gb_mk I J) 207 23 = true := gb_k_of kd207
theorem gk208 {I : gb_FI} {J : gb_FJ} : gb_k (gb_mk I J) 208 23 = true := gb_k_of kd208
theorem gk209 {I : gb_FI} {J : gb_FJ} : gb_k (gb_mk I J) 209 23 = true := gb_k_of kd209
theorem gk210 {I : gb_FI} {J : gb_FJ} : gb_k (gb_mk I J) 210 0 = true := gb_k_of kd210
theorem gk211 {I : gb_FI} {J : gb_FJ} : gb_k (gb_mk I J) 211 20 = true := gb_k_of kd211
theorem gk212 {I : gb_FI} {J : gb_FJ} : gb_k (gb_mk I J) 212 21 = true := gb_k_of kd212
theorem gk213 {I : gb_FI} {J : gb_FJ} : gb_k (gb_mk I J) 213 23 = true := gb_k_of kd213
theorem gk214 {I : gb_FI} {J : gb_FJ} : gb_k (gb_mk I J) 214 23 = true := gb_k_of kd214
theorem gk215 {I : gb_FI} {J : gb_FJ} : gb_k (gb_mk I J) 215 23 = true := gb_k_of kd215
theorem gk216 {I : gb_FI} {J : gb_FJ} : gb_k (gb_mk I J) 216 23 = true := gb_k_of kd216
theorem gk217 {I : gb_FI} {J : gb_FJ} : gb_k (gb_mk I J) 217 0 = true := gb_k_of kd217
theorem gk218 {I : gb_FI} {J : gb_FJ} : gb_k (gb_mk I J) 218 20 = true := gb_k_of kd218
theorem gk219 {I : gb_FI} {J : gb_FJ} : gb_k (gb_mk I J) 219 21 = true := gb_k_of kd219
theorem gk220 {I : gb_FI} {J : gb_FJ} : gb_k (gb_mk I J) 220 23 = true := gb_k_of kd220
theorem gk221 {I : gb_FI} {J : gb_FJ} : gb_k (gb_mk I J) 221 23 = true := gb_k_of kd221
theorem gk222 {I : gb_FI} {J : gb_FJ} : gb_k (gb_mk I J) 222 23 = true := gb_k_of kd222
theorem gk223 {I : gb_FI} {J : gb_FJ} : gb_k (gb_mk I J) 223 23 = true := gb_k_of kd223
theorem gk224 {I : gb_FI} {J : gb_FJ} : gb_k (gb_mk I J) 224 0 = true := gb_k_of kd224
theorem gk225 {I : gb_FI} {J : gb_FJ} : gb_k (gb_mk I J) 225 20 = true := gb_k_of kd225
theorem gk226 {I : gb_FI} {J : gb_FJ} : gb_k (gb_mk I J) 226 21 = true := gb_k_of kd226
theorem gk227 {I : gb_FI} {J : gb_FJ} : gb_k (gb_mk I J) 227 23 = true := gb_k_of kd227
theorem gk228 {I : gb_FI} {J : gb_FJ} : gb_k (gb_mk I J) 228 23 = true := gb_k_of kd228
theorem gk229 {I : gb_FI} {J : gb_FJ} : gb_k (gb_mk I J) 229 23 = true := gb_k_of kd229
theorem gk230 {I : gb_FI} {J : gb_FJ} : gb_k (gb_mk I J) 230 23 = true := gb_k_of kd230
theorem gk231 {I : gb_FI} {J : gb_FJ} : gb_k (gb_mk I J) 231 0 = true := gb_k_of kd231
theorem gk232 {I : gb_FI} {J : gb_FJ} : gb_k (gb_mk I J) 232 20 = true := gb_k_of kd232
theorem gk233 {I : gb_FI} {J : gb_FJ} : gb_k (gb_mk I J) 233 21 = true := gb_k_of kd233
theorem gk234 {I : gb_FI} {J : gb_FJ} : gb_k (gb_mk I J) 234 23 = true := gb_k_of kd234
theorem gk235 {I : gb_FI} {J : gb_FJ} : gb_k (gb_mk I J) 235 23 = true := gb_k_of kd235
theorem gk236 {I : gb_FI} {J : gb_FJ} : gb_k (gb_mk I J) 236 23 = true := gb_k_of kd236
theorem gk237 {I : gb_FI} {J : gb_FJ} : gb_k (gb_mk I J) 237 23 = true := gb_k_of kd237
theorem gk238 {I : gb_FI} {J : gb_FJ} : gb_k (gb_mk I J) 238 8 = true := gb_k_of kd238
theorem gk239 {I : gb_FI} {J : gb_FJ} : gb_k (gb_mk I J) 239 20 = true := gb_k_of kd239
theorem gk240 {I : gb_FI} {J : gb_FJ} : gb_k (gb_mk I J) 240 20 = true := gb_k_of kd240
theorem gk241 {I : gb_FI} {J : gb_FJ} : gb_k (gb_mk I J) 241 11 = true := gb_k_of kd241
theorem gk242 {I : gb_FI} {J : gb_FJ} : gb_k (gb_mk I J) 242 20 = true := gb_k_of kd242
theorem gk243 {I : gb_FI} {J : gb_FJ} : gb_k (gb_mk I J) 243 20 = true := gb_k_of kd243
theorem gk244 {I : gb_FI} {J : gb_FJ} : gb_k (gb_mk I J) 244 20 = true := gb_k_of kd244
theorem gk245 {I : gb_FI} {J : gb_FJ} : gb_k (gb_mk I J) 245 20 = true := gb_k_of kd245
theorem gk246 {I : gb_FI} {J : gb_FJ} : gb_k (gb_mk I J) 246 20 = true := gb_k_of kd246
theorem gk247 {I : gb_FI} {J : gb_FJ} : gb_k (gb_mk I J) 247 21 = true := gb_k_of kd247
theorem gk248 {I : gb_FI} {J : gb_FJ} : gb_k (gb_mk I J) 248 22 = true := gb_k_of kd248
theorem gk249 {I : gb_FI} {J : gb_FJ} : gb_k (gb_mk I J) 249 22 = true := gb_k_of kd249
theorem gk250 {I : gb_FI} {J : gb_FJ} : gb_k (gb_mk I J) 250 20 = true := gb_k_of kd250
theorem gk251 {I : gb_FI} {J : gb_FJ} : gb_k (gb_mk I J) 251 23 = true := gb_k_of kd251
theorem gk252 {I : gb_FI} {J : gb_FJ} : gb_k (gb_mk I J) 252 23 = true := gb_k_of kd252
theorem gk253 {I : gb_FI} {J : gb_FJ} : gb_k (gb_mk I J) 253 23 = true := gb_k_of kd253
theorem gk254 {I : gb_FI} {J : gb_FJ} : gb_k (gb_mk I J) 254 23 = true := gb_k_of kd254
theorem gk255 {I : gb_FI} {J : gb_FJ} : gb_k (gb_mk I J) 255 23 = true := gb_k_of kd255
theorem gk256 {I : gb_FI} {J : gb_FJ} : gb_k (gb_mk I J) 256 23 = true := gb_k_of kd256
theorem gk257 {I : gb_FI} {J : gb_FJ} : gb_k (gb_mk I J) 257 23 = true := gb_k_of kd257
theorem gk258 {I : gb_FI} {J : gb_FJ} : gb_k (gb_mk I J) 258 23 = true := gb_k_of kd258
theorem gk259 {I : gb_FI} {J : gb_FJ} : gb_k (gb_mk I J) 259 20 = true := gb_k_of kd259
theorem gk260 {I : gb_FI} {J : gb_FJ} : gb_k (gb_mk I J) 260 20 = true := gb_k_of kd260
theorem gk261 {I : gb_FI} {J : gb_FJ} : gb_k (gb_mk I J) 261 20 = true := gb_k_of kd261
theorem gk262 {I : gb_FI} {J : gb_FJ} : gb_k (gb_mk I J) 262 20 = true := gb_k_of kd262
theorem gk263 {I : gb_FI} {J : gb_FJ} : gb_k (gb_mk I J) 263 20 = true := gb_k_of kd263
theorem gk264 {I : gb_FI} {J : gb_FJ} : gb_k (gb_mk I J) 264 20 = true := gb_k_of kd264
theorem gk265 {I : gb_FI} {J : gb_FJ} : gb_k (gb_mk I J) 265 20 = true := gb_k_of kd265
theorem gk266 {I : gb_FI} {J : gb_FJ} : gb_k (gb_mk I J) 266 20 = true := gb_k_of kd266
theorem gk267 {I : gb_FI} {J : gb_FJ} : gb_k (gb_mk I J) 267 20 = true := gb_k_of kd267
theorem gk268 {I : gb_FI} {J : gb_FJ} : gb_k (gb_mk I J) 268 20 = true := gb_k_of kd268
theorem gr0_0 {I : gb_FI} {J : gb_FJ} : gb_R (gb_mk I J) 0 0 = some 1 := rf0_0
theorem gr0_1 {I : gb_FI} {J : gb_FJ} : gb_R (gb_mk I J) 0 1 = some 3 := rf0_1
theorem gr0_2 {I : gb_FI} {J : gb_FJ} : gb_R (gb_mk I J) 0 2 = some 22 := rf0_2
theorem gr0_3 {I : gb_FI} {J : gb_FJ} : gb_R (gb_mk I J) 0 3 = some 116 := rf0_3
theorem gr0_4 {I : gb_FI} {J : gb_FJ} : gb_R (gb_mk I J) 0 4 = some 23 := rf0_4
theorem gr0_5 {I : gb_FI} {J : gb_FJ} : gb_R (gb_mk I J) 0 5 = some 126 := rf0_5
theorem gr0_6 {I : gb_FI} {J : gb_FJ} : gb_R (gb_mk I J) 0 6 = some 139 := rf0_6
theorem gr0_7 {I : gb_FI} {J : gb_FJ} : gb_R (gb_mk I J) 0 7 = some 133 := rf0_7
theorem gr0_8 {I : gb_FI} {J : gb_FJ} : gb_R (gb_mk I J) 0 8 = some 224 := rf0_8
theorem gr0_9 {I : gb_FI} {J : gb_FJ} : gb_R (gb_mk I J) 0 9 = some 231 := rf0_9
theorem gr0_10 {I : gb_FI} {J : gb_FJ} : gb_R (gb_mk I J) 0 10 = some 238 := rf0_10
theorem gr0_11 {I : gb_FI} {J : gb_FJ} : gb_R (gb_mk I J) 0 11 = some 239 := rf0_11
theorem gr0_12 {I : gb_FI} {J : gb_FJ} : gb_R (gb_mk I J) 0 12 = some 240 := rf0_12
theorem gr1_0 {I : gb_FI} {J : gb_FJ} : gb_R (gb_mk I J) 1 0 = some 2 := rf1_0
theorem gr3_0 {I : gb_FI} {J : gb_FJ} : gb_R (gb_mk I J) 3 0 = some 1 := rf3_0
theorem gr3_1 {I : gb_FI} {J : gb_FJ} : gb_R (gb_mk I J) 3 1 = some 4 := rf3_1
theorem gr4_0 {I : gb_FI} {J : gb_FJ} : gb_R (gb_mk I J) 4 0 = some 5 := rf4_0
theorem gr5_0 {I : gb_FI} {J : gb_FJ} : gb_R (gb_mk I J) 5 0 = some 6 := rf5_0
theorem gr5_1 {I : gb_FI} {J : gb_FJ} : gb_R (gb_mk I J) 5 1 = some 7 := rf5_1
theorem gr5_2 {I : gb_FI} {J : gb_FJ} : gb_R (gb_mk I J) 5 2 = some 8 := rf5_2
theorem gr5_3 {I : gb_FI} {J : gb_FJ} : gb_R (gb_mk I J) 5 3 = some 9 := rf5_3
theorem gr5_4 {I : gb_FI} {J : gb_FJ} : gb_R (gb_mk I J) 5 4 = some 10 := rf5_4
theorem gr5_5 {I : gb_FI} {J : gb_FJ} : gb_R (gb_mk I J) 5 5 = some 11 := rf5_5
theorem gr5_6 {I : gb_FI} {J : gb_FJ} : gb_R (gb_mk I J) 5 6 = some 12 := rf5_6
theorem gr5_7 {I : gb_FI} {J : gb_FJ} : gb_R (gb_mk I J) 5 7 = some 13 := rf5_7
theorem gr5_8 {I : gb_FI} {J : gb_FJ} : gb_R (gb_mk I J) 5 8 = some 14 := rf5_8
theorem gr5_9 {I : gb_FI} {J : gb_FJ} : gb_R (gb_mk I J) 5 9 = some 15 := rf5_9
theorem gr5_10 {I : gb_FI} {J : gb_FJ} : gb_R (gb_mk I J) 5 10 = some 16 := rf5_10
theorem gr5_11 {I : gb_FI} {J : gb_FJ} : gb_R (gb_mk I J) 5 11 = some 17 := rf5_11
theorem gr5_12 {I : gb_FI} {J : gb_FJ} : gb_R (gb_mk I J) 5 12 = some 18 := rf5_12
theorem gr5_13 {I : gb_FI} {J : gb_FJ} : gb_R (gb_mk I J) 5 13 = some 19 := rf5_13
theorem gr5_14 {I : gb_FI} {J : gb_FJ} : gb_R (gb_mk I J) 5 14 = some 20 := rf5_14
theorem gr5_15 {I : gb_FI} {J : gb_FJ} : gb_R (gb_mk I J) 5 15 = some 21 := rf5_15
theorem gr22_0 {I : gb_FI} {J : gb_FJ} : gb_R (gb_mk I J) 22 0 = some 24 := rf22_0
theorem gr22_1 {I : gb_FI} {J : gb_FJ} : gb_R (gb_mk I J) 22 1 = some 47 := rf22_1
theorem gr22_2 {I : gb_FI} {J : gb_FJ} : gb_R (gb_mk I J) 22 2 = some 70 := rf22_2
theorem gr22_3 {I : gb_FI} {J : gb_FJ} : gb_R (gb_mk I J) 22 3 = some 93 := rf22_3
theorem gr23_0 {I : gb_FI} {J : gb_FJ} : gb_R (gb_mk I J) 23 0 = some 42 := rf23_0
theorem gr23_1 {I : gb_FI} {J : gb_FJ} : gb_R (gb_mk I J) 23 1 = some 65 := rf23_1
theorem gr23_2 {I : gb_FI} {J : gb_FJ} : gb_R (gb_mk I J) 23 2 = some 88 := rf23_2
theorem gr23_3 {I : gb_FI} {J : gb_FJ} : gb_R (gb_mk I J) 23 3 = some 111 := rf23_3
theorem gr24_0 {I : gb_FI} {J : gb_FJ} : gb_R (gb_mk I J) 24 0 = some 25 := rf24_0
theorem gr25_0 {I : gb_FI} {J : gb_FJ} : gb_R (gb_mk I J) 25 0 = some 26 := rf25_0
theorem gr25_1 {I : gb_FI} {J : gb_FJ} : gb_R (gb_mk I J) 25 1 = some 27 := rf25_1
theorem gr25_2 {I : gb_FI} {J : gb_FJ} : gb_R (gb_mk I J) 25 2 = some 28 := rf25_2
theorem gr25_3 {I : gb_FI} {J : gb_FJ} : gb_R (gb_mk I J) 25 3 = some 29 := rf25_3
theorem gr25_4 {I : gb_FI} {J : gb_FJ} : gb_R (gb_mk I J) 25 4 = some 30 := rf25_4
theorem gr25_5 {I : gb_FI} {J : gb_FJ} : gb_R (gb_mk I J) 25 5 = some 31 := rf25_5
theorem gr25_6 {I : gb_FI} {J : gb_FJ} : gb_R (gb_mk I J) 25 6 = some 32 := rf25_6
theorem gr25_7 {I : gb_FI} {J : gb_FJ} : gb_R (gb_mk I J) 25 7 = some 33 := rf25_7
theorem gr25_8 {I : gb_FI} {J : gb_FJ} : gb_R (gb_mk I J) 25 8 = some 34 := rf25_8
theorem gr25_9 {I : gb_FI} {J : gb_FJ} : gb_R (gb_mk I J) 25 9 = some 35 := rf25_9
theorem gr25_10 {I : gb_FI} {J : gb_FJ} : gb_R (gb_mk I J) 25 10 = some 36 := rf25_10
theorem gr25_11 {I : gb_FI} {J : gb_FJ} : gb_R (gb_mk I J) 25 11 = some 37 := rf25_11
theorem gr25_12 {I : gb_FI} {J : gb_FJ} : gb_R (gb_mk I J) 25 12 = some 38 := rf25_12
theorem gr25_13 {I : gb_FI} {J : gb_FJ} : gb_R (gb_mk I J) 25 13 = some 39 := rf25_13
theorem gr25_14 {I : gb_FI} {J : gb_FJ} : gb_R (gb_mk I J) 25 14 = some 40 := rf25_14
theorem gr25_15 {I : gb_FI} {J : gb_FJ} : gb_R (gb_mk I J) 25 15 = some 41 := rf25_15
theorem gr42_0 {I : gb_FI} {J : gb_FJ} : gb_R (gb_mk I J) 42 0 = some 43 := rf42_0
theorem gr42_1 {I : gb_FI} {J : gb_FJ} : gb_R (gb_mk I J) 42 1 = some 44 := rf42_1
theorem gr42_2 {I : gb_FI} {J : gb_FJ} : gb_R (gb_mk I J) 42 2 = some 45 := rf42_2
theorem gr42_3 {I : gb_FI} {J : gb_FJ} : gb_R (gb_mk I J) 42 3 = some 46 := rf42_3
theorem gr47_0 {I : gb_FI} {J : gb_FJ} : gb_R (gb_mk I J) 47 0 = some 48 := rf47_0
theorem gr48_0 {I : gb_FI} {J : gb_FJ} : gb_R (gb_mk I J) 48 0 = some 49 := rf48_0
theorem gr48_1 {I : gb_FI} {J : gb_FJ} : gb_R (gb_mk I J) 48 1 = some 50 := rf48_1
theorem gr48_2 {I : gb_FI} {J : gb_FJ} : gb_R (gb_mk I J) 48 2 = some 51 := rf48_2
theorem gr48_3 {I : gb_FI} {J : gb_FJ} : gb_R (gb_mk I J) 48 3 = some 52 := rf48_3
theorem gr48_4 {I : gb_FI} {J : gb_FJ} : gb_R (gb_mk I J) 48 4 = some 53 := rf48_4
theorem gr48_5 {I : gb_FI} {J : gb_FJ} : gb_R (gb_mk I J) 48 5 = some 54 := rf48_5
theorem gr48_6 {I : gb_FI} {J : gb_FJ} : gb_R (gb_mk I J) 48 6 = some 55 := rf48_6
theorem gr48_7 {I : gb_FI} {J : gb_FJ} : gb_R (gb_mk I J) 48 7 = some 56 := rf48_7
theorem gr48_8 {I : gb_FI} {J : gb_FJ} : gb_R (gb_mk I J) 48 8 = some 57 := rf48_8
theorem gr48_9 {I : gb_FI} {J : gb_FJ} : gb_R (gb_mk I J) 48 9 = some 58 := rf48_9
theorem gr48_10 {I : gb_FI} {J : gb_FJ} : gb_R (gb_mk I J) 48 10 = some 59 := rf48_10
theorem gr48_11 {I : gb_FI} {J : gb_FJ} : gb_R (gb_mk I J) 48 11 = some 60 := rf48_11
theorem gr48_12 {I : gb_FI} {J : gb_FJ} : gb_R (gb_mk I J) 48 12 = some 61 := rf48_12
theorem gr48_13 {I : gb_FI} {J : gb_FJ} : gb_R (gb_mk I J) 48 13 = some 62 := rf48_13
theorem gr48_14 {I : gb_FI} {J : gb_FJ} : gb_R (gb_mk I J) 48 14 = some 63 := rf48_14
theorem gr48_15 {I : gb_FI} {J : gb_FJ} : gb_R (gb_mk I J) 48 15 = some 64 := rf48_15
theorem gr65_0 {I : gb_FI} {J : gb_FJ} : gb_R (gb_mk I J) 65 0 = some 66 := rf65_0
theorem gr65_1 {I : gb_FI} {J : gb_FJ} : gb_R (gb_mk I J) 65 1 = some 67 := rf65_1
theorem gr65_2 {I : gb_FI} {J : gb_FJ} : gb_R (gb_mk I J) 65 2 = some 68 := rf65_2
theorem gr65_3 {I : gb_FI} {J : gb_FJ} : gb_R (gb_mk I J) 65 3 = some 69 := rf65_3
theorem gr70_0 {I : gb_FI} {J : gb_FJ} : gb_R (gb_mk I J) 70 0 = some 71 := rf70_0
theorem gr71_0 {I : gb_FI} {J : gb_FJ} : gb_R (gb_mk I J) 71 0 = some 72 := rf71_0
theorem gr71_1 {I : gb_FI} {J : gb_FJ} : gb_R (gb_mk I J) 71 1 = some 73 := rf71_1
theorem gr71_2 {I : gb_FI} {J : gb_FJ} : gb_R (gb_mk I J) 71 2 = some 74 := rf71_2
theorem gr71_3 {I : gb_FI} {J : gb_FJ} : gb_R (gb_mk I J) 71 3 = some 75 := rf71_3
theorem gr71_4 {I : gb_FI} {J : gb_FJ} : gb_R (gb_mk I J) 71 4 = some 76 := rf71_4
theorem gr71_5 {I : gb_FI} {J : gb_FJ} : gb_R (gb_mk I J) 71 5 = some 77 := rf71_5
theorem gr71_6 {I : gb_FI} {J : gb_FJ} : gb_R (gb_mk I J) 71 6 = some 78 := rf71_6
theorem gr71_7 {I : gb_FI} {J : gb_FJ} : gb_R (gb_mk I J) 71 7 = some 79 := rf71_7
theorem gr71_8 {I : gb_FI} {J : gb_FJ} : gb_R (gb_mk I J) 71 8 = some 80 := rf71_8
theorem gr71_9 {I : gb_FI} {J : gb_FJ} : gb_R (gb_mk I J) 71 9 = some 81 := rf71_9
theorem gr71_10 {I : gb_FI} {J : gb_FJ} : gb_R (gb_mk I J) 71 10 = some 82 := rf71_10
theorem gr71_11 {I : gb_FI} {J : gb_FJ} : gb_R (gb_mk I J) 71 11 = some 83 := rf71_11
theorem gr71_12 {I : gb_FI} {J : gb_FJ} : gb_R (gb_mk I J) 71 12 = some 84 := rf71_12
theorem gr71_13 {I : gb_FI} {J : gb_FJ} : gb_R (gb_mk I J) 71 13 = some 85 := rf71_13
theorem gr71_14 {I : gb_FI} {J : gb_FJ} : gb_R (gb_mk I J) 71 14 = some 86 := rf71_14
theorem gr71_15 {I : gb_FI} {J : gb_FJ} : gb_R (gb_mk I J) 71 15 = some 87 := rf71_15
theorem gr88_0 {I : gb_FI} {J : gb_FJ} : gb_R (gb_mk I J) 88 0 = some 89 := rf88_0
theorem gr88_1 {I : gb_FI} {J : gb_FJ} : gb_R (gb_mk I J) 88 1 = some 90 := rf88_1
theorem gr88_2 {I : gb_FI} {J : gb_FJ} : gb_R (gb_mk I J) 88 2 = some 91 := rf88_2
theorem gr88_3 {I : gb_FI} {J : gb_FJ} : gb_R (gb_mk I J) 88 3 = some 92 := rf88_3
theorem gr93_0 {I : gb_FI} {J : gb_FJ} : gb_R (gb_mk I J) 93 0 = some 94 := rf93_0
theorem gr94_0 {I : gb_FI} {J : gb_FJ} : gb_R (gb_mk I J) 94 0 = some 95 := rf94_0
theorem gr94_1 {I : gb_FI} {J : gb_FJ} : gb_R (gb_mk I J) 94 1 = some 96 := rf94_1
theorem gr94_2 {I : gb_FI} {J : gb_FJ} : gb_R (gb_mk I J) 94 2 = some 97 := rf94_2
theorem gr94_3 {I : gb_FI} {J : gb_FJ} : gb_R (gb_mk I J) 94 3 = some 98 := rf94_3
theorem gr94_4 {I : gb_FI} {J : gb_FJ} : gb_R (gb_mk I J) 94 4 = some 99 := rf94_4
theorem gr94_5 {I : gb_FI} {J : gb_FJ} : gb_R (gb_mk I J) 94 5 = some 100 := rf94_5
theorem gr94_6 {I : gb_FI} {J : gb_FJ} : gb_R (gb_mk I J) 94 6 = some 101 := rf94_6
theorem gr94_7 {I : gb_FI} {J : gb_FJ} : gb_R (gb_mk I J) 94 7 = some 102 := rf94_7
theorem gr94_8 {I : gb_FI} {J : gb_FJ} : gb_R (gb_mk I J) 94 8 = some 103 := rf94_8
theorem gr94_9 {I : gb_FI} {J : gb_FJ} : gb_R (gb_mk I J) 94 9 = some 104 := rf94_9
theorem gr94_10 {I : gb_FI} {J : gb_FJ} : gb_R (gb_mk I J) 94 10 = some 105 := rf94_10
theorem gr94_11 {I : gb_FI} {J : gb_FJ} : gb_R (gb_mk I J) 94 11 = some 106 := rf94_11
theorem gr94_12 {I : gb_FI} {J : gb_FJ} : gb_R (gb_mk I J) 94 12 = some 107 := rf94_12
theorem gr94_13 {I : gb_FI} {J : gb_FJ} : gb_R (gb_mk I J) 94 13 = some 108 := rf94_13
theorem gr94_14 {I : gb_FI} {J : gb_FJ} : gb_R (gb_mk I J) 94 14 = some 109 := rf94_14
theorem gr94_15 {I : gb_FI} {J : gb_FJ} : gb_R (gb_mk I J) 94 15 = some 110 := rf94_15
theorem gr111_0 {I : gb_FI} {J : gb_FJ} : gb_R (gb_mk I J) 111 0 = some 112 := rf111_0
theorem gr111_1 {I : gb_FI} {J : gb_FJ} : gb_R (gb_mk I J) 111 1 = some 113 := rf111_1
theorem gr111_2 {I : gb_FI} {J : gb_FJ} : gb_R (gb_mk I J) 111 2 = some 114 := rf111_2
theorem gr111_3 {I : gb_FI} {J : gb_FJ} : gb_R (gb_mk I J) 111 3 = some 115 := rf111_3
theorem gr116_0 {I : gb_FI} {J : gb_FJ} : gb_R (gb_mk I J) 116 0 = some 117 := rf116_0
theorem gr117_0 {I : gb_FI} {J : gb_FJ} : gb_R (gb_mk I J) 117 0 = some 118 := rf117_0
theorem gr117_1 {I : gb_FI} {J : gb_FJ} : gb_R (gb_mk I J) 117 1 = some 119 := rf117_1
theorem gr117_2 {I : gb_FI} {J : gb_FJ} : gb_R (gb_mk I J) 117 2 = some 120 := rf117_2
theorem gr117_3 {I : gb_FI} {J : gb_FJ} : gb_R (gb_mk I J) 117 3 = some 121 := rf117_3
theorem gr117_4 {I : gb_FI} {J : gb_FJ} : gb_R (gb_mk I J) 117 4 = some 122 := rf117_4
theorem gr117_5 {I : gb_FI} {J : gb_FJ} : gb_R (gb_mk I J) 117 5 = some 123 := rf117_5
theorem gr117_6 {I : gb_FI} {J : gb_FJ} : gb_R (gb_mk I J) 117 6 = some 124 := rf117_6
theorem gr117_7 {I : gb_FI} {J : gb_FJ} : gb_R (gb_mk I J) 117 7 = some 125 := rf117_7
theorem gr126_0 {I : gb_FI} {J : gb_FJ} : gb_R (gb_mk I J) 126 0 = some 127 := rf126_0
theorem gr126_1 {I : gb_FI} {J : gb_FJ} : gb_R (gb_mk I J) 126 1 = some 128 := rf126_1
theorem gr126_2 {I : gb_FI} {J : gb_FJ} : gb_R (gb_mk I J) 126 2 = some 129 := rf126_2
theorem gr126_4 {I : gb_FI} {J : gb_FJ} : gb_R (gb_mk I J) 126 4 = some 130 := rf126_4
theorem gr126_6 {I : gb_FI} {J : gb_FJ} : gb_R (gb_mk I J) 126 6 = some 131 := rf126_6
theorem gr126_7 {I : gb_FI} {J : gb_FJ} : gb_R (gb_mk I J) 126 7 = some 132 := rf126_7
theorem gr133_0 {I : gb_FI} {J : gb_FJ} : gb_R (gb_mk I J) 133 0 = some 134 := rf133_0
theorem gr133_1 {I : gb_FI} {J : gb_FJ} : gb_R (gb_mk I J) 133 1 = some 135 := rf133_1
theorem gr133_2 {I : gb_FI} {J : gb_FJ} : gb_R (gb_mk I J) 133 2 = some 136 := rf133_2
theorem gr133_3 {I : gb_FI} {J : gb_FJ} : gb_R (gb_mk I J) 133 3 = some 137 := rf133_3
theorem gr133_4 {I : gb_FI} {J : gb_FJ} : gb_R (gb_mk I J) 133 4 = some 138 := rf133_4
theorem gr139_0 {I : gb_FI} {J : gb_FJ} : gb_R (gb_mk I J) 139 0 = some 116 := rf139_0
theorem gr139_1 {I : gb_FI} {J : gb_FJ} : gb_R (gb_mk I J) 139 1 = some 140 := rf139_1
theorem gr139_2 {I : gb_FI} {J : gb_FJ} : gb_R (gb_mk I J) 139 2 = some 141 := rf139_2
theorem gr139_3 {I : gb_FI} {J : gb_FJ} : gb_R (gb_mk I J) 139 3 = some 142 := rf139_3
theorem gr139_4 {I : gb_FI} {J : gb_FJ} : gb_R (gb_mk I J) 139 4 = some 143 := rf139_4
theorem gr139_5 {I : gb_FI} {J : gb_FJ} : gb_R (gb_mk I J) 139 5 = some 144 := rf139_5
theorem gr139_6 {I : gb_FI} {J : gb_FJ} : gb_R (gb_mk I J) 139 6 = some 145 := rf139_6
theorem gr139_8 {I : gb_FI} {J : gb_FJ} : gb_R (gb_mk I J) 139 8 = some 146 := rf139_8
theorem gr139_9 {I : gb_FI} {J : gb_FJ} : gb_R (gb_mk I J) 139 9 = some 147 := rf139_9
theorem gr140_0 {I : gb_FI} {J : gb_FJ} : gb_R (gb_mk I J) 140 0 = some 148 := rf140_0
theorem gr140_1 {I : gb_FI} {J : gb_FJ} : gb_R (gb_mk I J) 140 1 = some 154 := rf140_1
theorem gr140_2 {I : gb_FI} {J : gb_FJ} : gb_R (gb_mk I J) 140 2 = some 160 := rf140_2
theorem gr140_3 {I : gb_FI} {J : gb_FJ} : gb_R (gb_mk I J) 140 3 = some 166 := rf140_3
theorem gr140_4 {I : gb_FI} {J : gb_FJ} : gb_R (gb_mk I J) 140 4 = some 172 := rf140_4
theorem gr140_5 {I : gb_FI} {J : gb_FJ} : gb_R (gb_mk I J) 140 5 = some 178 := rf140_5
theorem gr140_6 {I : gb_FI} {J : gb_FJ} : gb_R (gb_mk I J) 140 6 = some 184 := rf140_6
theorem gr140_7 {I : gb_FI} {J : gb_FJ} : gb_R (gb_mk I J) 140 7 = some 190 := rf140_7
theorem gr141_0 {I : gb_FI} {J : gb_FJ} : gb_R (gb_mk I J) 141 0 = some 196 := rf141_0
theorem gr141_1 {I : gb_FI} {J : gb_FJ} : gb_R (gb_mk I J) 141 1 = some 203 := rf141_1
theorem gr141_2 {I : gb_FI} {J : gb_FJ} : gb_R (gb_mk I J) 141 2 = some 210 := rf141_2
theorem gr141_3 {I : gb_FI} {J : gb_FJ} : gb_R (gb_mk I J) 141 3 = some 217 := rf141_3
theorem gr148_0 {I : gb_FI} {J : gb_FJ} : gb_R (gb_mk I J) 148 0 = some 149 := rf148_0
theorem gr148_1 {I : gb_FI} {J : gb_FJ} : gb_R (gb_mk I J) 148 1 = some 150 := rf148_1
theorem gr148_2 {I : gb_FI} {J : gb_FJ} : gb_R (gb_mk I J) 148 2 = some 151 := rf148_2
theorem gr148_3 {I : gb_FI} {J : gb_FJ} : gb_R (gb_mk I J) 148 3 = some 152 := rf148_3
theorem gr148_4 {I : gb_FI} {J : gb_FJ} : gb_R (gb_mk I J) 148 4 = some 153 := rf148_4
theorem gr154_0 {I : gb_FI} {J : gb_FJ} : gb_R (gb_mk I J) 154 0 = some 155 := rf154_0
theorem gr154_1 {I : gb_FI} {J : gb_FJ} : gb_R (gb_mk I J) 154 1 = some 156 := rf154_1
theorem gr154_2 {I : gb_FI} {J : gb_FJ} : gb_R (gb_mk I J) 154 2 = some 157 := rf154_2
theorem gr154_3 {I : gb_FI} {J : gb_FJ} : gb_R (gb_mk I J) 154 3 = some 158 := rf154_3
theorem gr154_4 {I : gb_FI} {J : gb_FJ} : gb_R (gb_mk I J) 154 4 = some 159 := rf154_4
theorem gr160_0 {I : gb_FI} {J : gb_FJ} : gb_R (gb_mk I J) 160 0 = some 161 := rf160_0
theorem gr160_1 {I : gb_FI} {J : gb_FJ} : gb_R (gb_mk I J) 160 1 = some 162 := rf160_1
theorem gr160_2 {I : gb_FI} {J : gb_FJ} : gb_R (gb_mk I J) 160 2 = some 163 := rf160_2
theorem gr160_3 {I : gb_FI} {J : gb_FJ} : gb_R (gb_mk I J) 160 3 = some 164 := rf160_3
theorem gr160_4 {I : gb_FI} {J : gb_FJ} : gb_R (gb_mk I J) 160 4 = some 165 := rf160_4
theorem gr166_0 {I : gb_FI} {J : gb_FJ} : gb_R (gb_mk I J) 166 0 = some 167 := rf166_0
theorem gr166_1 {I : gb_FI} {J : gb_FJ} : gb_R (gb_mk I J) 166 1 = some 168 := rf166_1
theorem gr166_2 {I : gb_FI} {J : gb_FJ} : gb_R (gb_mk I J) 166 2 = some 169 := rf166_2
theorem gr166_3 {I : gb_FI} {J : gb_FJ} : gb_R (gb_mk I J) 166 3 = some 170 := rf166_3
theorem gr166_4 {I : gb_FI} {J : gb_FJ} : gb_R (gb_mk I J) 166 4 = some 171 := rf166_4
theorem gr172_0 {I : gb_FI} {J : gb_FJ} : gb_R (gb_mk I J) 172 0 = some 173 := rf172_0
theorem gr172_1 {I : gb_FI} {J : gb_FJ} : gb_R (gb_mk I J) 172 1 = some 174 := rf172_1
theorem gr172_2 {I : gb_FI} {J : gb_FJ} : gb_R (gb_mk I J) 172 2 = some 175 := rf172_2
theorem gr172_3 {I : gb_FI} {J : gb_FJ} : gb_R (gb_mk I J) 172 3 = some 176 := rf172_3
theorem gr172_4 {I : gb_FI} {J : gb_FJ} : gb_R (gb_mk I J) 172 4 = some 177 := rf172_4
theorem gr178_0 {I : gb_FI} {J : gb_FJ} : gb_R (gb_mk I J) 178 0 = some 179 := rf178_0
theorem gr178_1 {I : gb_FI} {J : gb_FJ} : gb_R (gb_mk I J) 178 1 = some 180 := rf178_1
theorem gr178_2 {I : gb_FI} {J : gb_FJ} : gb_R (gb_mk I J) 178 2 = some 181 := rf178_2
theorem gr178_3 {I : gb_FI} {J : gb_FJ} : gb_R (gb_mk I J) 178 3 = some 182 := rf178_3
theorem gr178_4 {I : gb_FI} {J : gb_FJ} : gb_R (gb_mk I J) 178 4 = some 183 := rf178_4
theorem gr184_0 {I : gb_FI} {J : gb_FJ} : gb_R (gb_mk I J) 184 0 = some 185 := rf184_0
theorem gr184_1 {I : gb_FI} {J : gb_FJ} : gb_R (gb_mk I J) 184 1 = some 186 := rf184_1
theorem gr184_2 {I : gb_FI} {J : gb_FJ} : gb_R (gb_mk I J) 184 2 = some 187 := rf184_2
theorem gr184_3 {I : gb_FI} {J : gb_FJ} : gb_R (gb_mk I J) 184 3 = some 188 := rf184_3
theorem gr184_4 {I : gb_FI} {J : gb_FJ} : gb_R (gb_mk I J) 184 4 = some 189 := rf184_4
theorem gr190_0 {I : gb_FI} {J : gb_FJ} : gb_R (gb_mk I J) 190 0 = some 191 := rf190_0
theorem gr190_1 {I : gb_FI} {J : gb_FJ} : gb_R (gb_mk I J) 190 1 = some 192 := rf190_1
theorem gr190_2 {I : gb_FI} {J : gb_FJ} : gb_R (gb_mk I J) 190 2 = some 193 := rf190_2
theorem gr190_3 {I : gb_FI} {J : gb_FJ} : gb_R (gb_mk I J) 190 3 = some 194 := rf190_3
theorem gr190_4 {I : gb_FI} {J : gb_FJ} : gb_R (gb_mk I J) 190 4 = some 195 := rf190_4
theorem gr196_0 {I : gb_FI} {J : gb_FJ} : gb_R (gb_mk I J) 196 0 = some 197 := rf196_0
theorem gr196_1 {I : gb_FI} {J : gb_FJ} : gb_R (gb_mk I J) 196 1 = some 198 := rf196_1
theorem gr196_2 {I : gb_FI} {J : gb_FJ} : gb_R (gb_mk I J) 196 2 = some 199 := rf196_2
theorem gr196_3 {I : gb_FI} {J : gb_FJ} : gb_R (gb_mk I J) 196 3 = some 200 := rf196_3
theorem gr196_4 {I : gb_FI} {J : gb_FJ} : gb_R (gb_mk I J) 196 4 = some 201 := rf196_4
theorem gr196_5 {I : gb_FI} {J : gb_FJ} : gb_R (gb_mk I J) 196 5 = some 202 := rf196_5
theorem gr203_0 {I : gb_FI} {J : gb_FJ} : gb_R (gb_mk I J) 203 0 = some 204 := rf203_0
theorem gr203_1 {I : gb_FI} {J : gb_FJ} : gb_R (gb_mk I J) 203 1 = some 205 := rf203_1
theorem gr203_2 {I : gb_FI} {J : gb_FJ} : gb_R (gb_mk I J) 203 2 = some 206 := rf203_2
theorem gr203_3 {I : gb_FI} {J : gb_FJ} : gb_R (gb_mk I J) 203 3 = some 207 := rf203_3
theorem gr203_4 {I : gb_FI} {J : gb_FJ} : gb_R (gb_mk I J) 203 4 = some 208 := rf203_4
theorem gr203_5 {I : gb_FI} {J : gb_FJ} : gb_R (gb_mk I J) 203 5 = some 209 := rf203_5
theorem gr210_0 {I : gb_FI} {J : gb_FJ} : gb_R (gb_mk I J) 210 0 = some 211 := rf210_0
theorem gr210_1 {I : gb_FI} {J : gb_FJ} : gb_R (gb_mk I J) 210 1 = some 212 := rf210_1
theorem gr210_2 {I : gb_FI} {J : gb_FJ} : gb_R (gb_mk I J) 210 2 = some 213 := rf210_2
theorem gr210_3 {I : gb_FI} {J : gb_FJ} : gb_R (gb_mk I J) 210 3 = some 214 := rf210_3
theorem gr210_4 {I : gb_FI} {J : gb_FJ} : gb_R (gb_mk I J) 210 4 = some 215 := rf210_4
theorem gr210_5 {I : gb_FI} {J : gb_FJ} : gb_R (gb_mk I J) 210 5 = some 216 := rf210_5
theorem gr217_0 {I : gb_FI} {J : gb_FJ} : gb_R (gb_mk I J) 217 0 = some 218 := rf217_0
theorem gr217_1 {I : gb_FI} {J : gb_FJ} : gb_R (gb_mk I J) 217 1 = some 219 := rf217_1
theorem gr217_2 {I : gb_FI} {J : gb_FJ} : gb_R (gb_mk I J) 217 2 = some 220 := rf217_2
theorem gr217_3 {I : gb_FI} {J : gb_FJ} : gb_R (gb_mk I J) 217 3 = some 221 := rf217_3
theorem gr217_4 {I : gb_FI} {J : gb_FJ} : gb_R (gb_mk I J) 217 4 = some 222 := rf217_4
theorem gr217_5 {I : gb_FI} {J : gb_FJ} : gb_R (gb_mk I J) 217 5 = some 223 := rf217_5
theorem gr224_0 {I : gb_FI} {J : gb_FJ} : gb_R (gb_mk I J) 224 0 = some 225 := rf224_0
theorem gr224_1 {I : gb_FI} {J : gb_FJ} : gb_R (gb_mk I J) 224 1 = some 226 := rf224_1
theorem gr224_2 {I : gb_FI} {J : gb_FJ} : gb_R (gb_mk I J) 224 2 = some 227 := rf224_2
theorem gr224_3 {I : gb_FI} {J : gb_FJ} : gb_R (gb_mk I J) 224 3 = some 228 := rf224_3
theorem gr224_4 {I : gb_FI} {J : gb_FJ} : gb_R (gb_mk I J) 224 4 = some 229 := rf224_4
theorem gr224_5 {I : gb_FI} {J : gb_FJ} : gb_R (gb_mk I J) 224 5 = some 230 := rf224_5
theorem gr231_0 {I : gb_FI} {J : gb_FJ} : gb_R (gb_mk I J) 231 0 = some 232 := rf231_0
theorem gr231_1 {I : gb_FI} {J : gb_FJ} : gb_R (gb_mk I J) 231 1 = some 233 := rf231_1
theorem gr231_2 {I : gb_FI} {J : gb_FJ} : gb_R (gb_mk I J) 231 2 = some 234 := rf231_2
theorem gr231_3 {I : gb_FI} {J : gb_FJ} : gb_R (gb_mk I J) 231 3 = some 235 := rf231_3
theorem gr231_4 {I : gb_FI} {J : gb_FJ} : gb_R (gb_mk I J) 231 4 = some 236 := rf231_4
theorem gr231_5 {I : gb_FI} {J : gb_FJ} : gb_R (gb_mk I J) 231 5 = some 237 := rf231_5
theorem gr241_2 {I : gb_FI} {J : gb_FJ} : gb_R (gb_mk I J) 241 2 = some 242 := rf241_2
theorem gr241_3 {I : gb_FI} {J : gb_FJ} : gb_R (gb_mk I J) 241 3 = some 243 := rf241_3
theorem gr241_4 {I : gb_FI} {J : gb_FJ} : gb_R (gb_mk I J) 241 4 = some 244 := rf241_4
theorem gr241_5 {I : gb_FI} {J : gb_FJ} : gb_R (gb_mk I J) 241 5 = some 245 := rf241_5
theorem gr241_7 {I : gb_FI} {J : gb_FJ} : gb_R (gb_mk I J) 241 7 = some 246 := rf241_7
theorem gr241_8 {I : gb_FI} {J : gb_FJ} : gb_R (gb_mk I J) 241 8 = some 247 := rf241_8
theorem gr241_11 {I : gb_FI} {J : gb_FJ} : gb_R (gb_mk I J) 241 11 = some 248 := rf241_11
theorem gr241_12 {I : gb_FI} {J : gb_FJ} : gb_R (gb_mk I J) 241 12 = some 249 := rf241_12
theorem gr241_13 {I : gb_FI} {J : gb_FJ} : gb_R (gb_mk I J) 241 13 = some 250 := rf241_13
theorem gr241_20 {I : gb_FI} {J : gb_FJ} : gb_R (gb_mk I J) 241 20 = some 251 := rf241_20
theorem gr241_21 {I : gb_FI} {J : gb_FJ} : gb_R (gb_mk I J) 241 21 = some 252 := rf241_21
theorem gr241_22 {I : gb_FI} {J : gb_FJ} : gb_R (gb_mk I J) 241 22 = some 253 := rf241_22
theorem gr241_26 {I : gb_FI} {J : gb_FJ} : gb_R (gb_mk I J) 241 26 = some 254 := rf241_26
theorem gr241_27 {I : gb_FI} {J : gb_FJ} : gb_R (gb_mk I J) 241 27 = some 255 := rf241_27
theorem gr241_28 {I : gb_FI} {J : gb_FJ} : gb_R (gb_mk I J) 241 28 = some 256 := rf241_28
theorem gr241_29 {I : gb_FI} {J : gb_FJ} : gb_R (gb_mk I J) 241 29 = some 257 := rf241_29
theorem gr241_31 {I : gb_FI} {J : gb_FJ} : gb_R (gb_mk I J) 241 31 = some 258 := rf241_31
theorem gr241_32 {I : gb_FI} {J : gb_FJ} : gb_R (gb_mk I J) 241 32 = some 259 := rf241_32
theorem gr241_33 {I : gb_FI} {J : gb_FJ} : gb_R (gb_mk I J) 241 33 = some 260 := rf241_33
theorem gr241_38 {I : gb_FI} {J : gb_FJ} : gb_R (gb_mk I J) 241 38 = some 261 := rf241_38
theorem gr241_39 {I : gb_FI} {J : gb_FJ} : gb_R (gb_mk I J) 241 39 = some 262 := rf241_39
theorem gr241_40 {I : gb_FI} {J : gb_FJ} : gb_R (gb_mk I J) 241 40 = some 263 := rf241_40
theorem gr241_41 {I : gb_FI} {J : gb_FJ} : gb_R (gb_mk I J) 241 41 = some 264 := rf241_41
theorem gr241_42 {I : gb_FI} {J : gb_FJ} : gb_R (gb_mk I J) 241 42 = some 265 := rf241_42
theorem gr241_43 {I : gb_FI} {J : gb_FJ} : gb_R (gb_mk I J) 241 43 = some 266 := rf241_43
theorem gr241_44 {I : gb_FI} {J : gb_FJ} : gb_R (gb_mk I J) 241 44 = some 267 := rf241_44
theorem gr241_45 {I : gb_FI} {J : gb_FJ} : gb_R (gb_mk I J) 241 45 = some 268 := rf241_45
