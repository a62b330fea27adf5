section UNIT
def zbr (e : gb_br) : zq := zb (e.1 : Nat) e.2.1 e.2.2.1
def zdl (s t : Nat) : zq := if s = t then z1 else zZ
/-- one grain, the branches of two seats against each other -/
def zSS (p : gb_P) (s t : Nat) : zq := zLs (gb_tb p 2 s) (fun a => zLs (gb_tb p 2 t) (fun b => zM (zbr a) (zM (zJ (zbr b)) (zdl a.2.2.2 b.2.2.2))))
def zRS (p : gb_P) (s t : Nat) : zq := if s = t then zb (((if s = 0 then 1 else gb_ba p) * (if s = 0 then 1 else gb_ba p) : Nat) : Int) 0 0 else zZ
def zck (p : gb_P) (s t : Nat) : Bool := decide (zSS p s t = zRS p s t)
theorem zu1 : ∀ f, f < 5 → ∀ k, k < 3 → ∀ s, s < 17 → ∀ t, t < 17 → zck (1, f, 0, k + 1, 0, 0, 0, 0, 0) s t = true := by decide +kernel
end UNIT
