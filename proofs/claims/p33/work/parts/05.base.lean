/-- more room for those that wait: wanted places, the new ones 0 -/
def hGrow (H : hR) (w : Int) : hR := (fun t a b => if t = 4 ∧ a = 1 ∧ b = 0 then w else if t = 5 ∧ H.1 4 1 0 ≤ b then 0 else H.1 t a b, H.2)
noncomputable def fX5_makeRoom (x1 : Int) (H : hR) : Option (Unit × hR) :=
  gd (wR x1 ∧ wR (H.1 4 1 0)) <|
  if x1 ≤ H.1 4 1 0 then (
    some ((), H))
  else (
    gd (64 ≤ H.1 4 1 0 ∧ 2 * H.1 4 1 0 ≤ x1 ∧ x1 ≤ 16384) <|
    some ((), hGrow H x1))
def now0 (j : Int) : Int := if j = 9 then 3 else if j = 10 then 250 else if j = 11 then 120 else 0
/-! the first state -/
def H0 : hR := (fun t a b => if t = 0 ∧ a = 7 ∧ b = 0 then 3 else if t = 0 ∧ a = 8 ∧ b = 0 then 250 else if t = 0 ∧ a = 9 ∧ b = 0 then 120 else if t = 4 ∧ a = 1 ∧ b = 0 then 64 else 0, fun _ => 0)
def C0 : cR := (fun _ => H0, fun _ _ => 0, fun _ _ => 0)
def M0 : mR := (fun t j => if t = 0 then now0 j else 0, fun _ _ => 0)
def G0 : gR := (C0, M0)
/-- the columns' room -/
def rmN (H : hR) : Nat := (H.1 4 1 0).toNat
def phi (G : gR) : Nat := ((List.range 11).map (fun k : Nat => rmN (G.1.1 k))).sum
