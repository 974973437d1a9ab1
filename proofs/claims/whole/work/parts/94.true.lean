/-! ===== what the pure part gives ===== -/
theorem law_true (ln : Nat) (xs : Int → Int) (hln : ln ≤ 3584) (hx : ∀ j, wR (xs j)) : ∃ G', fL_law_b18 ln xs fuel0 0 G0 = some (1, G') ∧ phi G' ≤ 180224 := law_all ln xs hln hx
