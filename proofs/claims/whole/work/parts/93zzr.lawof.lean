/-! ===== all but owedBits ===== -/
theorem law_of (hOw : ∀ {T : Int} {c : cR} {m : mR}, Sim T (c.1 0) m → 0 ≤ T ∧ T ≤ 100000 → ∀ {a : Int}, wR a → ∃ r : Int, fX6_owedBits a c = some r ∧ fX7_owedBits a m = some r) (ln : Nat) (xs : Int → Int) (hln : ln ≤ 3584) (hx : ∀ j, wR (xs j)) : ∃ G', fL_law_b18 ln xs fuel0 0 G0 = some (1, G') ∧ phi G' ≤ 180224 := by
  refine law_ind hOw (fun v _ => ?_) (fun v w => ?_) hln hx (ln / 7) fuel0 0 0 0 0 C0 M0 (by show _ < 1000000; omega) (by omega) (by omega) (by omega) (by omega) (by omega) (by omega) (by omega) (by omega) iv_start
  · have h1 := Int32.toInt_lt (iI v &&& iI 31)
    have h2 := Int32.le_toInt (iI v &&& iI 31)
    unfold andI
    omega
  · have h1 := Int64.toInt_lt (jL (lshlI v 32) ||| jL (landI w 4294967295))
    have h2 := Int64.le_toInt (jL (lshlI v 32) ||| jL (landI w 4294967295))
    unfold lorI
    omega
