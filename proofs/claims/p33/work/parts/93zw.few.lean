/-! ===== a few of whole's rows that stood among the texts ===== -/
theorem pS_p (p : Int → Int → Int) (t a v : Int) : pS p t a v t a = v := if_pos ⟨rfl, rfl⟩
theorem pS_n (p : Int → Int → Int) {t a v t' a' : Int} (h : ¬ (t' = t ∧ a' = a)) : pS p t a v t' a' = p t' a' := if_neg h
theorem ev_isErr {x : Int} (h : wR x) : fX6_isError x = some (bI (decide (-5 ≤ x ∧ x ≤ -1))) := by
  unfold fX6_isError
  rw [ev_bt (by omega), cr_some]
  have := bI_rng (decide (-5 ≤ x ∧ x ≤ -1))
  rw [gd_pos (by omega)]
