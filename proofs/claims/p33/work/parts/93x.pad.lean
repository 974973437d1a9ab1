/-! ===== the text ===== -/
/-- the same text on both sides: its length, its signs -/
def padR (c : cR) (m : mR) : Prop := c.2.2 0 1 = m.1 6 10 ∧ (0 ≤ m.1 6 10 ∧ m.1 6 10 ≤ 80) ∧ ∀ j : Int, 0 ≤ j ∧ j < m.1 6 10 → c.2.2 1 j = m.1 5 j ∧ 33 ≤ m.1 5 j ∧ m.1 5 j ≤ 126
theorem ls_wipe {c : cR} {m : mR} (h : padR c m) : ∃ r c' m', fX6_wipe c = some (r, c') ∧ fX7_wipe m = some (r, m') ∧ wR r ∧ c'.1 = c.1 ∧ c'.2.1 = c.2.1 ∧ padR c' m' ∧ (∀ t : Int, ¬ t = 6 → m'.1 t = m.1 t) ∧ m'.2 = m.2 ∧ ∀ k : Int, ¬ k = 10 → m'.1 6 k = m.1 6 k := by
  obtain ⟨h1, h2, h3⟩ := h
  refine ⟨m.1 6 10, cP c (pS c.2.2 0 1 0), mS m 6 10 0, po_eq ?_, po_eq ?_, by omega, rfl, rfl, ⟨?_, ?_, fun j hj => ?_⟩, fun t ht => mS_t m _ _ ht, rfl, fun k hk => mS_n m (by omega)⟩
  · unfold fX6_wipe
    rw [h1]
    exact po_bnd (po_some rfl)
  · unfold fX7_wipe
    exact po_bnd (po_some rfl)
  · rw [mS_p]
    rfl
  · rw [mS_p]
    omega
  · rw [mS_p] at hj
    omega
