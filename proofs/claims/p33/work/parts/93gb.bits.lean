/-! which priorities there are -/
def bitP (x P : Int) : Int := andI (shrI x P) 1
theorem bitP_c : ∀ x : Nat, x < 1024 → ∀ p : Nat, p < 10 → (0 ≤ orI x (shlI 1 p) ∧ orI x (shlI 1 p) < 1024) ∧ bitP (orI x (shlI 1 p)) p = 1 ∧ ∀ P : Nat, P < 10 → bitP x P = 1 → bitP (orI x (shlI 1 p)) P = 1 := by decide +kernel
theorem bitP_r : ∀ x : Nat, x < 1024 → ∀ P : Nat, P < 10 → bitP x P = 0 ∨ bitP x P = 1 := by decide +kernel
theorem bitP_or {x p : Int} (hx : 0 ≤ x ∧ x < 1024) (hp : 0 ≤ p ∧ p ≤ 9) : (0 ≤ orI x (shlI 1 p) ∧ orI x (shlI 1 p) < 1024) ∧ bitP (orI x (shlI 1 p)) p = 1 ∧ ∀ P : Int, 0 ≤ P ∧ P ≤ 9 → bitP x P = 1 → bitP (orI x (shlI 1 p)) P = 1 := by
  obtain ⟨k, hk, rfl⟩ := toN (n := 1024) hx
  obtain ⟨j, hj, rfl⟩ := toN (n := 10) (d := p) (by omega)
  obtain ⟨h1, h2, h3⟩ := bitP_c k (by omega) j (by omega)
  refine ⟨h1, h2, fun P hP => ?_⟩
  obtain ⟨i, hi, rfl⟩ := toN (n := 10) (d := P) (by omega)
  exact h3 i (by omega)
theorem bitP_rng {x P : Int} (hx : 0 ≤ x ∧ x < 1024) (hp : 0 ≤ P ∧ P ≤ 9) : bitP x P = 0 ∨ bitP x P = 1 := by
  obtain ⟨k, hk, rfl⟩ := toN (n := 1024) hx
  obtain ⟨j, hj, rfl⟩ := toN (n := 10) (d := P) (by omega)
  exact bitP_r k (by omega) j (by omega)
